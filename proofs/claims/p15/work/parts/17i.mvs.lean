section MVS
variable {S S' S'' : iS} {L : List Int}
/-- bytes are no -1 -/
def byt (S : iS) : Prop := ∀ c ∈ gv S 82 2 83, 0 ≤ c
theorem byt_mRs (h : byt S) : ∀ c ∈ mRs S, 0 ≤ c := fun c hc => h c (List.mem_of_mem_drop hc)
theorem byt_fr {F R : Nat → Prop} (h : byt S) (hf : fr F R S S') (h2 : ¬ F 2) (h83 : ¬ R 83) : byt S' := by
  unfold byt gv
  rw [hf.1 82 2 (fun q => h2 q.2), hf.2.1 83 h83]
  exact h
theorem byt_lo (h : byt S) (hl : lo S S') : byt S' := by
  unfold byt gv
  rw [hl.1 82 2 (by omega), hl.2.2.2 83 (by omega)]
  exact h
/-- the VALUES that are kept beside -/
def owd (S : iS) (vs : List vT) : Prop := ∀ c, c < vs.length → (jA S 106).getD c 0 = (vs.getD c (0, 0, [])).1 ∧ (jA S 107).getD c 0 = (vs.getD c (0, 0, [])).2.1 ∧ nmAt (jA S 108) (9 * c) (vs.getD c (0, 0, [])).2.2 ∧ (vs.getD c (0, 0, [])).2.2.length ≤ 8
def vsE : List Int → List Int → Option (List vT × List Int)
  | [], r => some ([], r)
  | k :: ks, r => (enE (vlS k (skb r))).bind fun q => (vsE ks q.2).map fun p => (q.1 :: p.1, p.2)
abbrev RO (a : Nat) : Prop := a = 103 ∨ a = 106 ∨ a = 107 ∨ a = 108
theorem l7_vs {he : List (List Int × Int)} {l1 l2 l3 l4 l5 : Int} : ∀ (ks : List Int) (n : Nat) (S : iS) (vs : List vT), uM S → byt S → mHe S he → ks = (he.map (fun h => h.2)).drop vs.length → vs.length ≤ he.length → owd S vs → ks.length + 1 < n → ∃ S1 c', j_X7_readArc_123 n l1 l2 l3 l4 l5 vs.length S = j_X7_readArc_203 l1 l2 l3 l4 l5 c' S1 ∧ fr FD RO S S1 ∧ zS S1 ∧ rs (vsE ks (mRs S)) S1 (fun q => owd S1 (vs ++ q.1) ∧ mRs S1 = q.2) := by
  intro ks
  induction ks with
  | nil =>
    intro n S vs u hb hh hks hle ho hn
    obtain ⟨n, rfl⟩ : ∃ m, n = m + 1 := ⟨n - 1, by rw [List.length_nil] at hn; omega⟩
    have l90 : (jA S 90).length = 2 := u.1.1 90
    have hlen : he.length ≤ vs.length := by
      have := congrArg List.length hks
      rw [List.length_drop, List.length_map, List.length_nil] at this
      omega
    refine ⟨S, vs.length, ?_, fr_refl, u.1.1, u, by rw [List.append_nil]; exact ho, rfl⟩
    rw [j_X7_readArc_123, hh.1]
    exact it (by omega) (it (by omega) rfl)
  | cons k ks ih =>
    intro n S vs u hb hh hks hle ho hn
    rw [List.length_cons] at hn
    obtain ⟨n, rfl⟩ : ∃ m, n = m + 2 := ⟨n - 2, by omega⟩
    have a1 := u.1.2.2.1
    have a2 := u.1.2.2.2.1
    have a3 := u.2.2
    have l90 : (jA S 90).length = 2 := u.1.1 90
    have h3 := hh.2.1
    have hlt : vs.length < he.length := by
      have := congrArg List.length hks
      rw [List.length_drop, List.length_map, List.length_cons] at this
      omega
    obtain ⟨_, _, k1, k2, k3⟩ := hh.2.2 vs.length hlt
    have hk : (he.getD vs.length ([], 0)).2 = k ∧ ks = (he.map (fun h => h.2)).drop (vs.length + 1) := by
      have hkl : vs.length < (he.map (fun h => h.2)).length := by rw [List.length_map]; exact hlt
      rw [List.drop_eq_getElem_cons hkl, List.getElem_map] at hks
      obtain ⟨q1, q2⟩ := List.cons.inj hks
      refine ⟨?_, q2⟩
      rw [List.getD_eq_getElem?_getD, List.getElem?_eq_getElem hlt]
      exact q1.symm
    rw [hk.1] at k1 k2 k3
    obtain ⟨p, e1, m1, p1, p2, p3⟩ := e7_blanks u.1
    have u1 := uM_at u p1 (p2 a3)
    have hb1 : byt (kI S 82 27 p) := hb
    obtain ⟨S2, e2, f2, n2, r2⟩ := e7_value u1 (byt_mRs hb1) k2 k3
    rw [m1] at r2
    have fS2 : fr FD RN S S2 := fr_trans (fr_kI (by omega)) f2
    have z2 : zS S2 := by
      cases hq : enE (vlS k (skb (mRs S))) with
      | none => rw [hq] at r2; exact r2.1.1
      | some q => rw [hq] at r2; exact r2.1.1.1
    have eend : j_X7_ended S2 = some S2 := by
      cases hq : enE (vlS k (skb (mRs S))) with
      | none => rw [hq] at r2; exact e7_endedF r2.2.1
      | some q =>
        rw [hq] at r2
        refine e7_endedT r2.1.1 ?_
        rw [r2.2.1]
        cases hv : vlS k (skb (mRs S)) with
        | none => rw [hv] at hq; cases hq
        | some b =>
          rw [hv, enE_some] at hq
          by_cases hE : isE b.2
          · rw [if_pos hE] at hq; cases hq; exact hE
          · rw [if_neg hE] at hq; cases hq
    have l106 : (jA S2 106).length = 3 := z2 106
    have l107 : (jA S2 107).length = 3 := z2 107
    have l108 : (jA S2 108).length = 27 := z2 108
    have lay : ∀ ms, nmd S2 ms → ∃ L, j_X7_layName 108 (9 * (vs.length : Int)) (kA (kA S2 106 ((jA S2 106).set vs.length (jI S2 82 33))) 107 ((jA S2 107).set vs.length (jI S2 82 34))) = some (kA (kA (kA S2 106 ((jA S2 106).set vs.length (jI S2 82 33))) 107 ((jA S2 107).set vs.length (jI S2 82 34))) 108 L) ∧ L.length = 27 ∧ (∀ i, i < 9 * vs.length ∨ 9 * vs.length + ms.length + 1 ≤ i → L.getD i 0 = (jA S2 108).getD i 0) ∧ nmAt L (9 * vs.length) ms := by
      intro ms hms
      have zz : zS (kA (kA S2 106 ((jA S2 106).set vs.length (jI S2 82 33))) 107 ((jA S2 107).set vs.length (jI S2 82 34))) := zS_kA (zS_set z2) (by rw [List.length_set]; exact z2 107)
      have hm' : nmd (kA (kA S2 106 ((jA S2 106).set vs.length (jI S2 82 33))) 107 ((jA S2 107).set vs.length (jI S2 82 34))) ms := by unfold nmd; rw [jA_ne (by decide), jA_ne (by decide)]; exact hms
      have e108 : jA (kA (kA S2 106 ((jA S2 106).set vs.length (jI S2 82 33))) 107 ((jA S2 107).set vs.length (jI S2 82 34))) 108 = jA S2 108 := by rw [jA_ne (by decide), jA_ne (by decide)]
      obtain ⟨L, eL, lL, oL, nL⟩ := e7_lay zz hm' (a := 108) (p := 9 * vs.length) (by decide) (by rw [e108]; omega)
      rw [e108] at lL oL
      refine ⟨L, ?_, by omega, oL, nL⟩
      rw [show 9 * (vs.length : Int) = ((9 * vs.length : Nat) : Int) by omega]
      exact eL
    obtain ⟨ms0, hms0⟩ := n2
    have h91 : (jA (kI S 82 27 p) 91).length = 6 := u.1.1 91
    have main : ∀ ms, nmd S2 ms → ∃ S3, (∀ X, j_X7_readArc_123 (n + 1) l1 l2 l3 l4 l5 ((vs.length : Int) + 1) S3 = X → j_X7_readArc_123 (n + 2) l1 l2 l3 l4 l5 vs.length S = X) ∧ zS S3 ∧ fr FD RO S S3 ∧ (∀ f, jI S3 82 f = jI S2 82 f) ∧ mRs S3 = mRs S2 ∧ (jA S3 106) = (jA S2 106).set vs.length (jI S2 82 33) ∧ (jA S3 107) = (jA S2 107).set vs.length (jI S2 82 34) ∧ (∀ i, i < 9 * vs.length → (jA S3 108).getD i 0 = (jA S2 108).getD i 0) ∧ nmAt (jA S3 108) (9 * vs.length) ms := by
      intro ms hms
      obtain ⟨L, eL, lL, oL, nL⟩ := lay ms hms
      refine ⟨kA (kA (kA S2 106 ((jA S2 106).set vs.length (jI S2 82 33))) 107 ((jA S2 107).set vs.length (jI S2 82 34))) 108 L, fun X hX => ?_, ?_, ?_, fun f => rfl, ?_, ?_, ?_, fun i hi => ?_, ?_⟩
      · rw [j_X7_readArc_123, hh.1]
        refine it (by omega) (ie (by omega) (ie (nn u.2.1) ?_))
        rw [e1, Option.bind_some, show ((3 : Int) + (vs.length : Int)).toNat = 3 + vs.length by omega, jA_kI, k1]
        refine it ⟨by omega, by omega⟩ (it ⟨by omega, by rw [jA_kI] at h91; omega⟩ ?_)
        rw [e2, Option.bind_some, eend, Option.bind_some]
        refine it ⟨by omega, by omega⟩ (it ⟨by omega, by omega⟩ (it ⟨by omega, by omega⟩ ?_))
        rw [show ((vs.length : Int)).toNat = vs.length by omega, eL, Option.bind_some]
        exact it ⟨by omega, by omega⟩ hX
      · exact zS_kA (zS_kA (zS_set z2) (by rw [List.length_set]; exact z2 107)) lL
      · exact fr_trans (fr_mono fS2 (fun _ q => q) (fun a q => by omega)) (fr_trans (fr_kA (by omega)) (fr_trans (fr_kA (by omega)) (fr_kA (by omega))))
      · rw [mRs_kA (by decide), mRs_kA (by decide), mRs_kA (by decide)]
      · rw [jA_ne (by decide), jA_ne (by decide), jA_eq]
      · rw [jA_ne (by decide), jA_eq]
      · rw [jA_eq]; exact oL i (.inl hi)
      · rw [jA_eq]; exact nL
    rw [vsE]
    cases hq : enE (vlS k (skb (mRs S))) with
    | none =>
      rw [hq] at r2
      obtain ⟨S3, st, z3, f3, i3, m3, _, _, _, _⟩ := main ms0 hms0
      have v3 : vM S3 := by
        obtain ⟨⟨_, b1⟩, b2⟩ := r2
        refine ⟨⟨z3, ?_⟩, ?_⟩
        · rw [i3, i3]; exact b1
        · rw [i3, i3, i3]; exact b2
      have l90' : (jA S3 90).length = 2 := z3 90
      refine ⟨S3, (vs.length : Int) + 1, st _ ?_, f3, z3, v3⟩
      rw [j_X7_readArc_123]
      refine it (by omega) ?_
      by_cases hc : (jA S3 90).getD 1 0 ≤ (vs.length : Int) + 1
      · exact it hc rfl
      · exact ie hc (it v3.2.1 rfl)
    | some q =>
      rw [hq] at r2
      obtain ⟨u2, mq, sq, tq, nq⟩ := r2
      obtain ⟨S3, st, z3, f3, i3, m3, e106, e107, o108, n108⟩ := main q.1.2.2 nq
      have u3 : uM S3 := by
        obtain ⟨⟨_, b1⟩, b2⟩ := u2
        refine ⟨⟨z3, ?_⟩, ?_⟩
        · rw [i3, i3]; exact b1
        · rw [i3, i3, i3]; exact b2
      have hh3 : mHe S3 he := mHe_eq hh (f3.2.1 90 (by decide)) (f3.2.1 91 (by decide)) (f3.2.1 92 (by decide))
      have ho3 : owd S3 (vs ++ [q.1]) := by
        intro c hc
        rw [List.length_append, List.length_singleton] at hc
        by_cases ec : c = vs.length
        · rw [show (vs ++ [q.1]).getD c (0, 0, []) = q.1 from by rw [getD_appG, if_neg (by omega), if_pos ec], e106, e107, getD_set, getD_set, if_pos ⟨ec, by omega⟩, if_pos ⟨ec, by omega⟩, ec]
          exact ⟨sq, tq, n108, nmd_le nq⟩
        · rw [show (vs ++ [q.1]).getD c (0, 0, []) = vs.getD c (0, 0, []) from by rw [getD_appG, if_pos (by omega)], e106, e107, getD_set, getD_set, if_neg (by omega), if_neg (by omega)]
          obtain ⟨o1, o2, o3, o4⟩ := ho c (by omega)
          refine ⟨?_, ?_, nmAt_eq o3 (fun j j1 j2 => ?_), o4⟩
          · rw [fS2.2.1 106 (by decide)]; exact o1
          · rw [fS2.2.1 107 (by decide)]; exact o2
          · rw [o108 j (by omega), fS2.2.1 108 (by decide)]
      obtain ⟨S4, c', e4, f4, z4, r4⟩ := ih (n + 1) S3 (vs ++ [q.1]) u3 (byt_fr hb f3 (by decide) (by decide)) hh3 (by rw [List.length_append, List.length_singleton]; exact hk.2) (by rw [List.length_append, List.length_singleton]; omega) ho3 (by omega)
      rw [List.length_append, List.length_singleton] at e4
      refine ⟨S4, c', st _ ?_, fr_trans f3 f4, z4, ?_⟩
      · rw [show (vs.length : Int) + 1 = ((vs.length + 1 : Nat) : Int) by omega]
        exact e4
      · rw [m3, mq] at r4
        rw [Option.bind_some]
        refine rs_map (rs_mono r4 fun v _ hv => ?_)
        rw [List.append_assoc] at hv
        exact hv
theorem vlS_end {k : Int} {r : List Int} (h : hd r = -1) : vlS k r = none := by
  rw [vlS, if_neg (by omega)]
  have h1 : ¬ isPln (hd r) := by omega
  have h2 : ¬ isFig (hd r) := by omega
  by_cases hk : k = 2 ∨ (k = 3 ∧ hd r = 34)
  · rw [if_pos hk, nmS, if_neg (by omega), if_neg h1]; rfl
  · rw [if_neg hk]
    by_cases hk3 : k = 3
    · rw [if_pos hk3, gsS, if_pos h1]
    · rw [if_neg hk3, numS, if_pos h2]
/-- the VALUES and the LINE's end behind them: the two ways agree -/
theorem vsE_S {α : Type} {K : List vT → List Int → Option α} : ∀ (ks : List Int) (r : List Int), isE r → ((vsE ks r).bind fun v => (leS v.2).bind fun r3 => K v.1 r3) = ((vsS ks r).bind fun v => (leS v.2).bind fun r3 => K v.1 r3) := by
  intro ks
  induction ks generalizing K with
  | nil => intro r _; rfl
  | cons k ks ih =>
    intro r hE
    rw [vsE, vsS]
    by_cases h32 : hd r = 32
    · rw [gpS, if_pos h32, Option.bind_some]
      cases hv : vlS k (skb r) with
      | none => rfl
      | some q =>
        rw [enE_some, Option.bind_some]
        by_cases hq : isE q.2
        · rw [if_pos hq, Option.bind_some]
          have := ih (K := fun v r3 => K (q.1 :: v) r3) q.2 hq
          cases h1 : vsE ks q.2 with
          | none =>
            rw [h1] at this
            cases h2 : vsS ks q.2 with
            | none => rfl
            | some w => rw [h2] at this; exact this
          | some w1 =>
            rw [h1] at this
            cases h2 : vsS ks q.2 with
            | none => rw [h2] at this; exact this
            | some w => rw [h2] at this; exact this
        · rw [if_neg hq]
          cases ks with
          | nil =>
            show none = ((leS q.2).bind fun r3 => K [q.1] r3)
            cases h5 : leS q.2 with
            | none => rfl
            | some r3 => exact absurd (leS_E h5) hq
          | cons k' ks' =>
            rw [vsS, gpS, if_neg (fun q' => hq (.inl q'))]
            rfl
    · have h1 : hd r = -1 := hE.resolve_left h32
      rw [gpS, if_neg h32, skb_e h32, vlS_end h1]
      rfl
end MVS
