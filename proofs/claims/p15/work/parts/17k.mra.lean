section MRA
variable {S S' S'' : iS} {L : List Int}
theorem lo_nd (h : fr FW RNd S S') (h85 : ∀ i, i < 270 → (jA S' 85).getD i 0 = (jA S 85).getD i 0) (h84 : (jA S' 84).getD 0 0 = (jA S 84).getD 0 0) : lo S S' := by
  refine ⟨fun a f q => h.1 a f (fun k => q ⟨k.1, by have := k.2; omega⟩), h.2.2, fun a i q => ?_, fun a q => h.2.1 a (fun k => q (by omega))⟩
  by_cases e : RNd a
  · rcases e with e | e <;> subst e
    · rw [show lw 84 = 1 from rfl] at q
      rw [show i = 0 by omega]; exact h84
    · rw [show lw 85 = 270 from rfl] at q
      exact h85 i q
  · rw [h.2.1 a e]
theorem vsE_len : ∀ (ks r : List Int) (q : List vT × List Int), vsE ks r = some q → q.1.length = ks.length := by
  intro ks
  induction ks with
  | nil => intro r q h; cases h; rfl
  | cons k ks ih =>
    intro r q h
    rw [vsE] at h
    cases h1 : enE (vlS k (skb r)) with
    | none => rw [h1] at h; cases h
    | some v =>
      rw [h1, Option.bind_some] at h
      cases h2 : vsE ks v.2 with
      | none => rw [h2] at h; cases h
      | some w =>
        rw [h2] at h
        cases h
        rw [List.length_cons, List.length_cons, ih v.2 w h2]
theorem enE_of {α : Type} {o : Option (α × List Int)} {q : α × List Int} (h : enE o = some q) : o = some q ∧ isE q.2 := by
  cases o with
  | none => cases h
  | some b =>
    rw [enE_some] at h
    by_cases hE : isE b.2
    · rw [if_pos hE] at h; cases h; exact ⟨rfl, hE⟩
    · rw [if_neg hE] at h; cases h
theorem enE_no {α : Type} {o : Option (α × List Int)} {q : α × List Int} (h : enE o = none) (ho : o = some q) : ¬ isE q.2 := by
  intro hE
  rw [ho, enE_some, if_pos hE] at h
  cases h
/-- the end of an ARC -/
theorem e7_203 {G : gT} (u : uM S) (hg : mG S G) (hw : gWa G = true) (hli : (gLi G).length ≤ 600) (hlo : 0 ≤ gLo G ∧ gLo G ≤ 600) {vs : List vT} (ho : owd S vs) (hvs : vs.length = (gHe G).length) {l1 f l3 t l5 l6 : Int} (hl0 : 0 ≤ l1) (hl1 : l1 ≤ 1000) {db : Bool} (hdb : ¬ l5 = 0 ↔ db = true) : ∃ S', j_X7_readArc_203 l1 f l3 t l5 l6 S = some S' ∧ lo S S' ∧ rs ((leS (mRs S)).bind fun r3 => if db = true ∧ jI S 82 3 = 1 then some (((gNo G, gHe G, gCo G, gAr G, gLi G, gLo G + 1, gCt G, true) : gT), r3) else if 40 ≤ (gAr G).length then none else some (((gNo G, gHe G, gCo G, gAr G ++ [(f, t, jI S 82 28, vs)], gLi G ++ [3], gLo G, gCt G, true) : gT), r3)) S' (fun q => mG S' q.1 ∧ mRs S' = q.2) := by
  have a1 := u.1.2.2.1
  have a2 := u.1.2.2.2.1
  have a3 := u.2.2
  obtain ⟨p, e1, m1, p1, p2, p3⟩ := e7_blanks u.1
  have u1 := uM_at u p1 (p2 a3)
  have f1 : fr FN RN S (kI S 82 27 p) := fr_kI (by omega)
  have hg1 := mG_fr hg f1 (by decide) (by decide) (fun a q => by omega) (by decide)
  have lo1 := lo_FN f1
  have ho1 : owd (kI S 82 27 p) vs := ho
  have i3 : jI (kI S 82 27 p) 82 3 = jI S 82 3 := jI_ne (.inr (by decide))
  have i28 : jI (kI S 82 27 p) 82 28 = jI S 82 28 := jI_ne (.inr (by decide))
  have i27 : jI (kI S 82 27 p) 82 27 = p := jI_eq
  have hp6 : p ≤ 600 := by have := p2 a3; omega
  have hpg : 0 ≤ p := by omega
  unfold j_X7_readArc_203
  rw [e1, Option.bind_some, e7_here u1.1, Option.bind_some, m1]
  generalize kI S 82 27 p = T at *
  dsimp only
  by_cases hd1 : hd (skb (mRs S)) = -1
  · rw [show leS (mRs S) = some (skb (mRs S)) by unfold leS; rw [if_pos hd1], Option.bind_some]
    have l86 : (jA T 86).length = 2 := u1.1.1 86
    have l96 : (jA T 96).length = 2 := u1.1.1 96
    have c86 := hg1.2.2.2.1.1
    have c96 := hg1.2.2.2.2.2.1
    have h40 := hg1.2.2.2.1.2.1
    unfold j_X7_readArc_224
    by_cases hman : db = true ∧ jI S 82 3 = 1
    · rw [if_pos hman]
      have z2 : zS (kA T 96 ((jA T 96).set 1 (gLo G + 1))) := zS_set u1.1.1
      refine ⟨kA T 96 ((jA T 96).set 1 (gLo G + 1)), it hd1 (ie (nn u1.2.1) (ie (hdb.mpr hman.1) (ie (nn (i3.trans hman.2)) (it (by omega) ?_)))), lo_trans lo1 (lo_set (by omega) (by decide)), uM_kA u1 z2, ?_, by rw [mRs_kA (by decide)]; exact m1⟩
      · rw [c96]
        exact it ⟨by omega, by omega⟩ rfl
      · obtain ⟨g1, g2, g3, g4, g5, g6, g7, g8⟩ := hg1
        refine ⟨mNo_eq g1 (jA_ne (by decide)) (jA_ne (by decide)), mHe_eq g2 (jA_ne (by decide)) (jA_ne (by decide)) (jA_ne (by decide)), mCo_eq g3 (jA_ne (by decide)) (jA_ne (by decide)), mAr_eq g4 (jA_ne (by decide)) (jA_ne (by decide)) (jA_ne (by decide)) (jA_ne (by decide)) (jA_ne (by decide)) (jA_ne (by decide)) (jA_ne (by decide)), mLi_eq g5 (jA_ne (by decide)) (jA_ne (by decide)), ?_, mCt_eq g7 rfl (jA_ne (by decide)) (jA_ne (by decide)), ?_⟩
        · rw [jA_eq, getD_set, if_pos ⟨rfl, by omega⟩]; rfl
        · rw [hw] at g8; exact g8
    · rw [if_neg hman]
      have h257 : ∀ X, j_X7_readArc_257 l1 f l3 t l5 l6 T = X → (if ¬ (jI T 82 30) = (0 : Int) then (j_X7_readArc_257 l1 f l3 t l5 l6 T) else (if l5 = (0 : Int) then (j_X7_readArc_257 l1 f l3 t l5 l6 T) else (if ¬ (jI T 82 3) = (1 : Int) then (j_X7_readArc_257 l1 f l3 t l5 l6 T) else (if 1 < (jA T 96).length then (if rg (((jA T 96).getD 1 0) + (1 : Int)) then (j_X7_readArc_299 l1 f l3 t l5 l6 (kA T 96 ((jA T 96).set 1 (((jA T 96).getD 1 0) + (1 : Int))))) else none) else none)))) = X := by
        intro X hX
        refine ie (nn u1.2.1) ?_
        by_cases h5 : l5 = 0
        · exact it h5 hX
        · refine ie h5 (it (fun q => hman ⟨hdb.mp h5, i3.symm.trans q⟩) hX)
      by_cases hf : 40 ≤ (gAr G).length
      · rw [if_pos hf]
        refine ⟨kI (kI T 82 30 6) 82 31 l1, it hd1 (h257 _ ?_), lo_trans lo1 (lo_trans (lo_kI (by omega)) (lo_kI (by omega))), vM_w' u1.1 (by decide) hl0 hl1 (by omega)⟩
        unfold j_X7_readArc_257 j_X7_readArc_299
        refine ie (nn u1.2.1) (it (by omega) (ie (nn (by rw [c86]; omega)) ?_))
        rw [e7_wrong0 u1.2.1]
        rfl
      · rw [if_neg hf]
        obtain ⟨S', e2, lo2, u2, m2, g2⟩ := e7_layArc u1 hg1 hli ho1 hvs (by omega) (f := f) (t := t) rfl hw
        rw [i28] at g2
        refine ⟨S', it hd1 (h257 _ ?_), lo_trans lo1 lo2, u2, g2, m2.trans m1⟩
        unfold j_X7_readArc_257 j_X7_readArc_285 j_X7_readArc_299
        refine ie (nn u1.2.1) (it (by omega) (it (by rw [c86]; omega) (ie (nn u1.2.1) ?_)))
        rw [e2]
        rfl
  · rw [show leS (mRs S) = none by unfold leS; rw [if_neg hd1]]
    have v1 : vM (kI (kI T 82 30 1) 82 31 (jI T 82 27)) := vM_w' u1.1 (by decide) (by omega) (by omega) (by omega)
    refine ⟨kI (kI T 82 30 1) 82 31 (jI T 82 27), ie hd1 ?_, lo_trans lo1 (lo_trans (lo_kI (by omega)) (lo_kI (by omega))), v1⟩
    rw [e7_wrong0 u1.2.1, Option.bind_some]
    unfold j_X7_readArc_224 j_X7_readArc_257 j_X7_readArc_285 j_X7_readArc_299
    exact it v1.2.1 (it v1.2.1 (it v1.2.1 rfl))
/-- an ARC behind its two NODES -/
theorem e7_66 {G : gT} {N : List (List Int)} (u : uM S) (hb : byt S) (hN : mNo S N) (hg : mHe S (gHe G) ∧ mCo S (gCo G) ∧ mAr S (gHe G).length (gAr G) ∧ mLi S (gLi G) ∧ (jA S 96).getD 1 0 = gLo G ∧ mCt S (gCt G)) (hli : (gLi G).length ≤ 600) (hlo : 0 ≤ gLo G ∧ gLo G ≤ 600) (hE : isE (mRs S)) {l1 f l3 t : Int} (hl0 : 0 ≤ l1) (hl1 : l1 ≤ 1000) (h30 : 0 ≤ l3) (h31 : l3 ≤ 1000) : ∃ S', j_X7_readArc_66 l1 f l3 t S = some S' ∧ lo S S' ∧ rs (arE (jI S 82 3) (jI S 82 28) G N f t (mRs S)) S' (fun q => mG S' q.1 ∧ mRs S' = q.2) := by
  have a1 := u.1.2.2.1
  have a2 := u.1.2.2.2.1
  have a3 := u.2.2
  obtain ⟨h2, h3, h4, h5, h6, h7⟩ := hg
  have hdbl := e7_db u.1.1 h4 (f := f) (t := t)
  have h66 : ∀ X, j_X7_readArc_90 l1 f l3 t (bi (dbS (gAr G) f t = true)) S = X → j_X7_readArc_66 l1 f l3 t S = X := by
    intro X hX
    unfold j_X7_readArc_66 j_X7_readArc_89
    refine ie (nn u.2.1) ?_
    rw [hdbl, Option.bind_some]
    dsimp only
    by_cases hd1 : dbS (gAr G) f t = true
    · rw [bi_t hd1] at hX ⊢
      exact ie (by decide) hX
    · rw [bi_f hd1] at hX ⊢
      exact it rfl hX
  unfold arE
  by_cases hman : dbS (gAr G) f t = true ∧ jI S 82 3 = 2
  · rw [if_pos hman]
    have v1 : vM (kI (kI S 82 30 5) 82 31 l3) := vM_w' u.1 (by decide) h30 h31 (by omega)
    obtain ⟨S', e, lo1, v2⟩ := v7_111 v1 (l1 := l1) (l2 := f) (l3 := l3) (l4 := t) (l5 := bi (dbS (gAr G) f t = true))
    refine ⟨S', h66 _ ?_, lo_trans (lo_trans (lo_kI (by omega)) (lo_kI (by omega))) lo1, v2⟩
    unfold j_X7_readArc_90
    refine ie (bi_n hman.1) (ie (nn hman.2) ?_)
    rw [e7_wrong0 u.2.1, Option.bind_some]
    exact e
  · rw [if_neg hman]
    obtain ⟨u1, m1⟩ := uM_kI u (f := 38) (v := 1) (by decide) (by decide) (by decide)
    have f1 : fr (fun g => g = 38) (fun _ => False) S (kI S 82 38 1) := fr_kI rfl
    have hb1 : byt (kI S 82 38 1) := hb
    have i38 : jI (kI S 82 38 1) 82 38 = 1 := jI_eq
    have i3 : jI (kI S 82 38 1) 82 3 = jI S 82 3 := jI_ne (.inr (by decide))
    have i28 : jI (kI S 82 38 1) 82 28 = jI S 82 28 := jI_ne (.inr (by decide))
    have hg1 : mG (kI S 82 38 1) (N, gHe G, gCo G, gAr G, gLi G, gLo G, gCt G, true) := ⟨hN, h2, h3, h4, h5, h6, mCt_eq h7 (jI_ne (.inr (by decide))) rfl rfl, i38⟩
    have lo1 : lo S (kI S 82 38 1) := lo_kI (by omega)
    have h111 : ∀ X, j_X7_readArc_123 fuel l1 f l3 t (bi (dbS (gAr G) f t = true)) 0 (kI S 82 38 1) = X → j_X7_readArc_66 l1 f l3 t S = X := by
      intro X hX
      have e111 : j_X7_readArc_111 l1 f l3 t (bi (dbS (gAr G) f t = true)) S = X := by
        unfold j_X7_readArc_111
        rw [e7_endedT u.1 hE, Option.bind_some]
        exact hX
      refine h66 _ ?_
      unfold j_X7_readArc_90
      by_cases hd1 : dbS (gAr G) f t = true
      · exact ie (bi_n hd1) (it (fun q => hman ⟨hd1, q⟩) e111)
      · exact it (bi_0.mpr hd1) e111
    generalize kI S 82 38 1 = T at *
    have hk3 := h2.2.1
    obtain ⟨S1, c', e1, f2, z1, r1⟩ := l7_vs (he := gHe G) (l1 := l1) (l2 := f) (l3 := l3) (l4 := t) (l5 := bi (dbS (gAr G) f t = true)) ((gHe G).map (fun h => h.2)) fuel T [] u1 hb1 hg1.2.1 rfl (Nat.zero_le _) (fun c hc => absurd hc (Nat.not_lt_zero _)) (by rw [List.length_map]; unfold fuel; omega)
    rw [m1] at r1
    have hK := vsE_S (K := fun vs r3 => if dbS (gAr G) f t = true ∧ jI S 82 3 = 1 then some (((N, gHe G, gCo G, gAr G, gLi G, gLo G + 1, gCt G, true) : gT), r3) else if 40 ≤ (gAr G).length then none else some (((N, gHe G, gCo G, gAr G ++ [(f, t, jI S 82 28, vs)], gLi G ++ [3], gLo G, gCt G, true) : gT), r3)) ((gHe G).map (fun h => h.2)) (mRs S) hE
    rw [← hK]
    have lo2 : lo T S1 := lo_fr f2 (fun g q => by omega) (fun a q => by omega)
    cases hq : vsE ((gHe G).map (fun h => h.2)) (mRs S) with
    | none =>
      rw [hq] at r1
      obtain ⟨S', e2, lo3, v2⟩ := v7_203 r1 (l1 := l1) (l2 := f) (l3 := l3) (l4 := t) (l5 := bi (dbS (gAr G) f t = true)) (l6 := c')
      exact ⟨S', h111 _ (e1.trans e2), lo_trans lo1 (lo_trans lo2 lo3), v2⟩
    | some q =>
      rw [hq] at r1
      obtain ⟨u2, o2, m2⟩ := r1
      have hg2 := mG_fr hg1 f2 (by decide) (by decide) (fun a q => by omega) (by decide)
      have hlen := vsE_len _ _ _ hq
      rw [List.length_map] at hlen
      obtain ⟨S', e3, lo3, r3⟩ := e7_203 u2 hg2 rfl hli hlo o2 hlen (l1 := l1) (f := f) (l3 := l3) (t := t) (l5 := bi (dbS (gAr G) f t = true)) (l6 := c') hl0 hl1 (db := dbS (gAr G) f t) ⟨fun q => by
          by_cases hd1 : dbS (gAr G) f t = true
          · exact hd1
          · exact absurd (bi_0.mpr hd1) q, fun q => bi_n q⟩
      rw [f2.1 82 3 (by decide), f2.1 82 28 (by decide), i3, i28, m2] at r3
      refine ⟨S', h111 _ (e1.trans e3), lo_trans lo1 (lo_trans lo2 lo3), ?_⟩
      rw [Option.bind_some]
      exact r3
end MRA
