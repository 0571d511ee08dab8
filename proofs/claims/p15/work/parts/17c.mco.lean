section MCO
variable {S S' S'' : iS} {L : List Int}
theorem getD_appG {α : Type} {l : List α} {x d : α} {i : Nat} : (l ++ [x]).getD i d = if i < l.length then l.getD i d else if i = l.length then x else d := by
  rw [List.getD_eq_getElem?_getD, List.getD_eq_getElem?_getD, List.getElem?_append]
  by_cases h : i < l.length
  · rw [if_pos h, if_pos h]
  · rw [if_neg h, if_neg h]
    by_cases e : i = l.length
    · rw [if_pos e, e, Nat.sub_self]; rfl
    · rw [if_neg e, List.getElem?_eq_none (by rw [List.length_singleton]; omega)]; rfl
theorem uM_kA {a : Nat} (u : uM S) (z : zS (kA S a L)) : uM (kA S a L) := ⟨⟨z, u.1.2⟩, u.2⟩
theorem vM_kA {a : Nat} (v : vM S) (z : zS (kA S a L)) : vM (kA S a L) := ⟨⟨z, v.1.2⟩, v.2⟩
theorem mRs_kA {a : Nat} (h : a ≠ 83) : mRs (kA S a L) = mRs S := by
  unfold mRs gv
  rw [jA_ne (Ne.symm h), jI_kA, jI_kA]
theorem uM_kI {f : Nat} {v : Int} (u : uM S) (h2 : f ≠ 2) (h27 : f ≠ 27) (h30 : f ≠ 30) : uM (kI S 82 f v) ∧ mRs (kI S 82 f v) = mRs S :=
  ⟨uM_fr u (F := fun g => g = f) (R := fun _ => False) (fr_kI rfl) u.1.1 (by omega) (by omega) (by omega), mRs_fr (F := fun g => g = f) (R := fun _ => False) (fr_kI rfl) (by omega) (by omega) (fun q => q)⟩
theorem l7_cm {p : Nat} (hp : p + 21 ≤ 12600) : ∀ (k n : Nat) (S : iS) (cs : List Int), uM S → cs.length + k = 20 → k + 1 < n → (∀ j, j < cs.length → (jA S 98).getD (p + 1 + j) 0 = cs.getD j 0) → ∃ S1, ∃ c : Nat, j_X7_readComment_26 n p cs.length S = j_X7_readComment_113 p c S1 ∧ fr FN (fun a => a = 98) S S1 ∧ zS S1 ∧ c ≤ 20 ∧ (∀ i, i ≤ p ∨ p + 21 ≤ i → (jA S1 98).getD i 0 = (jA S 98).getD i 0) ∧ rs (cmK k (mRs S)) S1 (fun q => c = cs.length + q.1.length ∧ (∀ j, j < c → (jA S1 98).getD (p + 1 + j) 0 = (cs ++ q.1).getD j 0) ∧ mRs S1 = q.2 ∧ hd q.2 = -1) := by
  intro k
  induction k with
  | zero =>
    intro n S cs u hk hn hc
    obtain ⟨m, rfl⟩ : ∃ m, n = m + 2 := ⟨n - 2, by omega⟩
    have a1 := u.1.2.2.1
    have a2 := u.1.2.2.2.1
    have a3 := u.2.2
    have hw : ∀ j, ¬ j = 0 → j_X7_readComment_26 (m + 1) p cs.length (kI (kI S 82 30 j) 82 31 (jI S 82 27)) = j_X7_readComment_113 p cs.length (kI (kI S 82 30 j) 82 31 (jI S 82 27)) := by
      intro j hj
      rw [j_X7_readComment_26]
      exact it hj rfl
    rw [j_X7_readComment_26]
    by_cases h : hd (mRs S) = -1
    · refine ⟨S, cs.length, ie (nn u.2.1) ?_, fr_refl, u.1.1, by omega, fun _ _ => rfl, ?_⟩
      · rw [e7_here u.1, Option.bind_some]
        exact it h rfl
      · rw [cmK, if_pos h]
        exact ⟨u, by rw [List.length_nil]; omega, fun j hj => by rw [List.append_nil]; exact hc j hj, rfl, h⟩
    · rw [cmK, if_neg h]
      by_cases hr : isPrn (hd (mRs S))
      · refine ⟨kI (kI S 82 30 2) 82 31 (jI S 82 27), cs.length, ie (nn u.2.1) ?_, fr_w (by omega) (by omega), u.1.1, by omega, fun _ _ => rfl, vM_w' u.1 (by decide) (by omega) (by omega) (by omega)⟩
        rw [e7_here u.1, Option.bind_some]
        refine ie h ?_
        dsimp only
        rw [e7_here u.1, Option.bind_some, e_in, Option.bind_some]
        refine it (bi_n hr) (ie (nn (by omega)) ?_)
        dsimp only
        rw [e7_wrong0 u.2.1, Option.bind_some]
        exact hw 2 (by decide)
      · refine ⟨kI (kI S 82 30 1) 82 31 (jI S 82 27), cs.length, ie (nn u.2.1) ?_, fr_w (by omega) (by omega), u.1.1, by omega, fun _ _ => rfl, vM_w' u.1 (by decide) (by omega) (by omega) (by omega)⟩
        rw [e7_here u.1, Option.bind_some]
        refine ie h ?_
        dsimp only
        rw [e7_here u.1, Option.bind_some, e_in, Option.bind_some]
        refine ie (nn (bi_0.mpr hr)) ?_
        dsimp only
        rw [e7_wrong0 u.2.1, Option.bind_some]
        exact hw 1 (by decide)
  | succ k ih =>
    intro n S cs u hk hn hc
    obtain ⟨m, rfl⟩ : ∃ m, n = m + 2 := ⟨n - 2, by omega⟩
    have a1 := u.1.2.2.1
    have a2 := u.1.2.2.2.1
    have a3 := u.2.2
    have l98 : (jA S 98).length = 12600 := u.1.1 98
    rw [j_X7_readComment_26]
    by_cases h : hd (mRs S) = -1
    · refine ⟨S, cs.length, ie (nn u.2.1) ?_, fr_refl, u.1.1, by omega, fun _ _ => rfl, ?_⟩
      · rw [e7_here u.1, Option.bind_some]
        exact it h rfl
      · rw [cmK, if_pos h]
        exact ⟨u, by rw [List.length_nil]; omega, fun j hj => by rw [List.append_nil]; exact hc j hj, rfl, h⟩
    · rw [cmK, if_neg h]
      by_cases hr : isPrn (hd (mRs S))
      · rw [if_pos hr]
        have z1 : zS (kA S 98 ((jA S 98).set (p + 1 + cs.length) (hd (mRs S)))) := zS_set u.1.1
        have u1 := uM_kA u z1
        have m1 : mRs (kA S 98 ((jA S 98).set (p + 1 + cs.length) (hd (mRs S)))) = mRs S := mRs_kA (by decide)
        have u2 := uM_step u1 (by rw [m1]; exact h)
        have m2 := mRs_step u1.1
        rw [m1] at m2
        obtain ⟨S1, c, e, f1, z2, hc20, ho, r⟩ := ih (m + 1) _ (cs ++ [hd (mRs S)]) u2 (by rw [List.length_append, List.length_singleton]; omega) (by omega) (fun j hj => by
          rw [List.length_append, List.length_singleton] at hj
          rw [jA_kI, jA_eq, getD_set, getD_app]
          by_cases e : j = cs.length
          · rw [if_pos ⟨by omega, by omega⟩, if_neg (by omega), if_pos e]
          · rw [if_neg (by omega), if_pos (by omega)]; exact hc j (by omega))
        refine ⟨S1, c, ie (nn u.2.1) ?_, fr_trans (fr_kA rfl) (fr_trans (fr_kI (by omega)) f1), z2, hc20, fun i hi => ?_, ?_⟩
        · rw [e7_here u.1, Option.bind_some]
          refine ie h ?_
          dsimp only
          rw [e7_here u.1, Option.bind_some, e_in, Option.bind_some]
          refine it (bi_n hr) (it (by omega) ?_)
          dsimp only
          rw [e7_here u.1, Option.bind_some]
          dsimp only
          refine it ⟨by omega, by omega⟩ (it ⟨by omega, by omega⟩ (it ⟨by omega, by omega⟩ (it ⟨by omega, by omega⟩ ?_)))
          rw [show ((p : Int) + ((cs.length : Int) + 1)).toNat = p + 1 + cs.length by omega]
          rw [List.length_append, List.length_singleton] at e
          exact e
        · rw [ho i hi, jA_kI, jA_eq, getD_set, if_neg (by omega)]
        · rw [m2] at r
          refine rs_map (rs_mono r fun v _ hv => ?_)
          obtain ⟨v1, v2, v3, v4⟩ := hv
          rw [List.length_append, List.length_singleton] at v1
          refine ⟨by rw [List.length_cons]; omega, fun j hj => ?_, v3, v4⟩
          rw [v2 j hj, List.append_assoc]; rfl
      · rw [if_neg hr]
        refine ⟨kI (kI S 82 30 1) 82 31 (jI S 82 27), cs.length, ie (nn u.2.1) ?_, fr_w (by omega) (by omega), u.1.1, by omega, fun _ _ => rfl, vM_w' u.1 (by decide) (by omega) (by omega) (by omega)⟩
        rw [e7_here u.1, Option.bind_some]
        refine ie h ?_
        dsimp only
        rw [e7_here u.1, Option.bind_some, e_in, Option.bind_some]
        refine ie (nn (bi_0.mpr hr)) ?_
        dsimp only
        rw [e7_wrong0 u.2.1, Option.bind_some, j_X7_readComment_26]
        exact it (show ¬ (1 : Int) = 0 by decide) rfl
theorem e7_comment {G : gT} (u : uM S) (hh : hd (mRs S) ≠ -1) (hg : mG S G) (hco : (gCo G).length ≤ 299) (hli : (gLi G).length ≤ 600) : ∃ S', j_X7_readComment S = some S' ∧ lo S S' ∧ rs (cmL G (mRs S)) S' (fun q => mG S' q.1 ∧ mRs S' = q.2 ∧ hd q.2 = -1) := by
  have a1 := u.1.2.2.1
  have a2 := u.1.2.2.2.1
  have a3 := u.2.2
  obtain ⟨h1, h2, h3, h4, h5, h6, h7, h8⟩ := hg
  have l97 : (jA S 97).length = 2 := u.1.1 97
  have u1 := uM_step u hh
  have m1 := mRs_step u.1
  obtain ⟨S1, c, e, f1, z1, hc20, ho, r⟩ := l7_cm (p := 6300 + 21 * (gCo G).length) (by omega) 20 fuel _ [] u1 (by decide) (by unfold fuel; decide) (fun j hj => absurd hj (Nat.not_lt_zero _))
  rw [m1] at r
  have f2 : fr FN (fun a => a = 98) S S1 := fr_trans (fr_kI (by omega)) f1
  have e98 : ∀ i, i ≤ 6300 + 21 * (gCo G).length → (jA S1 98).getD i 0 = (jA S 98).getD i 0 := fun i hi => ho i (.inl hi)
  have eA : ∀ a, a ≠ 98 → jA S1 a = jA S a := fun a ha => f2.2.1 a ha
  have l98 : (jA S1 98).length = 12600 := z1 98
  have z2 : zS (kA S1 98 ((jA S1 98).set (6300 + 21 * (gCo G).length) c)) := zS_set z1
  have z3 : zS (kA (kA S1 98 ((jA S1 98).set (6300 + 21 * (gCo G).length) c)) 97 ((jA S1 97).set 1 ((gCo G).length + 1))) := zS_kA z2 (by rw [List.length_set]; exact z1 97)
  generalize hT : kA (kA S1 98 ((jA S1 98).set (6300 + 21 * (gCo G).length) c)) 97 ((jA S1 97).set 1 ((gCo G).length + 1)) = T at z3
  have tA : ∀ a, a ≠ 98 → a ≠ 97 → jA T a = jA S a := fun a h1 h2 => by subst hT; rw [jA_ne h2, jA_ne h1]; exact eA a h1
  have t5 : mLi T (gLi G) := mLi_eq h5 (tA _ (by decide) (by decide)) (tA _ (by decide) (by decide))
  obtain ⟨L1, L2, e3, g3, lo3, z4⟩ := e7_laySort z3 t5 hli (k := 1)
  have loT : lo S T := by
    refine lo_trans (S' := S1) ?_ ?_
    · refine ⟨fun a f q => f2.1 a f (fun k => q ⟨k.1, by have := k.2; omega⟩), f2.2.2, fun a i q => ?_, fun a q => f2.2.1 a (fun k => q (by omega))⟩
      by_cases ea : a = 98
      · subst ea
        rw [show lw 98 = 6300 from rfl] at q
        exact e98 i (by omega)
      · rw [eA a ea]
    · subst hT
      refine lo_trans (lo_set (by omega) (by rw [show lw 98 = 6300 from rfl]; omega)) (lo_kA (by omega) (fun i hi => ?_))
      rw [show lw 97 = 1 from rfl] at hi
      rw [getD_set, if_neg (by omega), jA_ne (by decide)]
  refine ⟨kA (kA T 100 L1) 99 L2, ?_, lo_trans loT lo3, ?_⟩
  · unfold j_X7_readComment j_X7_readComment_0
    rw [h3.1, show (6300 : Int) + 21 * ((gCo G).length : Int) = ((6300 + 21 * (gCo G).length : Nat) : Int) by omega]
    refine it (by omega) (it ⟨by omega, by omega⟩ (it ⟨by omega, by omega⟩ (it ⟨by omega, by omega⟩ ?_)))
    have e' : j_X7_readComment_26 fuel ((6300 + 21 * (gCo G).length : Nat) : Int) 0 (kI S 82 27 (jI S 82 27 + 1)) = _ := e
    rw [e']
    unfold j_X7_readComment_113
    rw [eA 97 (by decide), h3.1, show (((6300 + 21 * (gCo G).length : Nat) : Int)).toNat = 6300 + 21 * (gCo G).length by omega]
    rw [eA 97 (by decide)] at hT
    refine it ⟨by omega, by omega⟩ (it (by omega) (it ⟨by omega, by omega⟩ ?_))
    rw [hT, e3]
    rfl
  · unfold cmL
    refine rs_map ?_
    cases hq : cmK 20 (mRs S).tail with
    | none =>
      rw [hq] at r
      have vT : vM T := by
        subst hT
        exact vM_kA (vM_kA r z2) z3
      exact vM_kA (vM_kA vT (zS_kA z3 (by
        have := z4 100
        rw [jA_ne (by decide), jA_eq] at this
        exact this))) z4
    | some q =>
      rw [hq] at r
      obtain ⟨uq, q1, q2, q3, q4⟩ := r
      have zz : zS (kA T 100 L1) := zS_kA z3 (by
        have := z4 100
        rw [jA_ne (by decide), jA_eq] at this
        exact this)
      have uT : uM T := by
        subst hT
        exact uM_kA (uM_kA uq z2) z3
      have mT : mRs T = q.2 := by
        subst hT
        rw [mRs_kA (by decide), mRs_kA (by decide)]; exact q3
      have fA : ∀ a, a ≠ 98 → a ≠ 97 → a ≠ 100 → a ≠ 99 → jA (kA (kA T 100 L1) 99 L2) a = jA S a := fun a b1 b2 b3 b4 => by rw [jA_ne b4, jA_ne b3]; exact tA a b1 b2
      have fI : ∀ f, f ≠ 27 → f ≠ 30 → f ≠ 31 → jI (kA (kA T 100 L1) 99 L2) 82 f = jI S 82 f := fun f b1 b2 b3 => by
        subst hT
        exact f2.1 82 f (fun k => by have := k.2; omega)
      refine ⟨uM_kA (uM_kA uT zz) z4, ⟨?_, ?_, ?_, ?_, ?_, ?_, ?_, ?_⟩, by rw [mRs_kA (by decide), mRs_kA (by decide)]; exact mT, q4⟩
      · exact mNo_eq h1 (fA _ (by decide) (by decide) (by decide) (by decide)) (fA _ (by decide) (by decide) (by decide) (by decide))
      · exact mHe_eq h2 (fA _ (by decide) (by decide) (by decide) (by decide)) (fA _ (by decide) (by decide) (by decide) (by decide)) (fA _ (by decide) (by decide) (by decide) (by decide))
      · have t97 : jA (kA (kA T 100 L1) 99 L2) 97 = (jA S1 97).set 1 ((gCo G).length + 1) := by subst hT; rw [jA_ne (by decide), jA_ne (by decide), jA_eq]
        have t98 : jA (kA (kA T 100 L1) 99 L2) 98 = (jA S1 98).set (6300 + 21 * (gCo G).length) c := by subst hT; rw [jA_ne (by decide), jA_ne (by decide), jA_ne (by decide), jA_eq]
        refine ⟨?_, fun i hi => ?_⟩
        · rw [t97, getD_set, if_pos ⟨rfl, by rw [eA 97 (by decide)]; omega⟩]
          show _ = (((gCo G ++ [q.1]).length : Nat) : Int)
          rw [List.length_append]; rfl
        · have hi' : i < (gCo G).length + 1 := by
            have : i < (gCo G ++ [q.1]).length := hi
            rw [List.length_append, List.length_singleton] at this
            exact this
          show nmAt _ _ ((gCo G ++ [q.1]).getD i []) ∧ ((gCo G ++ [q.1]).getD i []).length ≤ 20
          rw [t98, getD_appG]
          rw [List.length_nil] at q1
          by_cases ei : i = (gCo G).length
          · rw [if_neg (by omega), if_pos ei, ei]
            refine ⟨⟨?_, fun j hj => ?_⟩, by omega⟩
            · rw [getD_set, if_pos ⟨rfl, by omega⟩]; omega
            · rw [getD_set, if_neg (by omega), q2 j (by omega)]; rfl
          · rw [if_pos (by omega)]
            obtain ⟨o1, o2⟩ := h3.2 i (by omega)
            refine ⟨nmAt_eq o1 (fun j j1 j2 => ?_), o2⟩
            rw [getD_set, if_neg (by omega), e98 j (by omega)]
      · exact mAr_eq h4 (fA _ (by decide) (by decide) (by decide) (by decide)) (fA _ (by decide) (by decide) (by decide) (by decide)) (fA _ (by decide) (by decide) (by decide) (by decide)) (fA _ (by decide) (by decide) (by decide) (by decide)) (fA _ (by decide) (by decide) (by decide) (by decide)) (fA _ (by decide) (by decide) (by decide) (by decide)) (fA _ (by decide) (by decide) (by decide) (by decide))
      · exact g3
      · rw [fA 96 (by decide) (by decide) (by decide) (by decide)]; exact h6
      · exact mCt_eq h7 (fI 35 (by decide) (by decide) (by decide)) (fA _ (by decide) (by decide) (by decide) (by decide)) (fA _ (by decide) (by decide) (by decide) (by decide))
      · rw [fI 38 (by decide) (by decide) (by decide)]; exact h8
end MCO
