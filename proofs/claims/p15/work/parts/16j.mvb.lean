section MVB
variable {S S' : iS} {ns : List Int}
theorem l7_pd (w : wM S) : ∀ (ds : List Int) (i n : Nat) (r2 : List Int), (mRs S).drop i = ds ++ 46 :: r2 → (∀ c ∈ ds, isFig c) → ds.length < n → j_X7_readPlainDecimal_5 n (jI S 82 27 + i) S = (if ¬ ((jA S 83).getD (jI S 82 27).toNat 0) = (48 : Int) then (j_X7_readPlainDecimal_60 (jI S 82 27 + i + ds.length) S) else (if rg (jI S 82 27 + i + ds.length - (jI S 82 27)) then (if (jI S 82 27 + i + ds.length - (jI S 82 27)) ≤ (1 : Int) then (j_X7_readPlainDecimal_60 (jI S 82 27 + i + ds.length) S) else (if rg ((jI S 82 27) + (1 : Int)) then ((j_X7_wrong (1 : Int) ((jI S 82 27) + (1 : Int)) S).bind fun qx1 => (j_X7_readPlainDecimal_89 (jI S 82 27 + i + ds.length) qx1)) else none)) else none)) := by
  have w1 := w.2.2.1
  have w2 := w.2.2.2.1
  have w3 := w.2.2.2.2
  have l83 := z83 w.1
  intro ds
  induction ds with
  | nil =>
    intro i n r2 hs hf hn
    obtain ⟨m, rfl⟩ : ∃ m, n = m + 1 := ⟨n - 1, by rw [List.length_nil] at hn; omega⟩
    obtain ⟨h1, h2, h3⟩ := t83 w hs
    rw [j_X7_readPlainDecimal_5, h2, List.length_nil, show jI S 82 27 + (i : Int) + ((0 : Nat) : Int) = jI S 82 27 + i by omega]
    exact it ⟨by omega, by omega⟩ (it rfl (it ⟨by omega, by omega⟩ rfl))
  | cons d ds ih =>
    intro i n r2 hs hf hn
    obtain ⟨m, rfl⟩ : ∃ m, n = m + 1 := ⟨n - 1, by rw [List.length_cons] at hn; omega⟩
    obtain ⟨h1, h2, h3⟩ := t83 w hs
    have hd46 := hf d List.mem_cons_self
    rw [List.length_cons] at hn
    rw [j_X7_readPlainDecimal_5, h2]
    refine it ⟨by omega, by omega⟩ (ie (by omega) (it ⟨by omega, by omega⟩ ?_))
    rw [show jI S 82 27 + (i : Int) + 1 = jI S 82 27 + ((i + 1 : Nat) : Int) by omega, ih (i + 1) m r2 h3 (fun x hx => hf x (List.mem_cons_of_mem _ hx)) (by omega), List.length_cons, show jI S 82 27 + ((i + 1 : Nat) : Int) + (ds.length : Int) = jI S 82 27 + (i : Int) + ((ds.length + 1 : Nat) : Int) by omega]
/-- where PLAIN signs are a DECIMAL -/
theorem e7_pd (u : uM S) (hn : nmd S []) (hp : isPln (hd (mRs S))) (hs : psS (mRs S) = 2) : ∃ S', j_X7_readPlainDecimal S = some S' ∧ fr FD RN S S' ∧ (∃ ms, nmd S' ms) ∧ rs (enE (gsS (mRs S))) S' (fun q => mRs S' = q.2 ∧ jI S' 82 33 = q.1.1 ∧ jI S' 82 34 = q.1.2.1 ∧ nmd S' q.1.2.2) := by
  have w := u.1
  have w1 := w.2.2.1
  have w2 := w.2.2.2.1
  have a3 := u.2.2
  obtain ⟨c, s, er, ec, ep⟩ := plP_hd hp
  have hat : (jA S 83).getD (jI S 82 27).toNat 0 = hd (mRs S) := by
    obtain ⟨_, h2, _⟩ := t83 w (i := 0) (show (mRs S).drop 0 = c :: s from er)
    rw [show jI S 82 27 + ((0 : Nat) : Int) = jI S 82 27 by omega] at h2
    rw [h2, ec]
  have hcond : (∀ c ∈ plP (mRs S), isFig c) ∧ hd ((mRs S).drop (plP (mRs S)).length) = 46 := by
    by_cases h : (∀ c ∈ plP (mRs S), isFig c) ∧ hd ((mRs S).drop (plP (mRs S)).length) = 46
    · exact h
    · unfold psS at hs
      rw [if_neg h] at hs
      split at hs <;> exact absurd hs (by decide)
  obtain ⟨hf, h46⟩ := hcond
  obtain ⟨d, r2, er2, ed⟩ := hd_cons (r := (mRs S).drop (plP (mRs S)).length) (by omega)
  have hL1 : 1 ≤ (plP (mRs S)).length := by rw [ep, List.length_cons]; omega
  have hsp : (mRs S).drop 0 = plP (mRs S) ++ 46 :: r2 := by
    have : ∀ r : List Int, r = plP r ++ r.drop (plP r).length := by
      intro r
      induction r with
      | nil => rfl
      | cons c r ih =>
        rw [plP]
        by_cases h : isPln c
        · rw [if_pos h, List.length_cons, List.drop_succ_cons, List.cons_append, ← ih]
        · rw [if_neg h]; rfl
    have h := this (mRs S)
    rw [er2, show d = 46 by rw [← ed]; exact h46] at h
    exact h
  have hml := mRs_len w u.2.2
  have hll : (plP (mRs S)).length < (mRs S).length := by
    have := congrArg List.length hsp
    rw [List.drop_zero, List.length_append, List.length_cons] at this
    omega
  have h5 := l7_pd w (plP (mRs S)) 0 fuel r2 hsp hf (by unfold fuel; omega)
  rw [show jI S 82 27 + ((0 : Nat) : Int) = jI S 82 27 by omega, hat] at h5
  have hg0 : gsS (mRs S) = ((if (plP (mRs S)).length ≤ 8 then some (plP (mRs S), (mRs S).drop (plP (mRs S)).length) else none).bind fun q => if (∀ c ∈ q.1, isFig c) ∧ hd q.2 = 46 then (if 1 < q.1.length ∧ hd (mRs S) = 48 then none else frS [] q.1 q.2) else if (∀ c ∈ q.1, isFig c) ∧ ¬ (1 < q.1.length ∧ hd (mRs S) = 48) ∧ q.1.length ≤ 6 then some ((1, 1000 * dv q.1, q.1), q.2) else some ((3, 0, q.1), q.2)) := by
    rw [gsS, if_neg (nn hp), plK_plP]
  unfold j_X7_readPlainDecimal j_X7_readPlainDecimal_0
  rw [h5]
  by_cases hz : 1 < (plP (mRs S)).length ∧ hd (mRs S) = 48
  · have hnone : ((if (plP (mRs S)).length ≤ 8 then some (plP (mRs S), (mRs S).drop (plP (mRs S)).length) else none).bind fun q => if (∀ c ∈ q.1, isFig c) ∧ hd q.2 = 46 then (if 1 < q.1.length ∧ hd (mRs S) = 48 then none else frS [] q.1 q.2) else if (∀ c ∈ q.1, isFig c) ∧ ¬ (1 < q.1.length ∧ hd (mRs S) = 48) ∧ q.1.length ≤ 6 then some ((1, 1000 * dv q.1, q.1), q.2) else some ((3, 0, q.1), q.2)) = (none : Option (vT × List Int)) := by
      by_cases h8 : (plP (mRs S)).length ≤ 8
      · rw [if_pos h8, Option.bind_some]
        dsimp only
        rw [if_pos ⟨hf, h46⟩, if_pos hz]
      · rw [if_neg h8]; rfl
    rw [hg0, hnone]
    refine ⟨kI (kI S 82 30 1) 82 31 (jI S 82 27 + 1), ie (nn hz.2) (it ⟨by omega, by omega⟩ (ie (by omega) (it ⟨by omega, by omega⟩ ?_))), fr_w (by omega) (by omega), ⟨[], hn⟩, vM_w' w (by decide) (by omega) (by omega) (by omega)⟩
    rw [e7_wrong0 u.2.1]
    rfl
  · have e60 : ∀ X, j_X7_readPlainDecimal_60 (jI S 82 27 + (plP (mRs S)).length) S = X → (if ¬ hd (mRs S) = (48 : Int) then (j_X7_readPlainDecimal_60 (jI S 82 27 + (plP (mRs S)).length) S) else (if rg (jI S 82 27 + (plP (mRs S)).length - (jI S 82 27)) then (if (jI S 82 27 + (plP (mRs S)).length - (jI S 82 27)) ≤ (1 : Int) then (j_X7_readPlainDecimal_60 (jI S 82 27 + (plP (mRs S)).length) S) else (if rg ((jI S 82 27) + (1 : Int)) then ((j_X7_wrong (1 : Int) ((jI S 82 27) + (1 : Int)) S).bind fun qx1 => (j_X7_readPlainDecimal_89 (jI S 82 27 + (plP (mRs S)).length) qx1)) else none)) else none)) = X := by
      intro X hX
      by_cases h48 : hd (mRs S) = 48
      · exact ie (nn h48) (it ⟨by omega, by omega⟩ (it (by omega) hX))
      · exact it h48 hX
    by_cases h3 : (plP (mRs S)).length ≤ 3
    · have hg : gsS (mRs S) = frS [] (plP (mRs S)) ((mRs S).drop (plP (mRs S)).length) := by
        rw [hg0, if_pos (by omega), Option.bind_some]
        dsimp only
        rw [if_pos ⟨hf, h46⟩, if_neg hz]
      rw [hg]
      obtain ⟨S', e, f, n, r⟩ := e7_num u hn (l1 := 0) (told := 3) ⟨fun q => absurd rfl q, fun q => absurd q (by decide)⟩
      have hfig : isFig (hd (mRs S)) := by rw [ec]; exact hf c (by rw [ep]; exact List.mem_cons_self)
      have hk : (if hd (mRs S) = 48 then fgK 1 (mRs S) else fgK 6 (mRs S)) = some (plP (mRs S), (mRs S).drop (plP (mRs S)).length) := by
        by_cases h48 : hd (mRs S) = 48
        · rw [if_pos h48]; exact fgK_plP 1 _ hf (by omega)
        · rw [if_neg h48]; exact fgK_plP 6 _ hf (by omega)
      rw [if_neg (by omega), numS, if_neg (nn hfig), if_neg (fun q => q.2.1 rfl), hk, Option.bind_some] at r
      dsimp only at r
      rw [if_pos ⟨h46, by decide⟩] at r
      refine ⟨S', e60 _ ?_, f, n, r⟩
      unfold j_X7_readPlainDecimal_60
      refine it ⟨by omega, by omega⟩ (it (by omega) ?_)
      rw [e]
      rfl
    · have hnone : ((if (plP (mRs S)).length ≤ 8 then some (plP (mRs S), (mRs S).drop (plP (mRs S)).length) else none).bind fun q => if (∀ c ∈ q.1, isFig c) ∧ hd q.2 = 46 then (if 1 < q.1.length ∧ hd (mRs S) = 48 then none else frS [] q.1 q.2) else if (∀ c ∈ q.1, isFig c) ∧ ¬ (1 < q.1.length ∧ hd (mRs S) = 48) ∧ q.1.length ≤ 6 then some ((1, 1000 * dv q.1, q.1), q.2) else some ((3, 0, q.1), q.2)) = (none : Option (vT × List Int)) := by
        by_cases h8 : (plP (mRs S)).length ≤ 8
        · rw [if_pos h8, Option.bind_some]
          dsimp only
          rw [if_pos ⟨hf, h46⟩, if_neg hz, frS, if_pos (by omega)]
        · rw [if_neg h8]; rfl
      rw [hg0, hnone]
      refine ⟨kI (kI S 82 30 2) 82 31 (jI S 82 27 + 3), e60 _ ?_, fr_w (by omega) (by omega), ⟨[], hn⟩, vM_w' w (by decide) (by omega) (by omega) (by omega)⟩
      unfold j_X7_readPlainDecimal_60
      refine it ⟨by omega, by omega⟩ (ie (by omega) (it ⟨by omega, by omega⟩ ?_))
      rw [e7_wrong0 u.2.1]
      rfl
/-- a VALUE of a COLUMN g -/
theorem e7_any (u : uM S) (hn : nmd S []) (h34 : jI S 82 34 = 0) : ∃ S', j_X7_readAny (hd (mRs S)) S = some S' ∧ fr FD RN S S' ∧ (∃ ms, nmd S' ms) ∧ rs (enE (if hd (mRs S) = 45 then numS 3 [45] (mRs S).tail else if hd (mRs S) = 34 then (nmS (mRs S)).map (fun q => (((3, 0, q.1) : vT), q.2)) else gsS (mRs S))) S' (fun q => mRs S' = q.2 ∧ jI S' 82 33 = q.1.1 ∧ jI S' 82 34 = q.1.2.1 ∧ nmd S' q.1.2.2) := by
  have h3 : ¬ (0 : Int) ≠ 0 ↔ True := ⟨fun _ => trivial, fun _ q => q rfl⟩
  have hl : ¬ (0 : Int) = 0 ↔ (3 : Int) = 0 := ⟨fun q => absurd rfl q, fun q => absurd q (by decide)⟩
  have hname : ∃ S', j_X7_readAny_25 (hd (mRs S)) 3 S = some S' ∧ fr FD RN S S' ∧ (∃ ms, nmd S' ms) ∧ rs (enE ((nmS (mRs S)).map (fun q => (((3, 0, q.1) : vT), q.2)))) S' (fun q => mRs S' = q.2 ∧ jI S' 82 33 = q.1.1 ∧ jI S' 82 34 = q.1.2.1 ∧ nmd S' q.1.2.2) := by
    obtain ⟨u1, m1⟩ := uM_D u (f := 33) (v := 3) (.inl rfl)
    obtain ⟨S', e, f, n, r⟩ := e7_name u1
    rw [m1] at r
    refine ⟨S', ?_, fr_trans (fr_kI (by omega)) (fr_mono f FN_FD (fun _ q => q)), n, ?_⟩
    · unfold j_X7_readAny_25 j_X7_readAny_66
      refine ie (nn rfl) ?_
      rw [e]
      rfl
    · rw [enE_map (g := fun q => ((3, 0, q) : vT))]
      refine rs_map (rs_mono r fun v _ hv => ?_)
      exact ⟨hv.2, f.1 82 33 (by omega), (f.1 82 34 (by omega)).trans h34, hv.1⟩
  have hnum : ∀ t, ¬ t = 3 → (hd (mRs S) = 45 ∨ t = 1) → ∃ S', j_X7_readAny_25 (hd (mRs S)) t S = some S' ∧ fr FD RN S S' ∧ (∃ ms, nmd S' ms) ∧ rs (enE (if hd (mRs S) = 45 then numS 3 [45] (mRs S).tail else numS 3 [] (mRs S))) S' (fun q => mRs S' = q.2 ∧ jI S' 82 33 = q.1.1 ∧ jI S' 82 34 = q.1.2.1 ∧ nmd S' q.1.2.2) := by
    intro t ht hor
    obtain ⟨S', e, f, n, r⟩ := e7_num u hn (l1 := 0) (told := 3) hl
    refine ⟨S', ?_, f, n, r⟩
    unfold j_X7_readAny_25 j_X7_readAny_54 j_X7_readAny_66
    refine it ht ?_
    by_cases h45 : hd (mRs S) = 45
    · refine it h45 ?_
      rw [e]
      rfl
    · refine ie h45 (ie (nn (hor.resolve_left h45)) ?_)
      rw [e]
      rfl
  generalize ho : (if hd (mRs S) = 45 then numS 3 [45] (mRs S).tail else if hd (mRs S) = 34 then (nmS (mRs S)).map (fun q => (((3, 0, q.1) : vT), q.2)) else gsS (mRs S)) = o
  unfold j_X7_readAny j_X7_readAny_0
  by_cases h45 : hd (mRs S) = 45
  · obtain ⟨S', e, q⟩ := hnum 2 (by decide) (.inl h45)
    rw [if_pos h45] at q ho
    subst ho
    exact ⟨S', ie (nn h45) e, q⟩
  · rw [if_neg h45] at ho
    by_cases hp : isPln (hd (mRs S))
    · rw [if_neg (by omega)] at ho
      subst ho
      have hstep : ∀ X, j_X7_readAny_25 (hd (mRs S)) (psS (mRs S)) S = X → (if ¬ hd (mRs S) = (45 : Int) then ((j_X7_isPlain (hd (mRs S)) S).bind fun qx1 => (if qx1.1 = (0 : Int) then (j_X7_readAny_25 (hd (mRs S)) (3 : Int) qx1.2) else ((j_X7_plainSort qx1.2).bind fun qx2 => (j_X7_readAny_25 (hd (mRs S)) qx2.1 qx2.2)))) else (j_X7_readAny_25 (hd (mRs S)) (2 : Int) S)) = X := by
        intro X hX
        refine it h45 ?_
        rw [e7_pln, Option.bind_some]
        refine ie (bi_n hp) ?_
        dsimp only
        rw [e7_ps u hp, Option.bind_some]
        exact hX
      by_cases c2 : (∀ c ∈ plP (mRs S), isFig c) ∧ hd ((mRs S).drop (plP (mRs S)).length) = 46
      · have hs : psS (mRs S) = 2 := by unfold psS; rw [if_pos c2]
        obtain ⟨S', e, q⟩ := e7_pd u hn hp hs
        refine ⟨S', hstep _ ?_, q⟩
        rw [hs]
        unfold j_X7_readAny_25 j_X7_readAny_66
        refine it (by decide) (ie h45 (it (by decide) ?_))
        rw [e]
        rfl
      · by_cases c1 : (∀ c ∈ plP (mRs S), isFig c) ∧ (plP (mRs S)).length ≤ 6 ∧ ¬ (1 < (plP (mRs S)).length ∧ hd (mRs S) = 48)
        · have hs : psS (mRs S) = 1 := by unfold psS; rw [if_neg c2, if_pos c1]
          obtain ⟨S', e, f, n, r⟩ := hnum 1 (by decide) (.inr rfl)
          refine ⟨S', hstep _ (by rw [hs]; exact e), f, n, ?_⟩
          obtain ⟨c, s, er, ec, ep⟩ := plP_hd hp
          have hfig : isFig (hd (mRs S)) := by rw [ec]; exact c1.1 c (by rw [ep]; exact List.mem_cons_self)
          have hk : (if hd (mRs S) = 48 then fgK 1 (mRs S) else fgK 6 (mRs S)) = some (plP (mRs S), (mRs S).drop (plP (mRs S)).length) := by
            by_cases h48 : hd (mRs S) = 48
            · rw [if_pos h48]; exact fgK_plP 1 _ c1.1 (by omega)
            · rw [if_neg h48]; exact fgK_plP 6 _ c1.1 c1.2.1
          rw [if_neg h45, numS, if_neg (nn hfig), if_neg (fun q => q.2.1 rfl), hk, Option.bind_some] at r
          dsimp only at r
          rw [if_neg (fun q => c2 ⟨c1.1, q.1⟩), if_neg (fun q => q.2 rfl), if_pos rfl, Int.one_mul, List.nil_append] at r
          have hg : gsS (mRs S) = some ((1, 1000 * dv (plP (mRs S)), plP (mRs S)), (mRs S).drop (plP (mRs S)).length) := by
            rw [gsS, if_neg (nn hp), plK_plP, if_pos (by omega), Option.bind_some]
            dsimp only
            rw [if_neg c2, if_pos ⟨c1.1, c1.2.2, c1.2.1⟩]
          rw [hg]
          exact r
        · have hs : psS (mRs S) = 3 := by unfold psS; rw [if_neg c2, if_neg c1]
          obtain ⟨S', e, f, n, r⟩ := hname
          refine ⟨S', hstep _ (by rw [hs]; exact e), f, n, ?_⟩
          rw [gsS, if_neg (nn hp), plK_plP]
          rw [nmS, if_neg (show ¬ hd (mRs S) = 34 by omega), if_pos hp, plK_plP] at r
          by_cases h8 : (plP (mRs S)).length ≤ 8
          · rw [if_pos h8] at r ⊢
            rw [Option.bind_some]
            dsimp only
            rw [if_neg c2, if_neg (fun q => c1 ⟨q.1, q.2.2, q.2.1⟩)]
            exact r
          · rw [if_neg h8] at r ⊢
            exact r
    · obtain ⟨S', e, f, n, r⟩ := hname
      refine ⟨S', it h45 ?_, f, n, ?_⟩
      · rw [e7_pln, Option.bind_some]
        exact it (bi_0.mpr hp) e
      · by_cases h34' : hd (mRs S) = 34
        · rw [if_pos h34'] at ho
          subst ho
          exact r
        · rw [if_neg h34'] at ho
          subst ho
          rw [gsS, if_pos hp]
          rw [nmS, if_neg h34', if_neg hp] at r
          exact r
end MVB
