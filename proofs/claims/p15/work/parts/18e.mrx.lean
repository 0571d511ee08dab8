section MRX
variable {S S' S'' : iS} {L : List Int}
/-- what a read of the model leaves and brings -/
def m7P (S S' : iS) (v : Int) : Prop := zS S' ∧ S'.2.2 = S.2.2 ∧ (∀ a f, ¬ (a = 82 ∧ FE f) → jI S' a f = jI S a f) ∧ jI S' 82 0 = 0 ∧ jI S' 82 2 = 0 ∧ (∀ a, ¬ tch a → jA S' a = jA S a) ∧ (match rdS (jI S 82 3) (gv S 82 2 83) with
  | some G => lG S' G ∧ jI S' 82 6 = 1 ∧ v = (gAr G).length
  | none => lwS S S' ∧ jI S' 82 6 = jI S 82 6)
theorem e7_fin {G0 : iS} {o : Option gT} {n : Nat} {l1 : Int} (h1 : lq G0 S) (t0 : jI G0 82 0 = 0) (f0 : 0 ≤ jI S 82 29) (f1 : jI S 82 29 ≤ 600) (hr : rL o S (fun G => mG S G ∧ wfG G)) : ∃ v S', j_X7_read_90 (n + 1) 0 S = some (v, S') ∧ zS S' ∧ S'.2.2 = G0.2.2 ∧ (∀ a f, ¬ (a = 82 ∧ FE f) → jI S' a f = jI G0 a f) ∧ jI S' 82 0 = 0 ∧ jI S' 82 2 = 0 ∧ (∀ a, ¬ tch a → jA S' a = jA G0 a) ∧ (match (o.bind fun G => match gCt G with | none => some (stG G) | some c => if c.1 = (gNo G).length ∧ c.2 = (gAr G).length then some (stG G) else none) with
  | some G => lG S' G ∧ jI S' 82 6 = 1 ∧ v = (gAr G).length
  | none => lwS G0 S' ∧ jI S' 82 6 = jI G0 82 6) := by
  have FQE : ∀ f, FQ f → FE f := fun f q => by omega
  -- the end behind a FAULT
  have vend : ∀ (V : iS), vL V → lq G0 V → 0 ≤ jI V 82 29 → jI V 82 29 ≤ 600 → ∃ v S', j_X7_read_202 0 (jI V 82 28) (kI V 82 2 0) = some (v, S') ∧ zS S' ∧ S'.2.2 = G0.2.2 ∧ (∀ a f, ¬ (a = 82 ∧ FE f) → jI S' a f = jI G0 a f) ∧ jI S' 82 0 = 0 ∧ jI S' 82 2 = 0 ∧ (∀ a, ¬ tch a → jA S' a = jA G0 a) ∧ lwS G0 S' ∧ jI S' 82 6 = jI G0 82 6 := by
    intro V v hq g0 g1
    obtain ⟨x, e⟩ := v7_202 v g0 g1 (l1 := 0) (t := jI V 82 28)
    refine ⟨_, _, e, v.1.1, hq.2.1, fun a f q => ?_, ?_, rfl, hq.2.2.2, hq.2.2.1, ?_⟩
    · rw [jI_ne (ne_or q (by omega)), jI_ne (ne_or q (by omega)), jI_ne (ne_or q (by omega))]
      exact hq.1 a f (fun k => q ⟨k.1, FQE f k.2⟩)
    · exact (hq.1 82 0 (by decide)).trans t0
    · exact hq.1 82 6 (by decide)
  have uend : ∀ (V : iS) (G : gT), uM V → lq G0 V → mG V G → wfG G → ∃ v S', j_X7_read_202 0 (-1) (kI V 82 2 0) = some (v, S') ∧ zS S' ∧ S'.2.2 = G0.2.2 ∧ (∀ a f, ¬ (a = 82 ∧ FE f) → jI S' a f = jI G0 a f) ∧ jI S' 82 0 = 0 ∧ jI S' 82 2 = 0 ∧ (∀ a, ¬ tch a → jA S' a = jA G0 a) ∧ lG S' (stG G) ∧ jI S' 82 6 = 1 ∧ v = (gAr (stG G)).length := by
    intro V G u hq hg hw
    obtain ⟨S', e, z, p, i, i2, i6, i0, a, l⟩ := u7_202 u hg hw (l1 := 0)
    exact ⟨_, S', e, z, p.trans hq.2.1, fun a f q => (i a f q).trans (hq.1 a f (fun k => q ⟨k.1, FQE f k.2⟩)), i0.trans ((hq.1 82 0 (by decide)).trans t0), i2, fun b hb => (a b hb).trans (hq.2.2.2 b hb), l, i6, rfl⟩
  have z : zS S := by
    cases o with
    | none => exact hr.1.1
    | some G => exact hr.1.1.1
  have l84 : (jA S 84).length = 2 := z 84
  have l86 : (jA S 86).length = 2 := z 86
  rw [j_X7_read_90]
  cases o with
  | none =>
    have v : vL S := hr
    obtain ⟨w, S', e, q⟩ := vend S v h1 f0 f1
    refine ⟨w, S', it rfl (it (by omega) ?_), q⟩
    rw [e7_lie0 (.inl v.2.1), Option.bind_some]
    refine it (by omega) ?_
    rw [e7_lie0 (.inl v.2.1), Option.bind_some]
    exact it v.2.1 e
  | some G =>
    obtain ⟨u, hg, hw⟩ := hr
    rw [Option.bind_some]
    have c84 := hg.1.1
    have c86 := hg.2.2.2.1.1
    cases hc : gCt G with
    | none =>
      have h35 : jI S 82 35 = 0 := by
        have := hg.2.2.2.2.2.2.1
        rw [hc] at this
        exact this
      obtain ⟨w, S', e, q⟩ := uend S G u h1 hg hw
      refine ⟨w, S', it rfl (it (by omega) ?_), q⟩
      rw [e7_lie0 (.inr h35), Option.bind_some]
      refine it (by omega) ?_
      rw [e7_lie0 (.inr h35), Option.bind_some]
      exact ie (nn u.2.1) e
    | some c =>
      have hct : mCt S (some c) := by
        have := hg.2.2.2.2.2.2.1
        rw [hc] at this
        exact this
      obtain ⟨S1, e1, q1, a1, t1, n1⟩ := e7_lie u hct (many := (jA S 84).getD 1 0) (k := 0) (by decide)
      have e1' : j_X7_lie ((jA S 84).getD 1 0) 0 S = some S1 := e1
      rw [if_pos rfl, c84] at t1 n1
      by_cases hn : c.1 = ((gNo G).length : Int)
      · have hS1 := t1 hn
        subst hS1
        obtain ⟨S2, e2, q2, a2, t2, n2⟩ := e7_lie u hct (many := (jA S1 86).getD 1 0) (k := 1) (by decide)
        have e2' : j_X7_lie ((jA S1 86).getD 1 0) 1 S1 = some S2 := e2
        rw [if_neg (by decide), c86] at t2 n2
        by_cases ha : c.2 = ((gAr G).length : Int)
        · have hS2 := t2 ha
          subst hS2
          obtain ⟨w, S', e, q⟩ := uend S2 G u h1 hg hw
          refine ⟨w, S', it rfl (it (by omega) ?_), ?_⟩
          · rw [e1', Option.bind_some]
            refine it (by omega) ?_
            rw [e2', Option.bind_some]
            exact ie (nn u.2.1) e
          · dsimp only
            rw [if_pos ⟨hn, ha⟩]
            exact q
        · obtain ⟨v2, x0, x1⟩ := n2 ha
          obtain ⟨w, S', e, q⟩ := vend S2 v2 (lq_trans h1 q2) x0 x1
          refine ⟨w, S', it rfl (it (by omega) ?_), ?_⟩
          · rw [e1', Option.bind_some]
            refine it (by omega) ?_
            rw [e2', Option.bind_some]
            exact it v2.2.1 e
          · dsimp only
            rw [if_neg (fun q => ha q.2)]
            exact q
      · obtain ⟨v1, x0, x1⟩ := n1 hn
        obtain ⟨w, S', e, q⟩ := vend S1 v1 (lq_trans h1 q1) x0 x1
        refine ⟨w, S', it rfl (it (by omega) ?_), ?_⟩
        · rw [e1', Option.bind_some]
          refine it (by rw [a1]; omega) ?_
          rw [e7_lie0 (.inl v1.2.1), Option.bind_some]
          exact it v1.2.1 e
        · dsimp only
          rw [if_neg (fun q => hn q.1)]
          exact q
theorem mG0 (z : zS S) (h35 : jI S 82 35 = 0) (h38 : jI S 82 38 = 0) (hC : ∀ a, isC a → (jA S a).getD 1 0 = 0) : mG S g0 :=
  ⟨⟨hC 84 (by omega), by decide, fun i hi => absurd hi (Nat.not_lt_zero _)⟩, ⟨hC 90 (by omega), by decide, fun i hi => absurd hi (Nat.not_lt_zero _)⟩, ⟨hC 97 (by omega), fun i hi => absurd hi (Nat.not_lt_zero _)⟩, ⟨hC 86 (by omega), by decide, fun i hi => absurd hi (Nat.not_lt_zero _)⟩, ⟨hC 99 (by omega), fun i hi => absurd hi (Nat.not_lt_zero _)⟩, hC 96 (by omega), h35, h38⟩
/-- a read of the model -/
theorem e7_read (z : zS S) (h0 : 0 ≤ jI S 82 2) (h1 : jI S 82 2 ≤ 600) (hb : byt S) : ∃ v S', j_X7_read S = some (v, S') ∧ m7P S S' v := by
  have l84 : (jA S 84).length = 2 := z 84
  have l86 : (jA S 86).length = 2 := z 86
  have l90 : (jA S 90).length = 2 := z 90
  have l96 : (jA S 96).length = 2 := z 96
  have l97 : (jA S 97).length = 2 := z 97
  have l99 : (jA S 99).length = 2 := z 99
  unfold j_X7_read j_X7_read_0 j_X7_read_89
  rw [l84, l86, l90, l96, l97, l99]
  generalize hT : (kA (kA (kA (kA (kA (kA (kI (kI (kI (kI (kI (kI (kI S 82 0 (0 : Int)) 82 27 (0 : Int)) 82 28 (1 : Int)) 82 29 (0 : Int)) 82 30 (0 : Int)) 82 35 (0 : Int)) 82 38 (0 : Int)) 84 ((jA S 84).set 1 (0 : Int))) 86 ((jA S 86).set 1 (0 : Int))) 90 ((jA S 90).set 1 (0 : Int))) 96 ((jA S 96).set 1 (0 : Int))) 97 ((jA S 97).set 1 (0 : Int))) 99 ((jA S 99).set 1 (0 : Int))) = T
  have zT : zS T := by
    subst hT
    repeat (first | exact zS_kI z | refine zS_kI ?_ | refine zS_kA ?_ (by rw [List.length_set]; exact z _))
  have hlq : lq (kI S 82 0 0) T := by
    subst hT
    refine ⟨fun a f q => ?_, rfl, fun a i hi => ?_, fun a ha => ?_⟩
    · show jI (kI (kI (kI (kI (kI (kI (kI S 82 0 (0 : Int)) 82 27 (0 : Int)) 82 28 (1 : Int)) 82 29 (0 : Int)) 82 30 (0 : Int)) 82 35 (0 : Int)) 82 38 (0 : Int)) a f = _
      rw [jI_ne (ne_or q (by omega)), jI_ne (ne_or q (by omega)), jI_ne (ne_or q (by omega)), jI_ne (ne_or q (by omega)), jI_ne (ne_or q (by omega)), jI_ne (ne_or q (by omega))]
    · by_cases hc : isC a
      · have hl : lw a = 1 := by unfold lw; rw [if_neg (by omega), if_pos hc]
        rw [hl] at hi
        have hi0 : i = 0 := by omega
        subst hi0
        rcases hc with e | e | e | e | e | e <;> subst e <;> simp only [jA_if, jA_kI, Nat.reduceEqDiff, if_true, if_false, getD_set, Nat.zero_ne_one, false_and]
      · rw [jA_ne (by omega), jA_ne (by omega), jA_ne (by omega), jA_ne (by omega), jA_ne (by omega), jA_ne (by omega)]
        rfl
    · rw [jA_ne (by omega), jA_ne (by omega), jA_ne (by omega), jA_ne (by omega), jA_ne (by omega), jA_ne (by omega)]
      rfl
  have i27 : jI T 82 27 = 0 := by subst hT; rfl
  have i28 : jI T 82 28 = 1 := by subst hT; rfl
  have i29 : jI T 82 29 = 0 := by subst hT; rfl
  have i30 : jI T 82 30 = 0 := by subst hT; rfl
  have i35 : jI T 82 35 = 0 := by subst hT; rfl
  have i38 : jI T 82 38 = 0 := by subst hT; rfl
  have i2 : jI T 82 2 = jI S 82 2 := by subst hT; rfl
  have i3 : jI T 82 3 = jI S 82 3 := by subst hT; rfl
  have a83 : jA T 83 = jA S 83 := hlq.2.2.2 83 (by omega)
  have hC : ∀ a, isC a → (jA T a).getD 1 0 = 0 := by
    subst hT
    intro a ha
    rcases ha with e | e | e | e | e | e <;> subst e <;> simp only [jA_if, jA_kI, Nat.reduceEqDiff, if_true, if_false, getD_set, l84, l86, l90, l96, l97, l99, true_and, Nat.reduceLT]
  have uT : uM T := ⟨⟨zT, by omega, by omega, by omega, by omega⟩, i30, by omega⟩
  have mT : mRs T = gv S 82 2 83 := by
    unfold mRs
    rw [i27, show (0 : Int).toNat = 0 from rfl, List.drop_zero]
    unfold gv
    rw [i2, a83]
  have hgT : mG T g0 := mG0 zT i35 i38 hC
  have hbT : byt T := byt_lq (S := kI S 82 0 0) hb hlq
  have hml := mRs_len uT.1 uT.2.2
  have key : ∀ l, (if jI S 82 2 ≤ 0 then l = 0 else l = 1) → ∃ n' S1, j_X7_read_90 fuel l T = j_X7_read_90 (n' + 1) 0 S1 ∧ lq T S1 ∧ 0 ≤ jI S1 82 29 ∧ jI S1 82 29 ≤ 600 ∧ rL (tx 600 (jI S 82 3) 1 g0 (gv S 82 2 83)) S1 (fun G' => mG S1 G' ∧ wfG G') := by
    intro l hl
    have wf0 : wfG g0 := ⟨by decide, by decide, by decide, fun x hx => absurd hx List.not_mem_nil, by decide, by decide⟩
    by_cases he : jI S 82 2 ≤ 0
    · rw [if_pos he] at hl
      subst hl
      have hnil : gv S 82 2 83 = [] := by
        rw [← mT]
        exact List.eq_nil_of_length_eq_zero (by omega)
      refine ⟨19999, T, rfl, lq_refl, by omega, by omega, ?_⟩
      rw [hnil, tx_nil]
      exact ⟨uT, hgT, wf0⟩
    · rw [if_neg he] at hl
      subst hl
      obtain ⟨n', S1, e, q, x0, x1, r⟩ := l7_rd 600 fuel T g0 uT hbT hgT ⟨by show 2 * 0 + _ ≤ 600; omega, by show 2 * 0 + _ ≤ 600; omega, by decide, by show (0 : Int) + _ ≤ 600; omega, fun _ => rfl⟩ wf0 (fun q => by rw [q, List.length_nil] at hml; omega) (by omega) (by omega) (by omega) (by omega) (by omega) (by unfold fuel; decide)
      rw [i3, i28, mT] at r
      exact ⟨n', S1, e, q, x0, x1, r⟩
  have fin : ∀ l, (if jI S 82 2 ≤ 0 then l = 0 else l = 1) → ∃ v S', j_X7_read_90 fuel l T = some (v, S') ∧ m7P S S' v := by
    intro l hl
    obtain ⟨n', S1, e, q, x0, x1, r⟩ := key l hl
    obtain ⟨v, S', e2, z', p', i', j0, j2, a', m'⟩ := e7_fin (G0 := kI S 82 0 0) (n := n') (l1 := 0) (lq_trans hlq q) jI_eq x0 x1 r
    refine ⟨v, S', e.trans e2, z', p', fun a f k => ?_, j0, j2, a', ?_⟩
    · rw [i' a f k, jI_ne (ne_or k (by omega))]
    · unfold rdS
      exact m'
  by_cases he : jI S 82 2 ≤ 0
  · obtain ⟨v, S', e, q⟩ := fin 0 (by rw [if_pos he])
    exact ⟨v, S', it (by decide) (it (by decide) (it (by decide) (it (by decide) (it (by decide) (it (by decide) (it he e)))))), q⟩
  · obtain ⟨v, S', e, q⟩ := fin 1 (by rw [if_neg he])
    exact ⟨v, S', it (by decide) (it (by decide) (it (by decide) (it (by decide) (it (by decide) (it (by decide) (ie he e)))))), q⟩
end MRX
