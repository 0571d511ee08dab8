section CVA
variable {S S' S'' : iS} {b : Bool}
theorem sg_len (w : wC b S) : ((sg b S).length : Int) = jI S (gadr b + 1) 1 := by
  have h := w.2.2.2.2.2.2
  refine gv_len h.1 ?_
  have : (jA S (gadr b + 2)).length = 600 := by
    rw [w.1 (gadr b + 2)]
    cases b <;> rfl
  omega
theorem sg_at (w : wC b S) {i : Int} (h0 : 0 ≤ i) (h1 : i < jI S (gadr b + 1) 1) : rat S (gadr b + 1) i = (sg b S).getD i.toNat 0 := by
  have h := w.2.2.2.2.2.2
  have hl : (jA S (gadr b + 2)).length = 600 := by
    rw [w.1 (gadr b + 2)]
    cases b <;> rfl
  unfold rat sg
  rw [gv_get (by omega)]
  rw [if_pos ⟨h0, h1, by show i < ((jA S (gadr b + 2)).length : Int); omega⟩]
theorem l6_fo (w : wC b S) {l1 : Int} : ∀ (j n k : Nat), k + j = (sg b S).length → j < n → j_X2_figuresOnly_2 n l1 k S = some (bi (∀ c ∈ (sg b S).drop k, isFig c), S) := by
  have hl := sg_len w
  have h600 := w.2.2.2.2.2.2
  intro j
  induction j with
  | zero =>
    intro n k hk hn
    obtain ⟨n, rfl⟩ : ∃ m, n = m + 1 := ⟨n - 1, by omega⟩
    rw [j_X2_figuresOnly_2, w.2.1, List.drop_eq_nil_of_le (by omega)]
    exact it (by omega) (by rw [bi_t (fun c hc => absurd hc List.not_mem_nil)])
  | succ j ih =>
    intro n k hk hn
    obtain ⟨n, rfl⟩ : ∃ m, n = m + 1 := ⟨n - 1, by omega⟩
    have hd1 := drop_getD (l := sg b S) (k := k) (by omega)
    rw [j_X2_figuresOnly_2, w.2.1]
    refine ie (by omega) ?_
    rw [eR_at w.1, Option.bind_some, sg_at w (by omega) (by omega), show ((k : Int)).toNat = k by omega]
    dsimp only
    rw [e6_fig, Option.bind_some]
    by_cases hf : isFig ((sg b S).getD k 0)
    · refine it (bi_n hf) (it ⟨by omega, by omega⟩ ?_)
      dsimp only
      rw [show (k : Int) + 1 = ((k + 1 : Nat) : Int) by omega, ih n (k + 1) (by omega) (by omega)]
      congr 2
      by_cases ha : ∀ c ∈ (sg b S).drop (k + 1), isFig c
      · rw [bi_t ha, bi_t (by
          rw [hd1]
          intro c hc
          rcases List.mem_cons.mp hc with e | e
          · rw [e]; exact hf
          · exact ha c e)]
      · rw [bi_f ha, bi_f (fun q => ha (fun c hc => q c (by rw [hd1]; exact List.mem_cons_of_mem _ hc)))]
    · refine ie (nn (bi_0.mpr hf)) ?_
      rw [bi_f (c := ∀ c ∈ (sg b S).drop k, isFig c) (fun q => hf (q _ (by rw [hd1]; exact List.mem_cons_self)))]
theorem c_fo (w : wC b S) {st : Nat} (h : st ≤ (sg b S).length) : j_X2_figuresOnly st S = some (bi (∀ c ∈ (sg b S).drop st, isFig c), S) := by
  have hl := sg_len w
  have h600 := w.2.2.2.2.2.2
  exact l6_fo w ((sg b S).length - st) fuel st (by omega) (by unfold fuel; omega)
/-- a VALUE that is guessed -/
theorem c_guess (w : wC b S) (h11 : jI S 80 11 = jI S (gadr b + 1) 1) : ∃ x S', j_X2_readGuessed S = some (x, S') ∧ frC (FV b) (RS b) S S' ∧ rc b (gsS (cR S)) x S' (fun q => cR S' = q.2 ∧ jI S' 80 10 = q.1.1 ∧ jI S' 80 11 = jI S 80 11 ∧ sg b S' = sg b S ++ q.1.2.2) := by
  have hg := g_or b
  have h7 := w.2.2.2.1
  have hl := sg_len w
  have h600 := w.2.2.2.2.2.2
  obtain ⟨x, S1, e1, f1, r1⟩ := c_plain w
  unfold j_X2_readGuessed j_X2_readGuessed_0 gsS
  rw [e1, Option.bind_some]
  by_cases hp : isPln (hd (cR S))
  · rw [if_pos hp] at r1
    rw [if_neg (nn hp)]
    cases hq : plK 8 (cR S) with
    | none =>
      rw [hq] at r1
      exact ⟨0, S1, ie (nn r1.1) rfl, frC_V f1, rfl, r1.2⟩
    | some q =>
      rw [hq] at r1
      obtain ⟨hx, w1, s1, c1⟩ := r1
      rw [Option.bind_some]
      have hl1 := sg_len w1
      have h601 := w1.2.2.2.2.2.2
      have i11 : jI S1 80 11 = jI S 80 11 := f1.1 80 11 (by omega)
      have hlen : jI S1 (gadr b + 1) 1 - jI S1 80 11 = q.1.length := by
        rw [i11, h11, ← hl1, ← hl, s1, List.length_append]; omega
      obtain ⟨c, s, er, ec⟩ := hd_cons (r := cR S) (by omega)
      have happ := plK_app hq
      have hq1 : 1 ≤ q.1.length ∧ q.1.getD 0 0 = hd (cR S) := by
        rw [plK_plP] at hq
        split at hq
        · cases hq
          obtain ⟨c', s', e', ec', ep⟩ := plP_hd hp
          show 1 ≤ (plP (cR S)).length ∧ (plP (cR S)).getD 0 0 = hd (cR S)
          rw [ep, ec', List.getD_cons_zero, List.length_cons]
          exact ⟨by omega, rfl⟩
        · cases hq
      have hat48 : rat S1 (gadr b + 1) (jI S1 80 11) = hd (cR S) := by
        rw [sg_at w1 (by omega) (by omega), s1, i11, h11, ← hl, show (((sg b S).length : Nat) : Int).toNat = (sg b S).length by omega, List.getD_eq_getElem?_getD, List.getElem?_append_right (Nat.le_refl _), Nat.sub_self, ← List.getD_eq_getElem?_getD]
        exact hq1.2
      have hfo : j_X2_figuresOnly (jI S1 80 11) S1 = some (bi (∀ c ∈ q.1, isFig c), S1) := by
        have := c_fo w1 (st := (sg b S).length) (by rw [s1, List.length_append]; omega)
        rw [s1, List.drop_left] at this
        rw [i11, h11, ← hl]
        exact this
      have hlen8 : q.1.length ≤ 600 := by
        have := cR_len w
        have := congrArg List.length happ
        rw [List.length_append] at this
        omega
      obtain ⟨zf, hzf⟩ : ∃ zf : Int, ((1 < q.1.length ∧ hd (cR S) = 48) ∧ zf = 1) ∨ (¬ (1 < q.1.length ∧ hd (cR S) = 48) ∧ zf = 0) := by
        by_cases h : 1 < q.1.length ∧ hd (cR S) = 48
        · exact ⟨1, .inl ⟨h, rfl⟩⟩
        · exact ⟨0, .inr ⟨h, rfl⟩⟩
      have h62 : ∀ X, j_X2_readGuessed_62 (jI S 81 1) q.1.length zf S1 = X → (if ¬ x = (0 : Int) then (if rg ((jI S1 ((gadr (jP2 S1)) + 1) 1) - (jI S1 80 11)) then (if ((jI S1 ((gadr (jP2 S1)) + 1) 1) - (jI S1 80 11)) ≤ (1 : Int) then (j_X2_readGuessed_61 (jI S 81 1) ((jI S1 ((gadr (jP2 S1)) + 1) 1) - (jI S1 80 11)) S1) else ((j_X3_at ((gadr (jP2 S1)) + 1) (jI S1 80 11) S1).bind fun qx2 => (if ¬ qx2.1 = (48 : Int) then (j_X2_readGuessed_61 (jI S 81 1) ((jI S1 ((gadr (jP2 S1)) + 1) 1) - (jI S1 80 11)) qx2.2) else (j_X2_readGuessed_62 (jI S 81 1) ((jI S1 ((gadr (jP2 S1)) + 1) 1) - (jI S1 80 11)) (1 : Int) qx2.2)))) else none) else (some ((0 : Int), S1))) = X := by
        intro X hX
        rw [w1.2.1, hlen, eR_at w1.1, Option.bind_some, hat48]
        refine it (by rw [hx]; decide) (it ⟨by omega, by omega⟩ ?_)
        unfold j_X2_readGuessed_61
        rcases hzf with ⟨⟨ha, hb⟩, e⟩ | ⟨ha, e⟩
        · rw [e] at hX; exact ie (by omega) (ie (nn hb) hX)
        · rw [e] at hX
          by_cases h1 : (q.1.length : Int) ≤ 1
          · exact it h1 hX
          · exact ie h1 (it (fun h48 => ha ⟨by omega, h48⟩) hX)
      have h114 : ∀ (t : Int), ∃ S', j_X2_readGuessed_135 (jI S 81 1) q.1.length zf (bi (∀ c ∈ q.1, isFig c)) t S1 = some (1, S') ∧ frC (FV b) (RS b) S S' ∧ wC b S' ∧ cR S' = q.2 ∧ jI S' 80 10 = t ∧ jI S' 80 11 = jI S 80 11 ∧ sg b S' = sg b S ++ q.1 := by
        intro t
        obtain ⟨w5, c5⟩ := wC_fr w1 (F := fun a f => a = 80 ∧ f = 10) (R := R0) (S' := kI S1 80 10 t) (frC_kI (by omega)) w1.1 (by omega) (by omega) (by omega) (by omega) (by omega) (fun q => q)
        refine ⟨kI S1 80 10 t, rfl, frC_trans (frC_V f1) (frC_kI (by omega)), w5, by rw [c5]; exact c1, jI_eq, by rw [jI_ne (.inr (by decide))]; exact i11, ?_⟩
        unfold sg gv
        rw [jI_ne (.inl (by omega)), jA_kI]
        exact s1
      dsimp only
      by_cases hfp : (∀ c ∈ q.1, isFig c) ∧ hd q.2 = 46
      · rw [if_pos hfp]
        rcases hzf with ⟨hz, ez⟩ | ⟨hz, ez⟩
        · rw [if_pos hz]
          obtain ⟨S', e, z', f'⟩ := c_fail w1 (k := 1) (p := jI S 81 1 + 1) ⟨by omega, by omega⟩
          refine ⟨0, S', h62 _ ?_, frC_V (frC_trans f1 (frC_C f')), rfl, z'⟩
          unfold j_X2_readGuessed_62 j_X2_readGuessed_113
          rw [hfo, Option.bind_some]
          refine ie (bi_n hfp.1) (ie (nn (by show jI S1 81 2 = 46; rw [w1.2.2.2.2.1, c1]; exact hfp.2)) (ie (by omega) (it ⟨by omega, by omega⟩ ?_)))
          dsimp only
          rw [e]
          rfl
        · rw [if_neg hz]
          have hpos1 := c_pos w (by rw [er]; exact List.cons_ne_nil _ _)
          have hpos2 := c_pos w1 (by rw [c1]; exact ne_nil_hd (by omega))
          rw [c1, f1.1 1 1 (by omega)] at hpos2
          have hl2 := congrArg List.length happ
          rw [List.length_append] at hl2
          obtain ⟨x2, S', e5, f5, r5⟩ := c_fra w1 (l1 := jI S 81 1) (nd := q.1.length) (by rw [c1]; exact hfp.2) (by omega) h7.1
          rw [c1] at r5
          refine ⟨x2, S', h62 _ ?_, frC_trans (frC_V f1) f5, ?_⟩
          · unfold j_X2_readGuessed_62 j_X2_readGuessed_113
            rw [hfo, Option.bind_some]
            refine ie (bi_n hfp.1) (ie (nn (by show jI S1 81 2 = 46; rw [w1.2.2.2.2.1, c1]; exact hfp.2)) (it ez ?_))
            dsimp only
            rw [e5, Option.bind_some]
            refine it ?_ rfl
            cases ho : (if 3 < q.1.length then none else if isFig (hd q.2.tail) then fgK 3 q.2.tail else none) with
            | none => rw [ho] at r5; exact .inl r5.1
            | some v => rw [ho] at r5; exact .inr r5.1
          · unfold frS
            by_cases h3 : 3 < q.1.length
            · rw [if_pos h3] at r5 ⊢; exact r5
            · rw [if_neg h3] at r5 ⊢
              by_cases hf2 : isFig (hd q.2.tail)
              · rw [if_pos hf2] at r5 ⊢
                refine rc_map (rc_mono r5 fun v _ hv => ?_)
                obtain ⟨v1, v2, v3, v4⟩ := hv
                refine ⟨v2, v3, v4.trans i11, ?_⟩
                rw [v1, s1, List.append_assoc]
                rfl
              · rw [if_neg hf2] at r5 ⊢; exact r5
      · rw [if_neg hfp]
        have h62b : ∀ X, j_X2_readGuessed_114 (jI S 81 1) q.1.length zf (bi (∀ c ∈ q.1, isFig c)) S1 = X → j_X2_readGuessed_62 (jI S 81 1) q.1.length zf S1 = X := by
          intro X hX
          unfold j_X2_readGuessed_62
          rw [hfo, Option.bind_some]
          by_cases hf : ∀ c ∈ q.1, isFig c
          · exact ie (bi_n hf) (it (by show ¬ jI S1 81 2 = 46; rw [w1.2.2.2.2.1, c1]; exact fun h46 => hfp ⟨hf, h46⟩) hX)
          · exact it (bi_0.mpr hf) hX
        by_cases hw : (∀ c ∈ q.1, isFig c) ∧ ¬ (1 < q.1.length ∧ hd (cR S) = 48) ∧ q.1.length ≤ 6
        · rw [if_pos hw]
          obtain ⟨S', e, f', w', c', t', i', s'⟩ := h114 1
          refine ⟨1, S', h62 _ (h62b _ ?_), f', rfl, w', c', t', i', s'⟩
          unfold j_X2_readGuessed_114
          refine ie (bi_n hw.1) (ie (nn (by rcases hzf with ⟨ha, _⟩ | ⟨_, hb⟩; exact absurd ha hw.2.1; exact hb)) (ie (by omega) e))
        · rw [if_neg hw]
          obtain ⟨S', e, f', w', c', t', i', s'⟩ := h114 3
          refine ⟨1, S', h62 _ (h62b _ ?_), f', rfl, w', c', t', i', s'⟩
          unfold j_X2_readGuessed_114 j_X2_readGuessed_134
          by_cases hf : ∀ c ∈ q.1, isFig c
          · refine ie (bi_n hf) ?_
            rcases hzf with ⟨ha, hb⟩ | ⟨ha, hb⟩
            · exact it (by omega) e
            · refine ie (nn hb) (it ?_ e)
              have : ¬ q.1.length ≤ 6 := fun h6 => hw ⟨hf, ha, h6⟩
              omega
          · exact it (bi_0.mpr hf) e
  · rw [if_neg hp] at r1
    rw [if_pos hp]
    exact ⟨0, S1, ie (nn r1.1) rfl, frC_V f1, rfl, r1.2⟩
end CVA
