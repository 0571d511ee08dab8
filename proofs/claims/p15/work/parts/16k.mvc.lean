section MVC
variable {S S' : iS} {ns : List Int}
theorem e7_value (u0 : uM S) (hb : ∀ c ∈ mRs S, 0 ≤ c) {k : Int} (hk0 : 0 ≤ k) (hk3 : k ≤ 3) : ∃ S', j_X7_readValue k S = some S' ∧ fr FD RN S S' ∧ (∃ ms, nmd S' ms) ∧ rs (enE (vlS k (mRs S))) S' (fun q => mRs S' = q.2 ∧ jI S' 82 33 = q.1.1 ∧ jI S' 82 34 = q.1.2.1 ∧ nmd S' q.1.2.2) := by
  have l9 : (jA S 103).length = 9 := u0.1.1 103
  obtain ⟨x, l, el⟩ : ∃ x l, jA S 103 = x :: l := by
    cases e : jA S 103 with
    | nil => rw [e] at l9; cases l9
    | cons x l => exact ⟨x, l, rfl⟩
  rw [el, List.length_cons] at l9
  have n0 : nmd (kA S 103 ((jA S 103).set 0 0)) [] := ⟨l, by rw [jA_eq, el]; rfl, by omega, rfl⟩
  have z0 : zS (kA S 103 ((jA S 103).set 0 0)) := zS_set u0.1.1
  have u1 : uM (kA S 103 ((jA S 103).set 0 0)) := uM_fr u0 (F := fun _ => False) (R := RN) (fr_kA rfl) z0 (fun q => q) (fun q => q) (fun q => q)
  have m1 : mRs (kA S 103 ((jA S 103).set 0 0)) = mRs S := mRs_fr (F := fun _ => False) (R := RN) (fr_kA rfl) (fun q => q) (fun q => q) (by decide)
  obtain ⟨u, m2⟩ := uM_D u1 (f := 34) (v := 0) (.inr rfl)
  have m0 := m2.trans m1
  have f0 : fr FD RN S (kI (kA S 103 ((jA S 103).set 0 0)) 82 34 0) := fr_trans (fr_kA rfl) (fr_kI (by omega))
  have nT : nmd (kI (kA S 103 ((jA S 103).set 0 0)) 82 34 0) [] := n0
  have i34 : jI (kI (kA S 103 ((jA S 103).set 0 0)) 82 34 0) 82 34 = 0 := jI_eq
  unfold j_X7_readValue j_X7_readValue_0
  rw [show ∀ X : Option iS, (if 0 < (jA S 103).length then X else none) = X from fun X => it (by rw [el, List.length_cons]; omega) rfl]
  rw [← m0] at hb ⊢
  generalize kI (kA S 103 ((jA S 103).set 0 0)) 82 34 0 = T at *
  have w1 := u.1.2.2.1
  have w2 := u.1.2.2.2.1
  have a3 := u.2.2
  have l83 := z83 u.1.1
  rw [e7_here u.1, Option.bind_some]
  dsimp only
  -- what comes without a - alone
  have h72 : ∀ (hal : ¬ (hd (mRs T) = 45 ∧ isE (mRs T).tail)), ∃ S', j_X7_readValue_72 k (hd (mRs T)) T = some S' ∧ fr FD RN T S' ∧ (∃ ms, nmd S' ms) ∧ rs (enE (vlS k (mRs T))) S' (fun q => mRs S' = q.2 ∧ jI S' 82 33 = q.1.1 ∧ jI S' 82 34 = q.1.2.1 ∧ nmd S' q.1.2.2) := by
    intro hal
    have wfail : ∀ j p, (¬ j = 0 ∧ 1 ≤ j ∧ j ≤ 7) → 0 ≤ p → p ≤ 1000 → vlS k (mRs T) = none → ∀ X, (X = some (kI (kI T 82 30 j) 82 31 p)) → ∃ S', X = some S' ∧ fr FD RN T S' ∧ (∃ ms, nmd S' ms) ∧ rs (enE (vlS k (mRs T))) S' (fun q => mRs S' = q.2 ∧ jI S' 82 33 = q.1.1 ∧ jI S' 82 34 = q.1.2.1 ∧ nmd S' q.1.2.2) := by
      intro j p hj p0 p1 hn X hX
      refine ⟨_, hX, fr_w (by omega) (by omega), ⟨[], nT⟩, ?_⟩
      rw [hn]
      exact vM_w' u.1 hj.1 p0 p1 (by omega) hj.2.1 hj.2.2
    unfold j_X7_readValue_72 j_X7_readValue_73
    rw [show ∀ X Y : Option iS, (if (0 : Int) = 0 then X else Y) = X from fun X Y => it rfl rfl]
    by_cases hk2 : k = 2
    · rw [show ∀ X Y : Option iS, (if ¬ k = 2 then X else Y) = Y from fun X Y => ie (nn hk2) rfl]
      by_cases h45 : hd (mRs T) = 45
      · have hv : vlS k (mRs T) = none := by
          rw [vlS, if_pos h45, if_neg (fun q => hal ⟨h45, q⟩), if_pos hk2]
        rw [hv]
        refine ⟨kI (kI (kI T 82 33 3) 82 30 1) 82 31 (jI T 82 27 + 1), ie (nn h45) (it ⟨by omega, by omega⟩ ?_), fr_trans (fr_kI (by omega)) (fr_w (by omega) (by omega)), ⟨[], nT⟩, ?_⟩
        · rw [e7_wrong0 (show jI (kI T 82 33 3) 82 30 = 0 from u.2.1)]
          rfl
        · exact vM_w' (uM_D u (f := 33) (v := 3) (.inl rfl)).1.1 (by decide) (by omega) (by omega) (show jI T 82 27 ≤ 603 by omega)
      · obtain ⟨u3, m3⟩ := uM_D u (f := 33) (v := 3) (.inl rfl)
        obtain ⟨S', e, f, n, r⟩ := e7_name u3
        rw [m3] at r
        refine ⟨S', it h45 ?_, fr_trans (fr_kI (by omega)) (fr_mono f FN_FD (fun _ q => q)), n, ?_⟩
        · rw [e]; rfl
        · rw [vlS, if_neg h45, if_pos (.inl hk2), enE_map (g := fun q => ((3, 0, q) : vT))]
          refine rs_map (rs_mono r fun v _ hv => ?_)
          exact ⟨hv.2, f.1 82 33 (by omega), (f.1 82 34 (by omega)).trans i34, hv.1⟩
    · rw [show ∀ X Y : Option iS, (if ¬ k = 2 then X else Y) = X from fun X Y => it hk2 rfl]
      by_cases hk : 2 ≤ k
      · have hk3' : k = 3 := by omega
        obtain ⟨S', e, f, n, r⟩ := e7_any u nT i34
        refine ⟨S', it hk (by rw [e]; rfl), f, n, ?_⟩
        have : vlS k (mRs T) = (if hd (mRs T) = 45 then numS 3 [45] (mRs T).tail else if hd (mRs T) = 34 then (nmS (mRs T)).map (fun q => (((3, 0, q.1) : vT), q.2)) else gsS (mRs T)) := by
          rw [vlS, hk3']
          by_cases h45 : hd (mRs T) = 45
          · rw [if_pos h45, if_pos h45, if_neg (fun q => hal ⟨h45, q⟩), if_neg (by decide)]
          · rw [if_neg h45, if_neg h45]
            by_cases h34 : hd (mRs T) = 34
            · rw [if_pos (.inr ⟨rfl, h34⟩), if_pos h34]
            · rw [if_neg (fun q => q.elim (fun q => absurd q (by decide)) (fun q => h34 q.2)), if_neg h34, if_pos rfl]
        rw [this]
        exact r
      · refine (fun ⟨S', e, q⟩ => ⟨S', ie hk e, q⟩ : (∃ S', (if hd (mRs T) = (34 : Int) then (j_X7_readValue_158 k (hd (mRs T)) 0 T) else ((j_X7_isPlain (hd (mRs T)) T).bind fun qx2 => (if qx2.1 = (0 : Int) then (j_X7_readValue_170 k (hd (mRs T)) 0 qx2.2) else ((j_X7_isFigure (hd (mRs T)) qx2.2).bind fun qx3 => (if ¬ qx3.1 = (0 : Int) then (j_X7_readValue_170 k (hd (mRs T)) 0 qx3.2) else (j_X7_readValue_158 k (hd (mRs T)) 0 qx3.2)))))) = some S' ∧ _) → _) ?_
        have hno : hd (mRs T) ≠ 45 → ¬ isFig (hd (mRs T)) → vlS k (mRs T) = none := by
          intro h1 h2
          rw [vlS, if_neg h1, if_neg (by rintro (q | q) <;> omega), if_neg (by omega), numS, if_pos h2]
        have h158 : hd (mRs T) ≠ 45 → ¬ isFig (hd (mRs T)) → j_X7_readValue_158 k (hd (mRs T)) 0 T = some (kI (kI T 82 30 3) 82 31 (jI T 82 27)) := by
          intro _ _
          unfold j_X7_readValue_158
          rw [e7_wrong0 u.2.1]
          rfl
        have h183 : hd (mRs T) = 45 ∨ isFig (hd (mRs T)) → ∃ S', j_X7_readValue_183 k (hd (mRs T)) 0 T = some S' ∧ fr FD RN T S' ∧ (∃ ms, nmd S' ms) ∧ rs (enE (vlS k (mRs T))) S' (fun q => mRs S' = q.2 ∧ jI S' 82 33 = q.1.1 ∧ jI S' 82 34 = q.1.2.1 ∧ nmd S' q.1.2.2) := by
          intro hor
          have hv : vlS k (mRs T) = (if hd (mRs T) = 45 then numS k [45] (mRs T).tail else numS k [] (mRs T)) := by
            rw [vlS]
            by_cases h45 : hd (mRs T) = 45
            · rw [if_pos h45, if_pos h45, if_neg (fun q => hal ⟨h45, q⟩), if_neg hk2]
            · rw [if_neg h45, if_neg h45, if_neg (by rintro (q | q) <;> omega), if_neg (by omega)]
          rw [hv]
          unfold j_X7_readValue_183 j_X7_readValue_193 j_X7_readValue_216
          by_cases hk00 : k = 0
          · obtain ⟨S', e, f, n, r⟩ := e7_num u nT (l1 := 1) (told := k) ⟨fun _ => hk00, fun _ => by decide⟩
            exact ⟨S', ie (nn hk00) (by rw [e]; rfl), f, n, r⟩
          · obtain ⟨S', e, f, n, r⟩ := e7_num u nT (l1 := 0) (told := k) ⟨fun q => absurd rfl q, fun q => absurd q hk00⟩
            exact ⟨S', it hk00 (by rw [e]; rfl), f, n, r⟩
        have h170 : ∃ S', j_X7_readValue_170 k (hd (mRs T)) 0 T = some S' ∧ fr FD RN T S' ∧ (∃ ms, nmd S' ms) ∧ rs (enE (vlS k (mRs T))) S' (fun q => mRs S' = q.2 ∧ jI S' 82 33 = q.1.1 ∧ jI S' 82 34 = q.1.2.1 ∧ nmd S' q.1.2.2) := by
          unfold j_X7_readValue_170
          by_cases h45 : hd (mRs T) = 45
          · obtain ⟨S', e, q⟩ := h183 (.inl h45)
            exact ⟨S', it h45 e, q⟩
          · by_cases hf : isFig (hd (mRs T))
            · obtain ⟨S', e, q⟩ := h183 (.inr hf)
              refine ⟨S', ie h45 ?_, q⟩
              rw [e7_fig, Option.bind_some]
              exact ie (bi_n hf) e
            · refine wfail 1 (jI T 82 27) (by decide) (by omega) (by omega) (hno h45 hf) _ (ie h45 ?_)
              rw [e7_fig, Option.bind_some]
              refine it (bi_0.mpr hf) ?_
              dsimp only
              rw [e7_wrong0 u.2.1]
              rfl
        by_cases h34 : hd (mRs T) = 34
        · exact wfail 3 (jI T 82 27) (by decide) (by omega) (by omega) (hno (by omega) (by omega)) _ (it h34 (h158 (by omega) (by omega)))
        · by_cases hp : isPln (hd (mRs T))
          · by_cases hf : isFig (hd (mRs T))
            · obtain ⟨S', e, q⟩ := h170
              refine ⟨S', ie h34 ?_, q⟩
              rw [e7_pln, Option.bind_some]
              refine ie (bi_n hp) ?_
              dsimp only
              rw [e7_fig, Option.bind_some]
              exact it (bi_n hf) e
            · refine wfail 3 (jI T 82 27) (by decide) (by omega) (by omega) (hno (by omega) hf) _ (ie h34 ?_)
              rw [e7_pln, Option.bind_some]
              refine ie (bi_n hp) ?_
              dsimp only
              rw [e7_fig, Option.bind_some]
              exact ie (nn (bi_0.mpr hf)) (h158 (by omega) hf)
          · obtain ⟨S', e, q⟩ := h170
            refine ⟨S', ie h34 ?_, q⟩
            rw [e7_pln, Option.bind_some]
            exact it (bi_0.mpr hp) e
  by_cases h45 : hd (mRs T) = 45
  · have hlt := uM_lt u (by omega)
    have h68 : isE (mRs T).tail → ∃ S', j_X7_readValue_68 k (hd (mRs T)) T = some S' ∧ fr FD RN T S' ∧ (∃ ms, nmd S' ms) ∧ rs (enE (vlS k (mRs T))) S' (fun q => mRs S' = q.2 ∧ jI S' 82 33 = q.1.1 ∧ jI S' 82 34 = q.1.2.1 ∧ nmd S' q.1.2.2) := by
      intro hE
      obtain ⟨u3, m3⟩ := uM_D u (f := 33) (v := 0) (.inl rfl)
      have u4 := uM_step u3 (by rw [m3]; omega)
      have m4 := mRs_step u3.1
      rw [m3] at m4
      refine ⟨kI (kI T 82 33 0) 82 27 (jI T 82 27 + 1), ?_, fr_trans (fr_kI (by omega)) (fr_kI (by omega)), ⟨[], nT⟩, ?_⟩
      · unfold j_X7_readValue_68 j_X7_readValue_73 j_X7_readValue_216
        exact ie (by decide) (it ⟨by omega, by omega⟩ rfl)
      · rw [vlS, if_pos h45, if_pos hE, enE_some, if_pos hE]
        exact ⟨u4, m4, rfl, i34, nT⟩
    have goon : ∀ {X : Option iS}, (∃ S', X = some S' ∧ fr FD RN T S' ∧ (∃ ms, nmd S' ms) ∧ rs (enE (vlS k (mRs T))) S' (fun q => mRs S' = q.2 ∧ jI S' 82 33 = q.1.1 ∧ jI S' 82 34 = q.1.2.1 ∧ nmd S' q.1.2.2)) → ∀ {Y : Option iS}, Y = X → ∃ S', Y = some S' ∧ fr FD RN S S' ∧ (∃ ms, nmd S' ms) ∧ rs (enE (vlS k (mRs T))) S' (fun q => mRs S' = q.2 ∧ jI S' 82 33 = q.1.1 ∧ jI S' 82 34 = q.1.2.1 ∧ nmd S' q.1.2.2) := by
      intro X hX Y hY
      obtain ⟨S', e, f, q⟩ := hX
      exact ⟨S', hY.trans e, fr_trans f0 f, q⟩
    have ht : (mRs T).drop 1 = (mRs T).tail := by cases mRs T <;> rfl
    cases h1 : (mRs T).drop 1 with
    | nil =>
      have hsz := t83n u.1 h1
      have hE : isE (mRs T).tail := by rw [← ht, h1]; exact .inr rfl
      refine goon (h68 hE) (ie (nn h45) (it ⟨by omega, by omega⟩ (it (by omega) rfl)))
    | cons d r2 =>
      obtain ⟨hs1, hs2, _⟩ := t83 u.1 h1
      have hs2' : (jA T 83).getD (jI T 82 27 + 1).toNat 0 = d := hs2
      by_cases h32 : d = 32
      · have hE : isE (mRs T).tail := by rw [← ht, h1, h32]; exact .inl rfl
        refine goon (h68 hE) (ie (nn h45) (it ⟨by omega, by omega⟩ (ie (by omega) (it ⟨by omega, by omega⟩ (it (by rw [hs2']; exact h32) rfl)))))
      · by_cases h10 : d = 10
        · have hE : isE (mRs T).tail := by rw [← ht, h1, h10]; exact .inr rfl
          refine goon (h68 hE) (ie (nn h45) (it ⟨by omega, by omega⟩ (ie (by omega) (it ⟨by omega, by omega⟩ (ie (by rw [hs2']; exact h32) (ie (nn (by rw [hs2']; exact h10)) rfl))))))
        · have hdm : d ∈ mRs T := List.mem_of_mem_drop (by rw [h1]; exact List.mem_cons_self)
          have hE : ¬ isE (mRs T).tail := by
            have := hb d hdm
            rw [← ht, h1]
            intro q
            have e := hd_c (r := r2) h10
            rcases q with q | q <;> omega
          exact goon (h72 (fun q => hE q.2)) (ie (nn h45) (it ⟨by omega, by omega⟩ (ie (by omega) (it ⟨by omega, by omega⟩ (ie (by rw [hs2']; exact h32) (it (by rw [hs2']; exact h10) rfl))))))
  · obtain ⟨S', e, f, q⟩ := h72 (fun q => h45 q.1)
    exact ⟨S', it h45 e, fr_trans f0 f, q⟩
end MVC
