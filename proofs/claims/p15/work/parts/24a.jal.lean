section JAL
variable {S S' S'' : iS} {G : gT} {c : Bool}
/-- class and model tell the same -/
def Jv (S : iS) : Prop := zS S ∧ ((0 ≤ jI S 1 1 ∧ jI S 1 1 ≤ 600) ∧ jI S 82 2 = jI S 1 1 ∧ gv S 82 2 83 = cT S ∧ ∀ c ∈ cT S, 0 ≤ c) ∧ (jI S 82 3 = jI S 0 7 ∧ jI S 82 6 = jI S 0 6 ∧ jP1 S = !jP0 S) ∧ (∃ G, cO (jP0 S) S G ∧ lG S G ∧ fG G) ∧ (rk S 3 ∧ jI S 82 26 = jI S 3 1 ∧ gv S 82 26 102 = rv S 3)
theorem lw_in {a i : Nat} (h : i < lw a) : 84 ≤ a ∧ a ≤ 101 := by
  unfold lw at h
  split at h
  · next q => omega
  · split at h
    · next q => omega
    · split at h
      · next q => omega
      · omega
theorem gR_fr (h : cO (jP0 S) S G ∧ lG S G ∧ fG G) (hp : jP0 S' = jP0 S) (hI : ∀ a f, 6 ≤ a → a ≤ 79 → jI S' a f = jI S a f) (hA : ∀ a, (6 ≤ a ∧ a ≤ 79) ∨ (84 ≤ a ∧ a ≤ 101) → jA S' a = jA S a) : cO (jP0 S') S' G ∧ lG S' G ∧ fG G := by
  have hg := g_or (jP0 S)
  rw [hp]
  refine ⟨cO_far h.1 (fun a q p1 p2 => ⟨hI a q (by omega) (by omega), hA a (by omega)⟩), lG_lw h.2.1 (fun a i hi => ?_), h.2.2⟩
  have := lw_in hi
  rw [hA a (.inr this)]
theorem Jv_z (h : Jv S) : zS S := h.1
theorem Jv_t {t : Int} (h : Jv S) : Jv (kI S 82 0 t) := by
  obtain ⟨z, t, m, ⟨G, hG⟩, o⟩ := h
  exact ⟨z, t, m, ⟨G, gR_fr hG rfl (fun a f q1 q2 => jI_ne (.inl (by omega))) (fun a q => rfl)⟩, o⟩
theorem Jv_o {o : Int64} (h : Jv S) : Jv (kO S o) := h
theorem gv_e {l f a : Nat} (e1 : jI S' l f = jI S l f) (e2 : jA S' a = jA S a) : gv S' l f a = gv S l f a := by
  unfold gv
  rw [e1, e2]
theorem J_feed (h : Jv S) {n : Int} {w : Int64} (hn : rg n) : pI c Jv (j_X6_feed n w) (j_X7_feed n w) S := by
  obtain ⟨z, ⟨⟨t0, t1⟩, t2, t3, t4⟩, m, ⟨G, hG⟩, o⟩ := id h
  by_cases h1 : n < 1 ∨ 8 < n
  · exact ⟨_, _, _, _, m6_feedO h1, m7_feedO h1, Jv_t h, fun _ => rfl⟩
  · by_cases h2 : 600 < jI S 1 1 + n
    · exact ⟨_, _, _, _, m6_feedF t0 t1 h1 h2, m7_feedF (by omega) (by omega) h1 (by omega), Jv_t h, fun _ => rfl⟩
    · have hl2 := z2 z
      have hl83 := z83 z
      have i2 : jI (gaL S 1 1 2 (bysC w n.toNat)) 82 2 = jI S 82 2 := gaL_I (.inl (by decide))
      refine ⟨_, _, _, _, m6_feed z t0 h1 h2, m7_feed (gaL_zS z) (by omega) h1 (by omega), ?_, fun _ => by rw [i2, t2]⟩
      have I : ∀ a f, ¬ (a = 1 ∧ f = 1) → ¬ (a = 82 ∧ (f = 0 ∨ f = 2)) → jI (gaL (kI (gaL S 1 1 2 (bysC w n.toNat)) 82 0 0) 82 2 83 (bysM w n.toNat)) a f = jI S a f := fun a f q1 q2 => by
        rw [gaL_I (by omega), jI_ne (by omega), gaL_I (by omega)]
      have A : ∀ a, a ≠ 2 → a ≠ 83 → jA (gaL (kI (gaL S 1 1 2 (bysC w n.toNat)) 82 0 0) 82 2 83 (bysM w n.toNat)) a = jA S a := fun a q1 q2 => by
        rw [gaL_A q2, jA_kI, gaL_A q1]
      have P : (gaL (kI (gaL S 1 1 2 (bysC w n.toNat)) 82 0 0) 82 2 83 (bysM w n.toNat)).2.2 = S.2.2 := by
        rw [gaL_P]
        show (gaL S 1 1 2 (bysC w n.toNat)).2.2 = S.2.2
        exact gaL_P
      have e11 : jI (gaL (kI (gaL S 1 1 2 (bysC w n.toNat)) 82 0 0) 82 2 83 (bysM w n.toNat)) 1 1 = jI S 1 1 + n := by
        rw [gaL_I (.inl (by decide)), jI_ne (.inl (by decide)), gaL_len, bysC_len]
        omega
      have e82 : jI (gaL (kI (gaL S 1 1 2 (bysC w n.toNat)) 82 0 0) 82 2 83 (bysM w n.toNat)) 82 2 = jI S 1 1 + n := by
        rw [gaL_len, bysM_len, jI_ne (.inr (by decide)), i2]
        omega
      have g1 : cT (gaL (kI (gaL S 1 1 2 (bysC w n.toNat)) 82 0 0) 82 2 83 (bysM w n.toNat)) = cT S ++ bysM w n.toNat := by
        unfold cT
        rw [gv_e (S := kI (gaL S 1 1 2 (bysC w n.toNat)) 82 0 0) (gaL_I (.inl (by decide))) (gaL_A (by decide)), gv_e (S := gaL S 1 1 2 (bysC w n.toNat)) (jI_ne (.inl (by decide))) rfl, gaL_v t0 (by rw [bysC_len, hl2]; omega), bys_eq w _ (by omega)]
      have g2 : gv (gaL (kI (gaL S 1 1 2 (bysC w n.toNat)) 82 0 0) 82 2 83 (bysM w n.toNat)) 82 2 83 = cT S ++ bysM w n.toNat := by
        have a83 : jA (kI (gaL S 1 1 2 (bysC w n.toNat)) 82 0 0) 83 = jA S 83 := gaL_A (by decide)
        have b2 : jI (kI (gaL S 1 1 2 (bysC w n.toNat)) 82 0 0) 82 2 = jI S 82 2 := by rw [jI_ne (.inr (by decide)), i2]
        rw [gaL_v (by omega) (by rw [b2, a83, bysM_len, hl83]; omega), gv_e b2 a83, t3]
      have zz : zS (gaL (kI (gaL S 1 1 2 (bysC w n.toNat)) 82 0 0) 82 2 83 (bysM w n.toNat)) := gaL_zS (zS_kI (gaL_zS z))
      generalize gaL (kI (gaL S 1 1 2 (bysC w n.toNat)) 82 0 0) 82 2 83 (bysM w n.toNat) = T at *
      have p0 : jP0 T = jP0 S := by unfold jP0; rw [P]
      have p1 : jP1 T = jP1 S := by unfold jP1; rw [P]
      refine ⟨zz, ⟨⟨by omega, by omega⟩, by omega, by rw [g2, g1], fun x hx => ?_⟩, ⟨by rw [I 82 3 (by omega) (by omega), I 0 7 (by omega) (by omega)]; exact m.1, by rw [I 82 6 (by omega) (by omega), I 0 6 (by omega) (by omega)]; exact m.2.1, by rw [p0, p1]; exact m.2.2⟩, ⟨G, gR_fr hG p0 (fun a f q1 q2 => I a f (by omega) (by omega)) (fun a q => A a (by omega) (by omega))⟩, rk_eq o.1 (I 3 1 (by omega) (by omega)) (A 4 (by decide) (by decide)), by rw [I 82 26 (by omega) (by omega), I 3 1 (by omega) (by omega)]; exact o.2.1, ?_⟩
      · rw [g1] at hx
        rcases List.mem_append.mp hx with q | q
        · exact t4 x q
        · exact (bys_rg w _ x q).1
      · rw [gv_e (I 82 26 (by omega) (by omega)) (A 102 (by decide) (by decide)), rv_eq (I 3 1 (by omega) (by omega)) (A 4 (by decide) (by decide))]
        exact o.2.2
theorem J_read (h : Jv S) (hc : c = false) : pI c Jv j_X6_read j_X7_read S := by
  obtain ⟨z, ⟨⟨t0, t1⟩, t2, t3, t4⟩, m, ⟨G, hG⟩, o⟩ := id h
  have hg0 := g_or (jP0 S)
  have hg1 := g_or (jP1 S)
  have hne : gadr (jP1 S) + gadr (jP0 S) = 49 := by
    rw [m.2.2]
    cases jP0 S <;> rfl
  obtain ⟨v, S1, e1, z1, I1, A1, c1, o1, m1⟩ := c6_read z t0 t1
  have i82 : ∀ f, jI S1 82 f = jI S 82 f := fun f => I1 82 f (by omega)
  have a83 : jA S1 83 = jA S 83 := A1 83 (by omega)
  have gt : gv S1 82 2 83 = cT S := by rw [gv_e (i82 2) a83, t3]
  obtain ⟨y, S2, e2, z2', p2, I2, j0, j2, A2, m2⟩ := e7_read z1 (by rw [i82]; omega) (by rw [i82]; omega) (fun x hx => by rw [gt] at hx; exact t4 x hx)
  rw [i82 3, gt, m.1] at m2
  have p20 : jP0 S2 = jP0 S1 := by unfold jP0; rw [p2]
  have p21 : jP1 S2 = jP1 S1 := by unfold jP1; rw [p2]
  have k11 : jI S2 1 1 = 0 := by rw [I2 1 1 (by omega), c1]
  have ct0 : cT S2 = [] := by unfold cT gv; rw [k11]; rfl
  have k3 : ∀ f, jI S2 3 f = jI S 3 f := fun f => by rw [I2 3 f (by omega), I1 3 f (by omega)]
  have a4 : jA S2 4 = jA S 4 := by rw [A2 4 (by omega), A1 4 (by omega)]
  have k26 : jI S2 82 26 = jI S 82 26 := by rw [I2 82 26 (by omega), i82]
  have a102 : jA S2 102 = jA S 102 := by rw [A2 102 (by omega), A1 102 (by omega)]
  have k07 : jI S2 0 7 = jI S 0 7 := by rw [I2 0 7 (by omega), I1 0 7 (by omega)]
  have k823 : jI S2 82 3 = jI S 82 3 := by rw [I2 82 3 (by omega), i82]
  have k06 : jI S2 0 6 = jI S1 0 6 := I2 0 6 (by omega)
  have tx' : (0 ≤ jI S2 1 1 ∧ jI S2 1 1 ≤ 600) ∧ jI S2 82 2 = jI S2 1 1 ∧ gv S2 82 2 83 = cT S2 ∧ ∀ c ∈ cT S2, 0 ≤ c := by
    refine ⟨by omega, by omega, ?_, fun x hx => by rw [ct0] at hx; exact absurd hx List.not_mem_nil⟩
    rw [ct0]
    unfold gv
    rw [j2]
    rfl
  have ot : rk S2 3 ∧ jI S2 82 26 = jI S2 3 1 ∧ gv S2 82 26 102 = rv S2 3 := ⟨rk_eq o.1 (k3 1) a4, by rw [k26, k3]; exact o.2.1, by rw [gv_e k26 a102, rv_eq (k3 1) a4]; exact o.2.2⟩
  refine ⟨v, S1, y, S2, e1, e2, ?_, fun q => by rw [hc] at q; cases q⟩
  cases hr : rdS (jI S 0 7) (cT S) with
  | none =>
    rw [hr] at m1 m2
    obtain ⟨q0, q1, q6⟩ := m1
    obtain ⟨l2, l6⟩ := m2
    refine ⟨z2', tx', ⟨by rw [k823, k07]; exact m.1, by rw [l6, i82, k06, q6]; exact m.2.1, by rw [p21, p20, q0, q1]; exact m.2.2⟩, ⟨G, ?_, lG_lw (lG_lw hG.2.1 (fun a i hi => ?_)) l2, hG.2.2⟩, ot⟩
    · rw [p20, q0]
      exact cO_far hG.1 (fun a q p1 p2 => ⟨by rw [I2 a q (by omega), I1 a q (by omega)], by rw [A2 a (by omega), A1 a (by omega)]⟩)
    · have := lw_in hi
      rw [A1 a (by omega)]
  | some G' =>
    rw [hr] at m1 m2
    obtain ⟨_, q0, q1, q6, qO⟩ := m1
    obtain ⟨l2, l6, _⟩ := m2
    have hlen := cT_len z t0 t1
    refine ⟨z2', tx', ⟨by rw [k823, k07]; exact m.1, by rw [l6, k06, q6], by rw [p21, p20, q0, q1, m.2.2]; cases jP0 S <;> rfl⟩, ⟨G', ?_, l2, rdS_fG hr (by omega)⟩, ot⟩
    rw [p20, q0]
    exact cO_far qO (fun a q p1 p2 => ⟨I2 a q (by omega), A2 a (by omega)⟩)
theorem J_fault (h : Jv S) {w : Int} (hc : c = false) : pI c Jv (j_X6_fault w) (j_X7_fault w) S := by
  obtain ⟨x, e1⟩ := c6_fault (S := S) (w := w)
  obtain ⟨y, e2⟩ := m7_fault (S := S) (w := w)
  exact ⟨x, S, y, _, e1, e2, Jv_t h, fun q => by rw [hc] at q; cases q⟩
/-- a few fields of 0 and 82 may change -/
theorem Jv_m {v : Int} (h : Jv S) : Jv (kI (kI (kI S 0 7 v) 82 0 0) 82 3 v) := by
  obtain ⟨z, t, m, ⟨G, hG⟩, o⟩ := h
  exact ⟨z, t, ⟨rfl, m.2.1, m.2.2⟩, ⟨G, gR_fr hG rfl (fun a f q1 q2 => by rw [jI_ne (.inl (by omega)), jI_ne (.inl (by omega)), jI_ne (.inl (by omega))]) (fun a q => rfl)⟩, o⟩
theorem J_manner (h : Jv S) {m : Int} : pI c Jv (j_X6_manner m) (j_X7_manner m) S := by
  have hm := h.2.2.1.1
  by_cases hc : 0 ≤ m ∧ m ≤ 2
  · have e1 := c6_manner (S := S) (m := m)
    rw [if_pos hc] at e1
    have e2 := m7_manner (S := kI S 0 7 m) (m := m)
    rw [if_pos hc] at e2
    refine ⟨_, _, _, _, e1, e2, Jv_m h, fun _ => ?_⟩
    rw [jI_ne (.inl (by decide)), hm]
  · have e1 := c6_manner (S := S) (m := m)
    rw [if_neg hc] at e1
    have e2 := m7_manner (S := S) (m := m)
    rw [if_neg hc] at e2
    exact ⟨_, _, _, _, e1, e2, Jv_t h, fun _ => rfl⟩
theorem J_find (h : Jv S) : pI c Jv j_X6_find j_X7_find S := by
  obtain ⟨z, ⟨⟨t0, t1⟩, t2, t3, t4⟩, m, ⟨G, hG⟩, o⟩ := id h
  have e1 := c6_find z hG.1 hG.2.2.1.1 t0 t1
  have e2 := m7_find (S := kI S 1 1 0) z hG.2.1 hG.2.2.2.2 (by rw [jI_ne (.inl (by decide))]; omega) (by rw [jI_ne (.inl (by decide))]; omega)
  have gt : gv (kI S 1 1 0) 82 2 83 = cT S := t3
  rw [gt] at e2
  refine ⟨_, _, _, _, e1, e2, ?_, fun _ => rfl⟩
  refine ⟨z, ⟨⟨?_, ?_⟩, ?_, ?_, ?_⟩, m, ⟨G, gR_fr hG rfl (fun a f q1 q2 => by rw [jI_ne (.inl (by omega)), jI_ne (.inl (by omega)), jI_ne (.inl (by omega))]) (fun a q => rfl)⟩, o⟩
  · show (0 : Int) ≤ 0
    decide
  · show (0 : Int) ≤ 600
    decide
  · rfl
  · rfl
  · intro x hx
    exact absurd hx List.not_mem_nil
theorem pX_of {hs : List (String × Int)} {g6 : iS → Option ((Int ⊕ String) × iS)} {g7 : iS → Option (Int × iS)} {r : Int ⊕ String} (h : Jv S) (e1 : g6 S = some (r, S)) (e2 : ∀ o, ∃ y t, g7 (kO S o) = some (y, kI (kO S o) 82 0 t) ∧ moR hs r y t) : pX c hs Jv g6 g7 S := by
  refine ⟨r, S, e1, h.1, fun o => ?_⟩
  obtain ⟨y, t, e, q⟩ := e2 o
  refine ⟨y, _, e, rfl, Jv_t (Jv_o h), ?_⟩
  cases r with
  | inl v => exact ⟨trivial, fun _ => ⟨(jI_eq (S := kO S o) (a := 82) (f := 0) (v := t)).trans q.1, q.2.symm⟩⟩
  | inr E => exact ⟨t, q.1, fun _ => ⟨jI_eq, q.2⟩⟩
theorem J_node (h : Jv S) {a i : Int} (hi : rg i) : pX c hA Jv (j_X6_node a i) (j_X7_node a i) S := by
  obtain ⟨z, t, m, ⟨G, hG⟩, o⟩ := id h
  exact pX_of h (c6_node z hG.1) (fun o => m7_node (S := kO S o) z hG.2.1 hi)
theorem J_head (h : Jv S) {a i : Int} (hi : rg i) : pX c hA Jv (j_X6_head a i) (j_X7_head a i) S := by
  obtain ⟨z, t, m, ⟨G, hG⟩, o⟩ := id h
  exact pX_of h (c6_head z hG.1) (fun o => m7_head (S := kO S o) z hG.2.1 hi)
theorem J_comment (h : Jv S) {a i : Int} (hi : rg i) : pX c hA Jv (j_X6_comment a i) (j_X7_comment a i) S := by
  obtain ⟨z, t, m, ⟨G, hG⟩, o⟩ := id h
  exact pX_of h (c6_comment z hG.1) (fun o => m7_comment (S := kO S o) z hG.2.1 hi)
theorem J_value (h : Jv S) {a i : Int} : pX c hV Jv (j_X6_value a i) (j_X7_value a i) S := by
  obtain ⟨z, t, m, ⟨G, hG⟩, o⟩ := id h
  exact pX_of h (c6_value z hG.1 hG.2.2.1.1) (fun o => m7_value (S := kO S o) z hG.2.1)
theorem J_sign (h : Jv S) {a i d : Int} (hd : rg d) : pX c hG Jv (j_X6_sign a i d) (j_X7_sign_ a i d) S := by
  obtain ⟨z, t, m, ⟨G, hG⟩, o⟩ := id h
  exact pX_of h (c6_sign z hG.1 hG.2.2.1.1) (fun o => m7_sign (S := kO S o) z hG.2.1 hG.2.2.2.1 hd)
theorem J_out (h : Jv S) {i : Int} : pX c hA Jv (j_X6_out i) (j_X7_out i) S := by
  obtain ⟨z, t, m, ⟨G, hG⟩, o⟩ := id h
  have o1 := o.1
  have l4 : (jA S 4).length = 841 := z 4
  have o2 : jI S 3 1 ≤ ((jA S 4).length : Int) := o.1.2
  refine pX_of h (c6_out z o.1) (fun q => ?_)
  have := m7_out (S := kO S q) (i := i) z (by show 0 ≤ jI S 82 26; rw [o.2.1]; exact o1.1) (by show jI S 82 26 ≤ 2400; rw [o.2.1]; omega)
  obtain ⟨y, t, e, r⟩ := this
  refine ⟨y, t, e, ?_⟩
  have r' : moR hA (if 0 ≤ i ∧ i < jI S 82 26 then .inl ((gv S 82 26 102).getD i.toNat 0) else .inr AI) y t := r
  rw [o.2.1, o.2.2] at r'
  exact r'
theorem J_arc (h : Jv S) {a w : Int} : pI c Jv (j_X6_arc a w) (j_X7_arc a w) S := by
  obtain ⟨z, t, m, ⟨G, hG⟩, o⟩ := id h
  exact ⟨_, _, _, _, c6_arc z hG.1 hG.2.2.1.1, m7_arc z hG.2.1, Jv_t h, fun _ => rfl⟩
theorem J_kind (h : Jv S) {a : Int} : pI c Jv (j_X6_kind a) (j_X7_kind a) S := by
  obtain ⟨z, t, m, ⟨G, hG⟩, o⟩ := id h
  exact ⟨_, _, _, _, c6_kind z hG.1, m7_kind z hG.2.1, Jv_t h, fun _ => rfl⟩
theorem J_about (h : Jv S) {w : Int} : pI c Jv (j_X6_about w) (j_X7_about w) S := by
  obtain ⟨z, t, m, ⟨G, hG⟩, o⟩ := id h
  refine ⟨_, _, _, _, c6_about hG.1, m7_about z hG.2.1, Jv_t h, fun _ => ?_⟩
  rw [t.2.1, o.2.1]
theorem J_print (h : Jv S) : pI c Jv j_X6_print j_X7_print S := by
  obtain ⟨z, ⟨⟨t0, t1⟩, t2, t3, t4⟩, m, ⟨G, hG⟩, o⟩ := id h
  by_cases hi : jI S 0 6 = 0
  · exact ⟨_, _, _, _, c6_print0 hi, m7_print0 (by rw [m.2.1]; exact hi), Jv_t h, fun _ => rfl⟩
  · have e1 := c6_print z hG.1 hG.2.2.1 hi
    have hpl := hG.2.2.1.2.2.2.2.2
    have I1 : ∀ a f, a ≠ 3 → jI (eC (kI S 3 1 0) (prS G)) a f = jI S a f := fun a f q => by rw [gaL_I (.inl q), jI_ne (.inl q)]
    have A1 : ∀ a, a ≠ 4 → jA (eC (kI S 3 1 0) (prS G)) a = jA S a := fun a q => gaL_A q
    have z1 : zS (eC (kI S 3 1 0) (prS G)) := gaL_zS z
    have l4 : (jA S 4).length = 841 := z 4
    have g1 : rv (eC (kI S 3 1 0) (prS G)) 3 = prS G := by
      have := gaL_v (S := kI S 3 1 0) (l := 3) (f := 1) (a := 4) (xs := prS G) (by rw [jI_eq]; decide) (by rw [jI_eq, jA_kI, l4]; omega)
      unfold rv
      rw [this]
      rfl
    have n1 : jI (eC (kI S 3 1 0) (prS G)) 3 1 = (prS G).length := by rw [gaL_len, jI_eq, Int.zero_add]
    have P1 : (eC (kI S 3 1 0) (prS G)).2.2 = S.2.2 := gaL_P
    have l41 : (jA (eC (kI S 3 1 0) (prS G)) 4).length = 841 := z1 4
    generalize hT : eC (kI S 3 1 0) (prS G) = T at *
    have p0 : jP0 T = jP0 S := by unfold jP0; rw [P1]
    have p1 : jP1 T = jP1 S := by unfold jP1; rw [P1]
    have hGT := gR_fr hG p0 (fun a f q1 q2 => I1 a f (by omega)) (fun a q => A1 a (by omega))
    have e2 := m7_print (S := T) z1 hGT.2.1 hG.2.2.1 (by rw [I1 82 6 (by decide), m.2.1]; exact hi)
    have I2 : ∀ a f, a ≠ 82 → jI (eM (kI (kI T 82 0 0) 82 26 0) (prS G)) a f = jI T a f := fun a f q => by rw [gaL_I (.inl q), jI_ne (.inl q), jI_ne (.inl q)]
    have J2 : ∀ f, f ≠ 0 → f ≠ 26 → jI (eM (kI (kI T 82 0 0) 82 26 0) (prS G)) 82 f = jI T 82 f := fun f q q' => by rw [gaL_I (.inr q'), jI_ne (.inr q'), jI_ne (.inr q)]
    have A2 : ∀ a, a ≠ 102 → jA (eM (kI (kI T 82 0 0) 82 26 0) (prS G)) a = jA T a := fun a q => gaL_A q
    have z2' : zS (eM (kI (kI T 82 0 0) 82 26 0) (prS G)) := gaL_zS z1
    have l102 : (jA T 102).length = 2400 := z1 102
    have g2 : gv (eM (kI (kI T 82 0 0) 82 26 0) (prS G)) 82 26 102 = prS G := by
      have := gaL_v (S := kI (kI T 82 0 0) 82 26 0) (l := 82) (f := 26) (a := 102) (xs := prS G) (by rw [jI_eq]; decide) (by rw [jI_eq, jA_kI, jA_kI, l102]; omega)
      rw [this]
      rfl
    have n2 : jI (eM (kI (kI T 82 0 0) 82 26 0) (prS G)) 82 26 = (prS G).length := by rw [gaL_len, jI_eq, Int.zero_add]
    have P2 : (eM (kI (kI T 82 0 0) 82 26 0) (prS G)).2.2 = T.2.2 := gaL_P
    refine ⟨_, _, _, _, e1, e2, ?_, fun _ => rfl⟩
    generalize eM (kI (kI T 82 0 0) 82 26 0) (prS G) = U at *
    have q0 : jP0 U = jP0 T := by unfold jP0; rw [P2]
    have q1 : jP1 U = jP1 T := by unfold jP1; rw [P2]
    have k : ∀ a f, a ≠ 3 → a ≠ 82 → jI U a f = jI S a f := fun a f q q' => by rw [I2 a f q', I1 a f q]
    have k2 : ∀ f, f ≠ 0 → f ≠ 26 → jI U 82 f = jI S 82 f := fun f q q' => by rw [J2 f q q', I1 82 f (by decide)]
    have a : ∀ a, a ≠ 4 → a ≠ 102 → jA U a = jA S a := fun a q q' => by rw [A2 a q', A1 a q]
    have ct : cT U = cT S := gv_e (k 1 1 (by decide) (by decide)) (a 2 (by decide) (by decide))
    refine ⟨z2', ⟨by rw [k 1 1 (by decide) (by decide)]; exact ⟨t0, t1⟩, by rw [k2 2 (by decide) (by decide), k 1 1 (by decide) (by decide)]; exact t2, by rw [ct, gv_e (k2 2 (by decide) (by decide)) (a 83 (by decide) (by decide))]; exact t3, by rw [ct]; exact t4⟩, ⟨by rw [k2 3 (by decide) (by decide), k 0 7 (by decide) (by decide)]; exact m.1, by rw [k2 6 (by decide) (by decide), k 0 6 (by decide) (by decide)]; exact m.2.1, by rw [q0, q1, p0, p1]; exact m.2.2⟩, ⟨G, gR_fr hGT q0 (fun a f h1 h2 => I2 a f (by omega)) (fun a q => A2 a (by omega))⟩, ?_, ?_, ?_⟩
    · refine rk_eq (S := T) ⟨by rw [n1]; omega, by rw [n1, l41]; omega⟩ (I2 3 1 (by decide)) (A2 4 (by decide))
    · rw [n2, I2 3 1 (by decide), n1]
    · rw [g2, rv_eq (I2 3 1 (by decide)) (A2 4 (by decide)), g1]
/-- the law goes on, whatever is held against each other but read and fault -/
theorem LF_all (cs : Nat → Bool) (h1 : cs 1 = false) (h2 : cs 2 = false) (L : Nat) : LF cs (fun _ => Jv) L := by
  refine ⟨fun m S h => h.1, fun m S _ h => ?_⟩
  exact ⟨(fun n w hn => J_feed h hn), J_read h h1, (fun a _ => J_fault h h2), (fun a _ => J_manner h), J_find h, (fun a b _ hb => J_node h hb), (fun a b _ _ => J_arc h), (fun a _ => J_kind h), (fun a b _ hb => J_head h hb), (fun a b _ _ => J_value h), (fun a b d _ _ hd => J_sign h hd), (fun a b _ hb => J_comment h hb), J_print h, (fun a _ => J_out h), (fun a _ => J_about h), h⟩
theorem sp0 {a : Nat} {ss : List Int} (h : ¬ (a + 1 = 81 ∨ a + 1 = 82 ∨ a + 3 = 81 ∨ a + 3 = 82 ∨ a = 81 ∨ a = 82)) : spn S0 a ss [] := by
  have k : ∀ x f, ¬ (x = 81 ∨ x = 82) → jI S0 x f = 0 := fun x f q => by
    show (if x = 81 ∧ f = 2 then (-1 : Int) else if x = 82 ∧ f = 4 then -1 else if x = 82 ∧ f = 5 then -1 else 0) = 0
    rw [if_neg (by omega), if_neg (by omega), if_neg (by omega)]
  exact spn_nil (k _ _ (by omega)) (k _ _ (by omega)) (k _ _ (by omega))
theorem Jv0 : Jv S0 := by
  have rt : ∀ a, a < 81 → rT S0 a [] := fun a ha => rT_nil (by
    show (if a = 81 ∧ 1 = 2 then (-1 : Int) else if a = 82 ∧ 1 = 4 then -1 else if a = 82 ∧ 1 = 5 then -1 else 0) = 0
    rw [if_neg (by omega), if_neg (by omega), if_neg (by omega)])
  have cn : ∀ a, (jA S0 a).getD 0 0 = 0 := fun a => by
    show (List.replicate (asz a) (0 : Int)).getD 0 0 = 0
    rw [List.getD_eq_getElem?_getD, List.getElem?_replicate]
    split <;> rfl
  have gz : ∀ l f a, jI S0 l f = 0 → gv S0 l f a = [] := fun l f a e => by
    unfold gv
    rw [e]
    rfl
  have i1 : jI S0 1 1 = 0 := rfl
  have i2 : jI S0 82 2 = 0 := rfl
  have i3 : jI S0 3 1 = 0 := rfl
  have i4 : jI S0 82 26 = 0 := rfl
  have c0 : cT S0 = [] := gz 1 1 2 i1
  refine ⟨zS0, ⟨⟨by omega, by omega⟩, by omega, by rw [c0, gz _ _ _ i2], fun c hc => by rw [c0] at hc; exact absurd hc List.not_mem_nil⟩, ⟨rfl, rfl, rfl⟩, ⟨g0, ?_, ?_, fG_0⟩, ⟨(rt 3 (by decide)).1, by omega, by unfold rv; rw [gz _ _ _ i4, gz _ _ _ i3]⟩⟩
  · exact ⟨(rt 7 (by decide)).1, ⟨sp0 (by decide), sp0 (by decide), sp0 (by decide)⟩, rt _ (by decide), ⟨rt _ (by decide), rt _ (by decide), rt _ (by decide)⟩, ⟨sp0 (by decide), rt _ (by decide), rt _ (by decide)⟩, rt _ (by decide), rfl, fun c hc => by cases hc⟩
  · exact ⟨⟨cn 84, by decide, fun i hi => absurd hi (Nat.not_lt_zero _)⟩, ⟨cn 90, by decide, fun i hi => absurd hi (Nat.not_lt_zero _)⟩, ⟨cn 97, by decide, fun i hi => absurd hi (Nat.not_lt_zero _)⟩, ⟨cn 86, by decide, by decide, fun i hi => absurd hi (Nat.not_lt_zero _)⟩, ⟨cn 99, by decide, fun i hi => absurd hi (Nat.not_lt_zero _)⟩, cn 96, trivial⟩
end JAL
