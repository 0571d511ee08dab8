section CRD
variable {S S' S'' : iS} {b : Bool} {G : gT}
theorem jz {a f a' f' : Nat} (h : jI S a' f' = 0) : jI (kI S a f 0) a' f' = 0 := by
  by_cases e : a' = a ∧ f' = f
  · rw [e.1, e.2]; exact jI_eq
  · rw [jI_ne (by omega)]; exact h
theorem spn_nil {a : Nat} {ss : List Int} (h1 : jI S (a + 1) 1 = 0) (h2 : jI S (a + 3) 1 = 0) (h3 : jI S a 3 = 0) : spn S a ss [] := by
  have r1 : rk S (a + 1) := ⟨by omega, by omega⟩
  have r2 : rk S (a + 3) := ⟨by omega, by omega⟩
  have l1 := rv_len r1
  have l2 := rv_len r2
  refine ⟨r1, r2, ?_, ?_, h3, fun i hi => absurd hi (Nat.not_lt_zero _)⟩
  · show (rv S (a + 1)).length = 0
    omega
  · show (rv S (a + 3)).length = 0
    omega
theorem rT_nil {a : Nat} (h1 : jI S a 1 = 0) : rT S a [] := by
  have r1 : rk S a := ⟨by omega, by omega⟩
  have l1 := rv_len r1
  exact ⟨r1, List.eq_nil_of_length_eq_zero (by omega)⟩
/-- the cells that clear sets -/
abbrev FCl (b : Bool) (a f : Nat) : Prop := gadr b ≤ a ∧ a ≤ gadr b + 36
def clr (b : Bool) (S : iS) : Prop := jI S (gadr b + 1) 1 = 0 ∧ (jI S (gadr b + 4) 1 = 0 ∧ jI S (gadr b + 6) 1 = 0 ∧ jI S (gadr b + 3) 3 = 0) ∧ (jI S (gadr b + 9) 1 = 0 ∧ jI S (gadr b + 11) 1 = 0 ∧ jI S (gadr b + 8) 3 = 0) ∧ (jI S (gadr b + 14) 1 = 0 ∧ jI S (gadr b + 16) 1 = 0 ∧ jI S (gadr b + 13) 3 = 0) ∧ jI S (gadr b + 18) 1 = 0 ∧ (jI S (gadr b + 20) 1 = 0 ∧ jI S (gadr b + 22) 1 = 0 ∧ jI S (gadr b + 24) 1 = 0) ∧ (jI S (gadr b + 27) 1 = 0 ∧ jI S (gadr b + 29) 1 = 0 ∧ jI S (gadr b + 26) 3 = 0) ∧ jI S (gadr b + 31) 1 = 0 ∧ jI S (gadr b + 33) 1 = 0 ∧ jI S (gadr b + 35) 1 = 0 ∧ jI S (gadr b) 12 = 0
theorem c_clear : ∃ S', j_X1_clear b S = some S' ∧ frC (FCl b) R0 S S' ∧ (zS S → zS S') ∧ clr b S' := by
  refine ⟨_, rfl, ?_, fun z => z, ?_⟩
  · repeat (first | exact frC_refl | refine frC_trans ?_ (frC_kI (by omega)))
  · refine ⟨?_, ⟨?_, ?_, ?_⟩, ⟨?_, ?_, ?_⟩, ⟨?_, ?_, ?_⟩, ?_, ⟨?_, ?_, ?_⟩, ⟨?_, ?_, ?_⟩, ?_, ?_, ?_, ?_⟩
    all_goals (repeat (first | exact jI_eq | refine jz ?_))
theorem cG_0 (h : clr b S) (h4 : jI S 80 4 = 0) (h3 : jI S 80 3 = 0) : cG b S g0 := by
  obtain ⟨_, ⟨a1, a2, a3⟩, ⟨b1, b2, b3⟩, ⟨c1, c2, c3⟩, d, ⟨e1, e2, e3⟩, ⟨f1, f2, f3⟩, g1, g2, g3, g4⟩ := h
  exact ⟨spn_nil a1 a2 a3, spn_nil b1 b2 b3, spn_nil c1 c2 c3, rT_nil d, ⟨rT_nil e1, rT_nil e2, rT_nil e3⟩, ⟨spn_nil f1 f2 f3, rT_nil g1, rT_nil g2⟩, rT_nil g3, g4, h4, h3⟩
theorem wfG_0 : wfG g0 := ⟨by decide, by decide, by decide, (fun x hx => absurd hx List.not_mem_nil), by decide, by decide⟩
theorem kdG_0 : kdG g0 := fun x hx => absurd hx List.not_mem_nil
theorem bdG_0 {r : List Int} (h : r.length ≤ 600) : bdG g0 r := ⟨by show 2 * 0 + r.length ≤ 600; omega, by show 2 * 0 + r.length ≤ 600; omega, by decide, by show (0 : Int) + r.length ≤ 600; omega, fun _ => rfl⟩
/-- the class's TEXT -/
def cT (S : iS) : List Int := gv S 1 1 2
theorem cT_len (z : zS S) (t0 : 0 ≤ jI S 1 1) (t1 : jI S 1 1 ≤ 600) : ((cT S).length : Int) = jI S 1 1 := gv_len t0 (by rw [z2 z]; exact t1)
/-- what a read changes -/
abbrev FRd (b : Bool) (a f : Nat) : Prop := (a = 80 ∧ 2 ≤ f) ∨ a = 81 ∨ (gadr b ≤ a ∧ a ≤ gadr b + 36)
theorem frC_TR (h : frC (FTx b) (RLn b) S S') : frC (FRd b) (RLn b) S S' := frC_mono h (fun a f q => by omega) (fun _ q => q)
theorem frC_81R (h : frC (fun a _ => a = 81) R0 S S') : frC (FRd b) (RLn b) S S' := frC_mono h (fun _ _ q => .inr (.inl q)) (fun _ q => absurd q (fun q => q))
theorem frC_sR (h : frC (fun _ _ => False) (RR b 18) S S') : frC (FRd b) (RLn b) S S' := frC_mono h (fun _ _ q => absurd q (fun q => q)) (fun a q => by omega)
theorem cO_81 (h : cO b S G) (f : frC (fun a _ => a = 81) R0 S S') : cO b S' G := by
  have hg := g_or b
  exact cO_far h (fun a q p1 p2 => ⟨f.1 a q (by omega), f.2.1 a (fun q => q)⟩)
theorem rdS_eq (man : Int) (t : List Int) : rdS man t = (tx 600 man 1 g0 t).bind fun G => match gCt G with
  | none => some (stG G)
  | some c => if c.1 = (gNo G).length ∧ c.2 = (gAr G).length then some (stG G) else none := rfl
/-- settleKinds and countIsTrue -/
theorem c_78 {b2 : Bool} {l3 c' : Int} (z : zS S) (hk : rk S (gadr b + 1)) (h : cG b S G) (hw : wfG G) (hp : jP2 S = b) : ∃ x S', j_X2_readText_78 b2 l3 c' S = some (x, S') ∧ frC (FRd b) (RLn b) S S' ∧ zS S' ∧ (match (match gCt G with
      | none => some (stG G)
      | some c => if c.1 = (gNo G).length ∧ c.2 = (gAr G).length then some (stG G) else none) with
    | none => x = 0 ∧ zF S'
    | some G' => x = 1 ∧ cO b S' G') := by
  have hg := g_or b
  obtain ⟨S1, e1, f1, z1, o1⟩ := c_settle z hk h hw
  have hp1 : jP2 S1 = b := by unfold jP2; rw [f1.2.2]; exact hp
  unfold j_X2_readText_78
  rw [hp, e1, Option.bind_some]
  have a20 : jI S1 (gadr b + 20) 1 = (gAr G).length := by
    have := rT_len o1.2.2.2.1.1
    rw [List.length_map] at this
    exact this
  have a3 : jI S1 (gadr b + 3) 3 = (gNo G).length := o1.2.1.1.2.2.2.2.1
  have zz : ∀ v w : Int, zF (kI (kI (kI S1 81 5 7) 81 6 v) 81 7 w) := fun v w => ⟨z1, by rw [jI_ne (.inr (by decide)), jI_ne (.inr (by decide)), jI_eq]; decide⟩
  have h13 : ctQ b S (gCt G) := (cG_cH.mp h).2.2.2.2.2.2.2.2.1
  have i4 : jI S1 80 4 = jI S 80 4 := f1.1 _ _ (fun q => q)
  have i13 : jI S1 (gadr b) 13 = jI S (gadr b) 13 := f1.1 _ _ (fun q => q)
  have i14 : jI S1 (gadr b) 14 = jI S (gadr b) 14 := f1.1 _ _ (fun q => q)
  unfold j_X2_countIsTrue j_X2_countIsTrue_0 j_X1_arcCount j_X1_arcCount_0 j_X0_wrongElsewhere j_X0_wrongElsewhere_0
  rw [hp1, a3, a20, i4, i13, i14]
  cases hc : gCt G with
  | none =>
    rw [hc] at h13
    rw [if_neg (show ¬ ¬ jI S 80 4 = 0 from nn h13), Option.bind_some]
    exact ⟨1, S1, it (.inr rfl) rfl, frC_sR f1, z1, rfl, o1⟩
  | some c =>
    rw [hc] at h13
    rw [if_pos h13.1, h13.2.1, h13.2.2]
    dsimp only
    by_cases e1 : c.1 = (gNo G).length
    · rw [if_pos e1, Option.bind_some]
      dsimp only
      by_cases e2 : c.2 = (gAr G).length
      · rw [if_pos e2, Option.bind_some, if_pos (show c.1 = (gNo G).length ∧ c.2 = (gAr G).length from ⟨e1, e2⟩)]
        exact ⟨1, S1, it (.inr rfl) rfl, frC_sR f1, z1, rfl, o1⟩
      · rw [if_neg e2, if_neg (show ¬ (c.1 = (gNo G).length ∧ c.2 = (gAr G).length) from fun q => e2 q.2), Option.bind_some]
        exact ⟨0, _, rfl, frC_trans (frC_sR f1) (frC_81R (frC_w rfl rfl rfl)), z1, rfl, zz _ _⟩
    · rw [if_neg e1, if_neg (show ¬ (c.1 = (gNo G).length ∧ c.2 = (gAr G).length) from fun q => e1 q.1), Option.bind_some]
      exact ⟨0, _, rfl, frC_trans (frC_sR f1) (frC_81R (frC_w rfl rfl rfl)), z1, rfl, zz _ _⟩
/-- readText -/
theorem c_text {man : Int} (z : zS S) (t0 : 0 ≤ jI S 1 1) (t1 : jI S 1 1 ≤ 600) : ∃ x S', j_X2_readText b man S = some (x, S') ∧ frC (FRd b) (RLn b) (kP2 S b) S' ∧ zS S' ∧ (match rdS man (cT S) with
    | none => x = 0 ∧ zF S'
    | some G => x = 1 ∧ cO b S' G) := by
  have hg := g_or b
  have e0 := e0_step (S := kI (kI (kI S 81 1 (-1)) 81 3 0) 81 5 0) z (by rw [show jI (kI (kI (kI S 81 1 (-1)) 81 3 0) 81 5 0) 81 1 = -1 by rw [jI_ne (.inr (by decide)), jI_ne (.inr (by decide)), jI_eq]]; exact ⟨by decide, by decide⟩)
  have hst : ∃ S1, j_X0_start S = some S1 ∧ frC (fun a _ => a = 81) R0 S S1 ∧ zS S1 ∧ jI S1 81 1 = 0 ∧ jI S1 81 3 = 1 ∧ jI S1 81 4 = 0 ∧ jI S1 81 2 = hd (cT S) := by
    unfold j_X0_start j_X0_start_0 j_X0_nextLine j_X0_nextLine_0
    rw [e0, Option.bind_some]
    have hh : tbv (kI (kI (kI S 81 1 (-1)) 81 3 0) 81 5 0) (jI (kI (kI (kI S 81 1 (-1)) 81 3 0) 81 5 0) 81 1 + 1) = hd (cT S) := by
      rw [show jI (kI (kI (kI S 81 1 (-1)) 81 3 0) 81 5 0) 81 1 = -1 by rw [jI_ne (.inr (by decide)), jI_ne (.inr (by decide)), jI_eq]]
      have := tbv_hd (S := kI (kI (kI S 81 1 (-1)) 81 3 0) 81 5 0) z t0 t1 (i := (-1 : Int) + 1) (by decide)
      rw [this]
      rfl
    rw [hh]
    generalize hd (cT S) = v
    refine ⟨_, rfl, ?_, z, ?_, ?_, ?_, ?_⟩
    · repeat (first | exact frC_refl | refine frC_trans ?_ (frC_kI rfl))
    · rfl
    · rfl
    · rfl
    · rfl
  obtain ⟨S1, e1, f1, z1, p1, l1, s1, n1⟩ := hst
  obtain ⟨S2, e2, f2, z2', k2⟩ := c_clear (b := b) (S := kP2 S1 b)
  have z2 : zS S2 := z2' z1
  have i2 : ∀ f, jI S2 81 f = jI S1 81 f := fun f => f2.1 81 f (by omega)
  have hp2 : jP2 S2 = b := by unfold jP2; rw [f2.2.2]; rfl
  have ct2 : gv S2 1 1 2 = cT S := by
    unfold gv cT gv
    rw [f2.1 1 1 (by omega), f2.2.1 2 (fun q => q)]
    show ((jA S1 2).take (jI S1 1 1).toNat) = _
    rw [f1.1 1 1 (by decide), f1.2.1 2 (fun q => q)]
  have i11 : jI S2 1 1 = jI S 1 1 := by
    rw [f2.1 1 1 (by omega)]
    exact f1.1 1 1 (by decide)
  have hT : ∃ T, kI (kI (kI S2 80 2 man) 80 3 0) 80 4 0 = T := ⟨_, rfl⟩
  obtain ⟨T, eT⟩ := hT
  have fT : frC (fun a f => a = 80 ∧ 2 ≤ f) R0 S2 T := by
    rw [← eT]
    exact frC_trans (frC_kI ⟨rfl, by decide⟩) (frC_trans (frC_kI ⟨rfl, by decide⟩) (frC_kI ⟨rfl, by decide⟩))
  have zT : zS T := by rw [← eT]; exact z2
  have T2 : jI T 80 2 = man := by rw [← eT]; rfl
  have T3 : jI T 80 3 = 0 := by rw [← eT]; rfl
  have T4 : jI T 80 4 = 0 := by rw [← eT]; rfl
  have kT : clr b T := by
    obtain ⟨q1, ⟨q2, q3, q4⟩, ⟨q5, q6, q7⟩, ⟨q8, q9, q10⟩, q11, ⟨q12, q13, q14⟩, ⟨q15, q16, q17⟩, q18, q19, q20, q21⟩ := k2
    have K : ∀ {k f}, k ≤ 36 → jI S2 (gadr b + k) f = 0 → jI T (gadr b + k) f = 0 := fun hk e => by rw [fT.1 _ _ (by omega)]; exact e
    exact ⟨K (by decide) q1, ⟨K (by decide) q2, K (by decide) q3, K (by decide) q4⟩, ⟨K (by decide) q5, K (by decide) q6, K (by decide) q7⟩, ⟨K (by decide) q8, K (by decide) q9, K (by decide) q10⟩, K (by decide) q11, ⟨K (by decide) q12, K (by decide) q13, K (by decide) q14⟩, ⟨K (by decide) q15, K (by decide) q16, K (by decide) q17⟩, K (by decide) q18, K (by decide) q19, K (by decide) q20, by rw [fT.1 _ _ (by omega)]; exact q21⟩
  have cRT : cR T = cT S := by
    unfold cR
    rw [show gv T 1 1 2 = cT S by rw [← ct2]; unfold gv; rw [fT.1 1 1 (by decide), fT.2.1 2 (fun q => q)], fT.1 81 1 (by decide), i2, p1]
    rfl
  have hlen := cT_len z t0 t1
  have wT : wC b T := by
    refine ⟨zT, by unfold jP2; rw [fT.2.2]; exact hp2, by rw [fT.1 1 1 (by decide), i11]; exact ⟨t0, t1⟩, by rw [fT.1 81 1 (by decide), i2, p1]; exact ⟨by decide, by decide⟩, by rw [fT.1 81 2 (by decide), i2, n1, cRT], by rw [fT.1 81 4 (by decide), i2, s1]; exact ⟨by decide, by decide⟩, ?_⟩
    rw [kT.1, cRT]
    omega
  have ln : jI T 81 3 = 1 := by rw [fT.1 81 3 (by decide), i2, l1]
  have fST : frC (FRd b) (RLn b) (kP2 S b) T := by
    refine frC_trans (S' := kP2 S1 b) ⟨fun a f q => f1.1 a f (by omega), fun a _ => f1.2.1 a (fun q => q), ?_⟩ (frC_trans (frC_mono f2 (fun a f q => .inr (.inr q)) (fun _ q => absurd q (fun q => q))) (frC_mono fT (fun a f q => .inl q) (fun _ q => absurd q (fun q => q))))
    show (S1.2.2.1, S1.2.2.2.1, b, S1.2.2.2.2.2) = (S.2.2.1, S.2.2.2.1, b, S.2.2.2.2.2)
    rw [f1.2.2]
  have go : j_X2_readText b man S = j_X2_readText_38 b fuel man 0 T := by
    unfold j_X2_readText j_X2_readText_0
    rw [e1, Option.bind_some, e2, Option.bind_some, eT]
  rw [go, rdS_eq]
  rcases l6_tx (b := b) (b2 := b) (l3 := man) (man := man) 600 fuel T g0 1 0 wT (cG_0 kT T4 T3) (fun _ => by rw [cRT]; exact bdG_0 (by omega)) wfG_0 kdG_0 T2 ln (by decide) (by decide) (by rw [cRT]; omega) (by decide) (by decide) (by unfold fuel; decide) with ⟨G', c', S3, t3, e3, f3, z3, r3, g3, w3, _⟩ | ⟨t3, S3, e3, f3, z3⟩
  · rw [cRT] at t3
    have hp3 : jP2 S3 = b := by
      have h1 := wT.2.1
      unfold jP2 at h1 ⊢
      rw [f3.2.2]; exact h1
    obtain ⟨x, S4, e4, f4, z4, m4⟩ := c_78 (b2 := b) (l3 := man) (c' := c') z3 r3 g3 w3 hp3
    rw [t3, Option.bind_some]
    exact ⟨x, S4, e3.trans e4, frC_trans fST (frC_trans (frC_TR f3) f4), z4, m4⟩
  · rw [cRT] at t3
    rw [t3, Option.bind_none]
    exact ⟨0, S3, e3, frC_trans fST (frC_TR f3), z3.1, rfl, z3⟩
/-- read of the class -/
theorem c6_read (z : zS S) (t0 : 0 ≤ jI S 1 1) (t1 : jI S 1 1 ≤ 600) : ∃ v S', j_X6_read S = some (v, S') ∧ zS S' ∧ (∀ a f, ¬ ((a = 1 ∧ f = 1) ∨ (a = 0 ∧ f = 6) ∨ FRd (jP1 S) a f) → jI S' a f = jI S a f) ∧ (∀ a, ¬ RLn (jP1 S) a → jA S' a = jA S a) ∧ jI S' 1 1 = 0 ∧ jO S' = jO S ∧ (match rdS (jI S 0 7) (cT S) with
    | none => jP0 S' = jP0 S ∧ jP1 S' = jP1 S ∧ jI S' 0 6 = jI S 0 6
    | some G => v = (gAr G).length ∧ jP0 S' = jP1 S ∧ jP1 S' = jP0 S ∧ jI S' 0 6 = 1 ∧ cO (jP1 S) S' G) := by
  have hg := g_or (jP1 S)
  obtain ⟨x, S1, e1, f1, z1, m1⟩ := c_text (b := jP1 S) (man := jI S 0 7) z t0 t1
  have q0 : jP0 S1 = jP0 S := by unfold jP0; rw [f1.2.2]; rfl
  have q1 : jP1 S1 = jP1 S := by
    have : jP1 S1 = jP1 (kP2 S (jP1 S)) := congrArg (fun x : Bool × Bool × Bool × Int64 => x.2.1) f1.2.2
    rw [this]; rfl
  have qO : jO S1 = jO S := by
    have : jO S1 = jO (kP2 S (jP1 S)) := congrArg (fun x : Bool × Bool × Bool × Int64 => x.2.2.2) f1.2.2
    rw [this]; rfl
  have i1 : ∀ a f, ¬ FRd (jP1 S) a f → jI S1 a f = jI S a f := fun a f q => f1.1 a f q
  have a1 : ∀ a, ¬ RLn (jP1 S) a → jA S1 a = jA S a := fun a q => f1.2.1 a q
  unfold j_X6_read j_X6_read_0
  rw [e1, Option.bind_some, eR_clear, Option.bind_some]
  dsimp only
  cases hr : rdS (jI S 0 7) (cT S) with
  | none =>
    rw [hr] at m1
    obtain ⟨rfl, zF1⟩ := m1
    have c5 : jI (kI S1 1 1 0) 81 5 = jI S1 81 5 := jI_ne (.inl (by decide))
    refine ⟨-10 - jI S1 81 5, kI S1 1 1 0, ie (nn rfl) ?_, z1, fun a f q => ?_, a1, jI_eq, qO, q0, q1, ?_⟩
    · rw [c5]
      exact it ⟨by have := zF1.2; omega, by have := zF1.2; omega⟩ rfl
    · rw [jI_ne (by omega), i1 a f (fun k => q (.inr (.inr k)))]
    · rw [jI_ne (.inl (by decide)), i1 0 6 (by omega)]
  | some G =>
    rw [hr] at m1
    obtain ⟨rfl, o1⟩ := m1
    have hO : cO (jP1 S) (kI (kP1 (kP0 (kI S1 1 1 0) (jP1 (kI S1 1 1 0))) (jP0 (kI S1 1 1 0))) 0 6 1) G := cO_far o1 (fun a q p1 p2 => by
      refine ⟨?_, rfl⟩
      rw [jI_ne (.inl (by omega))]
      show jI (kI S1 1 1 0) a q = _
      rw [jI_ne (.inl (by omega))])
    have hcnt : jI (kI (kP1 (kP0 (kI S1 1 1 0) (jP1 (kI S1 1 1 0))) (jP0 (kI S1 1 1 0))) 0 6 1) (gadr (jP1 S) + 20) 1 = (gAr G).length := by
      have := rT_len hO.2.2.2.1.1
      rw [List.length_map] at this
      exact this
    refine ⟨(gAr G).length, kI (kP1 (kP0 (kI S1 1 1 0) (jP1 (kI S1 1 1 0))) (jP0 (kI S1 1 1 0))) 0 6 1, it (by decide) ?_, z1, fun a f q => ?_, a1, ?_, qO, rfl, q1, q0, jI_eq, hO⟩
    · unfold j_X1_arcCount j_X1_arcCount_0
      rw [show jP1 (kI S1 1 1 0) = jP1 S from q1] at hcnt ⊢
      rw [hcnt, Option.bind_some]
    · rw [jI_ne (by omega)]
      show jI (kI S1 1 1 0) a f = _
      rw [jI_ne (by omega), i1 a f (fun k => q (.inr (.inr k)))]
    · rw [jI_ne (.inl (by decide))]
      show jI (kI S1 1 1 0) 1 1 = 0
      exact jI_eq
end CRD
