section CPG
variable {S S' S'' : iS} {b : Bool} {G : gT} {xs ys : List Int}
/-- LINES and what they tell of -/
def lnC (G : gT) (ss : List Int) (c h a : Nat) : Prop := (∀ s ∈ ss, s = 0 ∨ s = 1 ∨ s = 2 ∨ s = 3) ∧ (1 ∈ ss → (gCt G).isSome) ∧ c + ss.count 0 = (gCo G).length ∧ h + ss.count 2 = (gHe G).length ∧ a + ss.count 3 = (gAr G).length
theorem lnC_tl {s : Int} {ss : List Int} {c h a : Nat} (q : lnC G (s :: ss) c h a) : lnC G ss (if s = 0 then c + 1 else c) (if s = 2 then h + 1 else h) (if s = 0 ∨ s = 1 ∨ s = 2 then a else a + 1) ∧ (s = 0 → c < (gCo G).length) ∧ (s = 1 → (gCt G).isSome) ∧ (s = 2 → h < (gHe G).length) ∧ (¬ (s = 0 ∨ s = 1 ∨ s = 2) → a < (gAr G).length) := by
  obtain ⟨q1, q2, q3, q4, q5⟩ := q
  rw [List.count_cons] at q3 q4 q5
  have hs := q1 s (List.mem_cons_self ..)
  have r1 : ∀ x ∈ ss, x = 0 ∨ x = 1 ∨ x = 2 ∨ x = 3 := fun x hx => q1 x (List.mem_cons_of_mem _ hx)
  have r2 : 1 ∈ ss → (gCt G).isSome := fun hx => q2 (List.mem_cons_of_mem _ hx)
  rcases hs with e | e | e | e
  · subst e
    simp at q3 q4 q5
    exact ⟨⟨r1, r2, by simp; omega, by simp; omega, by simp; omega⟩, fun _ => by omega, fun e => absurd e (by decide), fun e => absurd e (by decide), fun e => absurd (.inl rfl) e⟩
  · subst e
    simp at q3 q4 q5
    exact ⟨⟨r1, r2, by simp; omega, by simp; omega, by simp; omega⟩, fun e => absurd e (by decide), fun _ => q2 (List.mem_cons_self ..), fun e => absurd e (by decide), fun e => absurd (.inr (.inl rfl)) e⟩
  · subst e
    simp at q3 q4 q5
    exact ⟨⟨r1, r2, by simp; omega, by simp; omega, by simp; omega⟩, fun e => absurd e (by decide), fun e => absurd e (by decide), fun _ => by omega, fun e => absurd (.inr (.inr rfl)) e⟩
  · subst e
    simp at q3 q4 q5
    exact ⟨⟨r1, r2, by simp; omega, by simp; omega, by simp; omega⟩, fun e => absurd e (by decide), fun e => absurd e (by decide), fun e => absurd e (by decide), fun _ => by omega⟩
/-- a graph that can be WRITTEN -/
def prB (G : gT) : Prop := wfG G ∧ (∀ x ∈ gAr G, ∀ v ∈ x.2.2.2, vB v) ∧ (∀ x ∈ gAr G, (0 ≤ x.1 ∧ x.1 < (gNo G).length) ∧ (0 ≤ x.2.1 ∧ x.2.1 < (gNo G).length)) ∧ (∀ c, gCt G = some c → (0 ≤ c.1 ∧ c.1 ≤ 99) ∧ (0 ≤ c.2 ∧ c.2 ≤ 99)) ∧ lnC G (gLi G) 0 0 0 ∧ (prS G).length ≤ 841
theorem drop_cons_of {l ss : List Int} {k : Nat} {s : Int} (h : l.drop k = s :: ss) : k < l.length ∧ l.getD k 0 = s ∧ l.drop (k + 1) = ss := by
  have hk : k < l.length := by
    by_cases hk : k < l.length
    · exact hk
    · rw [List.drop_eq_nil_of_le (by omega)] at h; cases h
  rw [drop_getD hk] at h
  exact ⟨hk, (List.cons.inj h).1, (List.cons.inj h).2⟩
theorem ctG_some {c : Int × Int} (h : gCt G = some c) : ctG G = c := by
  unfold ctG
  rw [h]
theorem p6_gl (p : prB G) : ∀ (ss : List Int) (n k c h a : Nat) (S : iS), (gLi G).drop k = ss → ss.length < n → cO b S G → lnC G ss c h a → cw S (pli G ss c h a).length → j_X5_writeGraph_17 b n c h a k S = some (eC S (pli G ss c h a)) := by
  obtain ⟨hw, hv, hr, hct, _, _⟩ := p
  have w1 := hw.1
  have w2 := hw.2.1
  have w3 := hw.2.2.1
  have w5 := hw.2.2.2.2.1
  have w6 := hw.2.2.2.2.2
  intro ss
  induction ss with
  | nil =>
    intro n k c h a S hd hn hO _ _
    obtain ⟨n, rfl⟩ : ∃ p, n = p + 1 := ⟨n - 1, by omega⟩
    have : (gLi G).length ≤ k := by rw [List.drop_eq_nil_iff] at hd; exact hd
    rw [j_X5_writeGraph_17, rT_len hO.2.2.2.2.2.1]
    exact it (by omega) rfl
  | cons s ss ih =>
    intro n k c h a S hd hn hO hln hc
    rw [List.length_cons] at hn
    obtain ⟨n, rfl⟩ : ∃ p, n = p + 1 := ⟨n - 1, by omega⟩
    obtain ⟨hk, hs, hd'⟩ := drop_cons_of hd
    obtain ⟨hln', i0, i1, i2, i3⟩ := lnC_tl hln
    have z := hc.1
    rw [pli, List.length_append, List.length_cons] at hc
    rw [j_X5_writeGraph_17, rT_len hO.2.2.2.2.2.1]
    refine ie (by omega) ?_
    rw [rT_at z hO.2.2.2.2.2.1 hk, Option.bind_some, hs]
    dsimp only
    -- what comes behind each LINE
    have tl : ∀ (T : iS) (c' h' a' : Nat), cO b T G → lnC G ss c' h' a' → cw T ((pli G ss c' h' a').length + 1) → j_X5_writeGraph_106 b (fun l2' l3' l4' l5' S' => j_X5_writeGraph_17 b n l2' l3' l4' l5' S') c' h' a' k T = some (eC T (10 :: pli G ss c' h' a')) := by
      intro T c' h' a' hT hlT hcT
      unfold j_X5_writeGraph_106
      rw [p6_add (cw_m hcT (by omega)), Option.bind_some]
      refine it ⟨by omega, by omega⟩ ?_
      rw [show (k : Int) + 1 = ((k + 1 : Nat) : Int) by omega]
      refine (ih n (k + 1) c' h' a' _ hd' (by omega) (cO_e hT) hlT (cw_e (by rw [List.length_singleton, Nat.add_comm]; exact hcT))).trans ?_
      rw [eC_app]
      rfl
    have cc := hln.2.2.1
    have ch := hln.2.2.2.1
    have ca := hln.2.2.2.2
    rw [pli]
    by_cases s0 : s = 0
    · rw [if_pos s0, if_neg (show ¬ s = 2 by omega), if_pos (show s = 0 ∨ s = 1 ∨ s = 2 from .inl s0)] at hln' hc ⊢
      have hp : pl1 G s c h a = 35 :: (gCo G).getD c [] := by unfold pl1; rw [if_pos s0]
      rw [hp] at hc ⊢
      rw [if_pos s0, p6_co hO (i0 s0) (cw_m hc (by omega)), Option.bind_some, if_pos (show rg ((c : Int) + 1) from ⟨by omega, by omega⟩), show (c : Int) + 1 = ((c + 1 : Nat) : Int) by omega, tl _ _ _ _ (cO_e hO) hln' (cw_e (cw_m hc (by omega))), eC_app]
    · rw [if_neg s0] at hln' hc ⊢
      rw [if_neg s0]
      by_cases s1 : s = 1
      · rw [if_neg (show ¬ s = 2 by omega), if_pos (show s = 0 ∨ s = 1 ∨ s = 2 from .inr (.inl s1))] at hln' hc ⊢
        obtain ⟨ct, hct'⟩ := Option.isSome_iff_exists.mp (i1 s1)
        obtain ⟨q1, q2⟩ := hct ct hct'
        have hp : pl1 G s c h a = 33 :: 32 :: (pwh ct.1 ++ 32 :: pwh ct.2) := by unfold pl1; rw [if_neg s0, if_pos s1, ctG_some hct']
        rw [hp] at hc ⊢
        rw [if_pos s1, p6_ct hO hct' q1 q2 (cw_m hc (by omega)), Option.bind_some, tl _ _ _ _ (cO_e hO) hln' (cw_e (cw_m hc (by omega))), eC_app, if_neg (show ¬ s = 2 by omega)]
      · rw [if_neg s1]
        by_cases s2 : s = 2
        · rw [if_pos s2, if_pos (show s = 0 ∨ s = 1 ∨ s = 2 from .inr (.inr s2))] at hln' hc ⊢
          have hp : pl1 G s c h a = 37 :: 32 :: (pnm ((gHe G).getD h ([], 0)).1 ++ [32, ktS ((gHe G).getD h ([], 0)).2]) := by unfold pl1; rw [if_neg s0, if_neg s1, if_pos s2]
          rw [hp] at hc ⊢
          rw [if_pos s2, p6_he hO (i2 s2) (cw_m hc (by omega)), Option.bind_some, if_pos (show rg ((h : Int) + 1) from ⟨by omega, by omega⟩), show (h : Int) + 1 = ((h + 1 : Nat) : Int) by omega, tl _ _ _ _ (cO_e hO) hln' (cw_e (cw_m hc (by omega))), eC_app]
        · have s3 : ¬ (s = 0 ∨ s = 1 ∨ s = 2) := fun q => q.elim s0 (fun q => q.elim s1 s2)
          rw [if_neg s2, if_neg s3] at hln' hc ⊢
          have hp : pl1 G s c h a = par G ((gAr G).getD a (0, 0, 0, [])) := by unfold pl1; rw [if_neg s0, if_neg s1, if_neg s2]
          rw [hp] at hc ⊢
          rw [if_neg s2, p6_ar hO hw (i3 s3) hv hr (cw_m hc (by omega)), Option.bind_some, if_pos (show rg ((a : Int) + 1) from ⟨by omega, by omega⟩), show (a : Int) + 1 = ((a + 1 : Nat) : Int) by omega, tl _ _ _ _ (cO_e hO) hln' (cw_e (cw_m hc (by omega))), eC_app]
/-- print of the class -/
theorem c6_print (z : zS S) (h : cO (jP0 S) S G) (p : prB G) (hi : ¬ jI S 0 6 = 0) : j_X6_print S = some (((prS G).length : Int), eC (kI S 3 1 0) (prS G)) := by
  have hg := g_or (jP0 S)
  have h0 : cO (jP0 S) (kI S 3 1 0) G := cO_far h (fun a q p1 p2 => ⟨jI_ne (.inl (by omega)), rfl⟩)
  unfold j_X6_print j_X6_print_0 j_X5_writeGraph j_X5_writeGraph_0
  refine it hi ?_
  have hw := p.1.2.2.2.2.2
  have := p6_gl (b := jP0 S) p (gLi G) fuel 0 0 0 0 (kI S 3 1 0) List.drop_zero (by unfold fuel; omega) h0 p.2.2.2.2.1 ⟨z, by rw [jI_eq]; decide, by rw [jI_eq]; have := p.2.2.2.2.2; unfold prS at this; omega⟩
  have this' : j_X5_writeGraph_17 (jP0 S) fuel 0 0 0 0 (kI S 3 1 0) = some (eC (kI S 3 1 0) (prS G)) := this
  rw [eR_clear, Option.bind_some, this', Option.bind_some, gaL_len, jI_eq, Int.zero_add]
theorem c6_print0 (hi : jI S 0 6 = 0) : j_X6_print S = some (-103, S) := by
  unfold j_X6_print j_X6_print_0
  exact ie (nn hi) rfl
end CPG
