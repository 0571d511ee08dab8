section MPG
variable {S S' S'' : iS} {G : gT} {xs ys : List Int}
theorem p7_n5 {a p : Nat} {ns : List Int} (hp : p ≤ 20000) (hl : ns.length ≤ 1000) (h : nmAt (jA S a) p ns) (hlt : p + ns.length < (jA S a).length) : ∀ (j n k : Nat) (q : Int), (q = 0 ∨ q = 1) → k + j = ns.length → j < n → j_X7_putName_5 a n p q ((k : Int) + 1) S = if q = 1 ∧ (∀ c ∈ ns.drop k, isPln c) then j_X7_putName_54 a fuel p 1 1 S else (j_X7_put 34 S).bind (fun T => j_X7_putName_54 a fuel p 0 1 T) := by
  intro j
  induction j with
  | zero =>
    intro n k q hq hk hn
    obtain ⟨n, rfl⟩ : ∃ p, n = p + 1 := ⟨n - 1, by omega⟩
    rw [j_X7_putName_5, show ((p : Int)).toNat = p by omega, h.1]
    unfold j_X7_putName_51
    refine it ⟨by omega, by omega⟩ (it (by omega) ?_)
    rcases hq with e | e
    · rw [if_neg (nn e), if_neg (fun k => by omega), e]
    · rw [if_pos (by omega), if_pos ⟨e, by rw [List.drop_eq_nil_of_le (by omega)]; exact fun c hc => absurd hc List.not_mem_nil⟩, e]
  | succ j ih =>
    intro n k q hq hk hn
    obtain ⟨n, rfl⟩ : ∃ p, n = p + 1 := ⟨n - 1, by omega⟩
    have e2 : (jA S a).getD ((p : Int) + ((k : Int) + 1)).toNat 0 = ns.getD k 0 := by
      rw [show ((p : Int) + ((k : Int) + 1)).toNat = p + 1 + k by omega]; exact h.2 k (by omega)
    rw [j_X7_putName_5, show ((p : Int)).toNat = p by omega, h.1, e2, drop_getD (l := ns) (k := k) (by omega)]
    unfold j_X7_putName_33 j_X7_putName_34
    refine it ⟨by omega, by omega⟩ (ie (by omega) ?_)
    have no : (if rg ((k : Int) + 1 + 1) then (j_X7_putName_5 a n p 0 ((k : Int) + 1 + 1) S) else none) = (j_X7_put 34 S).bind (fun T => j_X7_putName_54 a fuel p 0 1 T) := by
      refine it ⟨by omega, by omega⟩ ?_
      have := ih n (k + 1) 0 (.inl rfl) (by omega) (by omega)
      rw [if_neg (fun k => absurd k.1 (by decide)), show (((k + 1 : Nat) : Int) + 1) = (k : Int) + 1 + 1 by omega] at this
      exact this
    rcases hq with e | e
    · rw [if_neg (show ¬ (q = 1 ∧ ∀ c ∈ ns.getD k 0 :: ns.drop (k + 1), isPln c) from fun z => by omega)]
      exact it e no
    · refine ie (by omega) (it ⟨by omega, by omega⟩ (it ⟨by omega, by omega⟩ ?_))
      rw [e7_pln, Option.bind_some]
      dsimp only
      by_cases hpl : isPln (ns.getD k 0)
      · refine ie (bi_n hpl) (it ⟨by omega, by omega⟩ ?_)
        have := ih n (k + 1) 1 (.inr rfl) (by omega) (by omega)
        rw [show (((k + 1 : Nat) : Int) + 1) = (k : Int) + 1 + 1 by omega] at this
        refine this.trans ?_
        by_cases hr : ∀ c ∈ ns.drop (k + 1), isPln c
        · rw [if_pos ⟨rfl, hr⟩, if_pos ⟨e, fun c hc => by
            rcases List.mem_cons.mp hc with q | q
            · rw [q]; exact hpl
            · exact hr c q⟩]
        · rw [if_neg (fun q => hr q.2), if_neg (fun q => hr (fun c hc => q.2 c (List.mem_cons_of_mem _ hc)))]
      · refine it (bi_0.mpr hpl) ?_
        rw [if_neg (show ¬ (q = 1 ∧ ∀ c ∈ ns.getD k 0 :: ns.drop (k + 1), isPln c) from fun z => hpl (z.2 _ (List.mem_cons_self ..)))]
        exact no
/-- putName -/
theorem p7_nm {a p : Nat} {ns : List Int} (ha : a ≠ 102) (hp : p ≤ 20000) (hl : ns.length ≤ 1000) (h : nmAt (jA S a) p ns) (hlt : p + ns.length < (jA S a).length) (hc : mw S (pnm ns).length) : j_X7_putName a p S = some (eM S (pnm ns)) := by
  unfold j_X7_putName j_X7_putName_0
  have e := p7_n5 hp hl h hlt ns.length fuel 0 1 (.inr rfl) (by omega) (by unfold fuel; omega)
  have e' : j_X7_putName_5 a fuel p 1 1 S = _ := e
  rw [List.drop_zero] at e'
  rw [e']
  unfold pnm at hc ⊢
  by_cases hpl : ∀ c ∈ ns, isPln c
  · rw [if_pos hpl] at hc ⊢
    rw [if_pos (show (1 : Int) = 1 ∧ ∀ c ∈ ns, isPln c from ⟨rfl, hpl⟩)]
    have := p7_nl (a := a) (p := p) (q := 1) ha hp hl ns.length fuel 0 S h hlt (by omega) (by unfold fuel; omega) (by rw [List.drop_zero, if_neg (by decide), List.append_nil]; exact hc)
    rw [List.drop_zero, if_neg (by decide), List.append_nil] at this
    exact this
  · rw [if_neg hpl] at hc ⊢
    rw [List.length_cons] at hc
    rw [if_neg (show ¬ ((1 : Int) = 1 ∧ ∀ c ∈ ns, isPln c) from fun q => hpl q.2), p7_put (mw_m hc (by omega)), Option.bind_some]
    have := p7_nl (a := a) (p := p) (q := 0) ha hp hl ns.length fuel 0 (eM S [34]) (by rw [eM_A ha]; exact h) (by rw [eM_A ha]; exact hlt) (by omega) (by unfold fuel; omega) (by rw [List.drop_zero, if_pos rfl]; exact mw_e (by rw [List.length_singleton, Nat.add_comm]; exact hc))
    rw [List.drop_zero, if_pos rfl, eM_app] at this
    exact this
theorem lG_e (h : lG S G) : lG (eM S xs) G := by
  refine lG_lw h (fun a i hi => ?_)
  have ha : a ≠ 102 := fun e => by
    subst e
    have h0 : lw 102 = 0 := rfl
    omega
  rw [eM_A ha]
theorem p7_al {a : Nat} (ha : a < (gAr G).length) (hv : ∀ x ∈ gAr G, ∀ v ∈ x.2.2.2, vB v) : ∀ (j n k : Nat) (S : iS), zS S → lG S G → k + j = (gHe G).length → j < n → mw S (pcs (((gHe G).map (fun h => h.2)).drop k) (((gAr G).getD a (0, 0, 0, [])).2.2.2.drop k)).length → j_X7_putArc_42 n a k S = some (eM S (pcs (((gHe G).map (fun h => h.2)).drop k) (((gAr G).getD a (0, 0, 0, [])).2.2.2.drop k))) := by
  intro j
  induction j with
  | zero =>
    intro n k S z h hk hn hc
    obtain ⟨n, rfl⟩ : ∃ p, n = p + 1 := ⟨n - 1, by omega⟩
    have l90 : (jA S 90).length = 2 := z 90
    rw [j_X7_putArc_42, h.2.1.1, List.drop_eq_nil_of_le (by rw [List.length_map]; omega)]
    exact it (by omega) (it (by omega) rfl)
  | succ j ih =>
    intro n k S z h hk hn hc
    obtain ⟨n, rfl⟩ : ∃ p, n = p + 1 := ⟨n - 1, by omega⟩
    have l90 : (jA S 90).length = 2 := z 90
    have l91 : (jA S 91).length = 6 := z 91
    have l93 : (jA S 93).length = 240 := z 93
    have l94 : (jA S 94).length = 240 := z 94
    have l95 : (jA S 95).length = 2160 := z 95
    obtain ⟨c0, c1, c2, c3⟩ := h.2.2.2.1
    obtain ⟨⟨a1, a2, a3, a4⟩, hvl⟩ := c3 a ha
    obtain ⟨v1, v2, v3, v4⟩ := a4 k (by omega)
    have hkk := (h.2.1.2.2 k (by omega)).2.2
    have hb : vB (((gAr G).getD a (0, 0, 0, [])).2.2.2.getD k (0, 0, [])) := hv _ (getD_memG ha) _ (getD_memG (by omega))
    have hkl : k < ((gHe G).map (fun h => h.2)).length := by rw [List.length_map]; omega
    rw [drop_getD hkl, drop_getDG (l := ((gAr G).getD a (0, 0, 0, [])).2.2.2) (d := (0, 0, [])) (k := k) (by omega), pcs_cons, map_getD (d := ([], 0)) rfl] at hc ⊢
    rw [List.length_cons, List.length_append] at hc
    rw [j_X7_putArc_42, h.2.1.1]
    refine it (by omega) (ie (by omega) ?_)
    rw [p7_put (mw_m hc (by omega)), Option.bind_some, eM_A (by decide), eM_A (by decide), eM_A (by decide), show ((3 : Int) * a + k).toNat = 3 * a + k by omega, show ((k : Int)).toNat = k by omega, v1, v2, hkk]
    refine it ⟨by omega, by omega⟩ (it ⟨by omega, by omega⟩ (it ⟨by omega, by omega⟩ ?_))
    unfold j_X7_putArc_117
    have tl : ∀ ys, mw (eM S ys) (pcs (((gHe G).map (fun h => h.2)).drop (k + 1)) (((gAr G).getD a (0, 0, 0, [])).2.2.2.drop (k + 1))).length → (if rg ((k : Int) + 1) then (j_X7_putArc_42 n a ((k : Int) + 1) (eM S ys)) else none) = some (eM S (ys ++ pcs (((gHe G).map (fun h => h.2)).drop (k + 1)) (((gAr G).getD a (0, 0, 0, [])).2.2.2.drop (k + 1)))) := by
      intro ys hy
      refine it ⟨by omega, by omega⟩ ?_
      rw [show (k : Int) + 1 = ((k + 1 : Nat) : Int) by omega, ih n (k + 1) _ (gaL_zS z) (lG_e h) (by omega) (by omega) hy, eM_app]
    generalize ((gAr G).getD a (0, 0, 0, [])).2.2.2.getD k (0, 0, []) = v at *
    generalize ((gHe G).getD k ([], 0)).2 = kk at *
    unfold pvl at hc ⊢
    by_cases h0 : v.1 = 0
    · rw [if_pos h0] at hc ⊢
      refine ie (nn h0) ?_
      rw [p7_put (mw_e (mw_m hc (by first | omega | (simp only [List.length_cons, List.length_append, List.length_nil]; omega)))), Option.bind_some, eM_app]
      exact tl _ (mw_e (mw_m hc (by first | omega | (simp only [List.length_cons, List.length_append, List.length_nil]; omega))))
    · rw [if_neg h0] at hc ⊢
      refine it h0 (it ⟨by omega, by omega⟩ ?_)
      by_cases h2 : kk = 2
      · rw [if_pos h2] at hc ⊢
        refine ie (nn h2) (it ⟨by omega, by omega⟩ ?_)
        rw [show (9 : Int) * ((3 : Int) * a + k) = ((9 * (3 * a + k) : Nat) : Int) by omega, p7_nm (ns := v.2.2) (by decide) (by omega) (by omega) (by rw [eM_A (by decide)]; exact v3) (by rw [eM_A (by decide)]; omega) (mw_e (mw_m hc (by first | omega | (simp only [List.length_cons, List.length_append, List.length_nil]; omega)))), Option.bind_some, eM_app]
        exact tl _ (mw_e (mw_m hc (by first | omega | (simp only [List.length_cons, List.length_append, List.length_nil]; omega))))
      · rw [if_neg h2] at hc ⊢
        refine it h2 (it ⟨by omega, by omega⟩ ?_)
        rw [p7_th hb.1 hb.2 (mw_e (mw_m hc (by first | omega | (simp only [List.length_cons, List.length_append, List.length_nil]; omega)))), Option.bind_some, eM_app]
        exact tl _ (mw_e (mw_m hc (by first | omega | (simp only [List.length_cons, List.length_append, List.length_nil]; omega))))
/-- putArc -/
theorem p7_ar (h : lG S G) {a : Nat} (ha : a < (gAr G).length) (hv : ∀ x ∈ gAr G, ∀ v ∈ x.2.2.2, vB v) (hr : ∀ x ∈ gAr G, (0 ≤ x.1 ∧ x.1 < (gNo G).length) ∧ (0 ≤ x.2.1 ∧ x.2.1 < (gNo G).length)) (hc : mw S (par G ((gAr G).getD a (0, 0, 0, []))).length) : j_X7_putArc a S = some (eM S (par G ((gAr G).getD a (0, 0, 0, [])))) := by
  have z := hc.1
  obtain ⟨⟨r1, r2⟩, ⟨r3, r4⟩⟩ := hr _ (getD_memG (d := (0, 0, 0, [])) ha)
  have l87 : (jA S 87).length = 80 := z 87
  have l88 : (jA S 88).length = 80 := z 88
  have l85 : (jA S 85).length = 540 := z 85
  obtain ⟨c0, c1, c2, c3⟩ := h.2.2.2.1
  obtain ⟨⟨a1, a2, a3, a4⟩, hvl⟩ := c3 a ha
  have h30 := h.1.2.1
  obtain ⟨n1, m1⟩ := h.1.2.2 ((gAr G).getD a (0, 0, 0, [])).1.toNat (by omega)
  obtain ⟨n2, m2⟩ := h.1.2.2 ((gAr G).getD a (0, 0, 0, [])).2.1.toNat (by omega)
  have w2 := h.2.1.2.1
  have hal := p7_al (a := a) ha hv (gHe G).length fuel 0
  rw [List.drop_zero, List.drop_zero] at hal
  unfold par at hc ⊢
  unfold ndG at hc ⊢
  generalize hX : (gAr G).getD a (0, 0, 0, []) = x at *
  simp only [List.length_cons, List.length_append] at hc
  unfold j_X7_putArc j_X7_putArc_0
  rw [show ((a : Int)).toNat = a by omega, a1, show (9 : Int) * x.1 = ((9 * x.1.toNat : Nat) : Int) by omega]
  refine it ⟨by omega, by omega⟩ (it ⟨by omega, by omega⟩ ?_)
  rw [p7_nm (ns := (gNo G).getD x.1.toNat []) (by decide) (by omega) (by omega) n1 (by omega) (mw_m hc (by omega)), Option.bind_some, p7_put (mw_e (mw_m hc (by first | omega | (simp only [List.length_cons, List.length_append, List.length_nil]; omega)))), Option.bind_some, eM_app, eM_A (by decide), a2, show (9 : Int) * x.2.1 = ((9 * x.2.1.toNat : Nat) : Int) by omega]
  refine it ⟨by omega, by omega⟩ (it ⟨by omega, by omega⟩ ?_)
  rw [p7_nm (ns := (gNo G).getD x.2.1.toNat []) (by decide) (by omega) (by omega) (by rw [eM_A (by decide)]; exact n2) (by rw [eM_A (by decide)]; omega) (mw_e (mw_m hc (by first | omega | (simp only [List.length_cons, List.length_append, List.length_nil]; omega)))), Option.bind_some, eM_app]
  refine (hal _ (gaL_zS z) (lG_e h) (by omega) (by unfold fuel; omega) (mw_e (mw_m hc (by first | omega | (simp only [List.length_cons, List.length_append, List.length_nil]; omega))))).trans ?_
  rw [eM_app]
  simp only [List.append_assoc, List.cons_append, List.nil_append]
/-- a COMMENT's bytes, and what comes behind -/
theorem p7_cl {r29 : Int → Int → Int → Int → iS → Option (Int × iS)} {i : Nat} {l2 l3 l4 : Int} {ns : List Int} (hi : i ≤ 300) (hl : ns.length ≤ 20) : ∀ (j n k : Nat) (S : iS), zS S → nmAt (jA S 98) (21 * i) ns → 21 * i + ns.length < (jA S 98).length → k + j = ns.length → j < n → mw S (ns.drop k).length → j_X7_print_81 r29 n i l2 l3 l4 ((k : Int) + 1) S = j_X7_print_243 r29 ((i : Int) + 1) l2 l3 l4 (eM S (ns.drop k)) := by
  intro j
  induction j with
  | zero =>
    intro n k S z h hlt hk hn hc
    obtain ⟨n, rfl⟩ : ∃ p, n = p + 1 := ⟨n - 1, by omega⟩
    rw [List.drop_eq_nil_of_le (by omega), j_X7_print_81, show ((21 : Int) * i).toNat = 21 * i by omega, h.1]
    exact it ⟨by omega, by omega⟩ (it ⟨by omega, by omega⟩ (it (by omega) (it ⟨by omega, by omega⟩ rfl)))
  | succ j ih =>
    intro n k S z h hlt hk hn hc
    obtain ⟨n, rfl⟩ : ∃ p, n = p + 1 := ⟨n - 1, by omega⟩
    have e2 : (jA S 98).getD ((21 : Int) * i + ((k : Int) + 1)).toNat 0 = ns.getD k 0 := by
      rw [show ((21 : Int) * i + ((k : Int) + 1)).toNat = 21 * i + 1 + k by omega]; exact h.2 k (by omega)
    rw [drop_getD (l := ns) (k := k) (by omega)] at hc ⊢
    rw [List.length_cons] at hc
    rw [j_X7_print_81, show ((21 : Int) * i).toNat = 21 * i by omega, h.1, e2, p7_put (mw_m hc (by omega)), Option.bind_some]
    refine it ⟨by omega, by omega⟩ (it ⟨by omega, by omega⟩ (ie (by omega) (it ⟨by omega, by omega⟩ (it ⟨by omega, by omega⟩ (it ⟨by omega, by omega⟩ ?_)))))
    have := ih n (k + 1) (eM S [ns.getD k 0]) (gaL_zS z) (by rw [eM_A (by decide)]; exact h) (by rw [eM_A (by decide)]; exact hlt) (by omega) (by omega) (mw_e (by rw [List.length_singleton, Nat.add_comm]; exact hc))
    rw [show (((k + 1 : Nat) : Int) + 1) = (k : Int) + 1 + 1 by omega, eM_app] at this
    exact this
theorem p7_gl (p : prB G) : ∀ (ss : List Int) (n k c h a : Nat) (S : iS), (gLi G).drop k = ss → ss.length < n → lG S G → lnC G ss c h a → mw S (pli G ss c h a).length → j_X7_print_29 n c h a k S = some (jI (eM S (pli G ss c h a)) 82 26, eM S (pli G ss c h a)) := by
  obtain ⟨hw, hv, hr, hct, _, _⟩ := p
  have w1 := hw.1
  have w2 := hw.2.1
  have w3 := hw.2.2.1
  have w5 := hw.2.2.2.2.1
  have w6 := hw.2.2.2.2.2
  intro ss
  induction ss with
  | nil =>
    intro n k c h a S hd hn hO _ hc
    obtain ⟨n, rfl⟩ : ∃ p, n = p + 1 := ⟨n - 1, by omega⟩
    have l99 : (jA S 99).length = 2 := hc.1 99
    have : (gLi G).length ≤ k := by rw [List.drop_eq_nil_iff] at hd; exact hd
    rw [j_X7_print_29, hO.2.2.2.2.1.1]
    exact it (by omega) (it (by omega) rfl)
  | cons s ss ih =>
    intro n k c h a S hd hn hO hln hc
    rw [List.length_cons] at hn
    obtain ⟨n, rfl⟩ : ∃ p, n = p + 1 := ⟨n - 1, by omega⟩
    obtain ⟨hk, hs, hd'⟩ := drop_cons_of hd
    obtain ⟨hln', i0, i1, i2, i3⟩ := lnC_tl hln
    have z := hc.1
    have l99 : (jA S 99).length = 2 := z 99
    have l100 : (jA S 100).length = 1202 := z 100
    have l101 : (jA S 101).length = 4 := z 101
    have l91 : (jA S 91).length = 6 := z 91
    have l92 : (jA S 92).length = 54 := z 92
    have l98 : (jA S 98).length = 12600 := z 98
    rw [pli, List.length_append, List.length_cons] at hc
    rw [j_X7_print_29, hO.2.2.2.2.1.1, show ((k : Int)).toNat = k by omega, hO.2.2.2.2.1.2.2 k hk, hs]
    refine it (by omega) (ie (by omega) (it ⟨by omega, by omega⟩ ?_))
    -- what comes behind each LINE
    have tl : ∀ (ys : List Int) (c' h' a' : Nat), lnC G ss c' h' a' → mw (eM S ys) ((pli G ss c' h' a').length + 1) → j_X7_print_243 (fun l1' l2' l3' l4' S' => j_X7_print_29 n l1' l2' l3' l4' S') c' h' a' k (eM S ys) = some (jI (eM S (ys ++ 10 :: pli G ss c' h' a')) 82 26, eM S (ys ++ 10 :: pli G ss c' h' a')) := by
      intro ys c' h' a' hlT hcT
      unfold j_X7_print_243
      rw [p7_put (mw_m hcT (by omega)), Option.bind_some, eM_app]
      refine it ⟨by omega, by omega⟩ ?_
      rw [show (k : Int) + 1 = ((k + 1 : Nat) : Int) by omega]
      refine (ih n (k + 1) c' h' a' _ hd' (by omega) (lG_e hO) hlT (by rw [← eM_app]; exact mw_e (by rw [List.length_singleton, Nat.add_comm]; exact hcT))).trans ?_
      rw [eM_app, List.append_assoc]
      rfl
    have cc := hln.2.2.1
    have ch := hln.2.2.2.1
    have ca := hln.2.2.2.2
    rw [pli]
    by_cases s0 : s = 0
    · rw [if_pos s0, if_neg (show ¬ s = 2 by omega), if_pos (show s = 0 ∨ s = 1 ∨ s = 2 from .inl s0)] at hln' hc ⊢
      have hp : pl1 G s c h a = 35 :: (gCo G).getD c [] := by unfold pl1; rw [if_pos s0]
      rw [hp] at hc ⊢
      obtain ⟨n1, m1⟩ := hO.2.2.1.2.2 c (i0 s0)
      have ic := i0 s0
      rw [List.length_cons] at hc
      refine it (by omega) ?_
      rw [p7_put (mw_m hc (by omega)), Option.bind_some]
      have := p7_cl (r29 := fun l1' l2' l3' l4' S' => j_X7_print_29 n l1' l2' l3' l4' S') (i := c) (l2 := h) (l3 := a) (l4 := k) (by omega) m1 ((gCo G).getD c []).length fuel 0 (eM S [35]) (gaL_zS z) (by rw [eM_A (by decide)]; exact n1) (by rw [eM_A (by decide)]; omega) (by omega) (by unfold fuel; omega) (mw_e (mw_m hc (by rw [List.drop_zero]; simp only [List.length_cons, List.length_nil]; omega)))
      rw [List.drop_zero, eM_app] at this
      refine (show j_X7_print_81 _ fuel c h a k 1 (eM S [35]) = _ from this).trans ?_
      rw [show (c : Int) + 1 = ((c + 1 : Nat) : Int) by omega, tl _ _ _ _ hln' (mw_e (mw_m hc (by simp only [List.length_cons, List.length_append, List.length_nil]; omega)))]
      rfl
    · rw [if_neg s0] at hln' hc ⊢
      rw [if_neg (show ¬ s + 1 = 1 by omega)]
      by_cases s1 : s = 1
      · rw [if_neg (show ¬ s = 2 by omega), if_pos (show s = 0 ∨ s = 1 ∨ s = 2 from .inr (.inl s1))] at hln' hc ⊢
        obtain ⟨ct, hct'⟩ := Option.isSome_iff_exists.mp (i1 s1)
        obtain ⟨q1, q2⟩ := hct ct hct'
        have hcc := hO.2.2.2.2.2.2
        rw [hct'] at hcc
        obtain ⟨g1, g2⟩ := hcc
        have hp : pl1 G s c h a = 33 :: 32 :: (pwh ct.1 ++ 32 :: pwh ct.2) := by unfold pl1; rw [if_neg s0, if_pos s1, ctG_some hct']
        rw [hp] at hc ⊢
        simp only [List.length_cons, List.length_append] at hc
        refine it (by omega) ?_
        rw [p7_put (mw_m hc (by omega)), Option.bind_some, p7_put (mw_e (mw_m hc (by first | omega | (simp only [List.length_cons, List.length_append, List.length_nil]; omega)))), Option.bind_some, eM_app, eM_A (by decide), g1]
        refine it (by omega) ?_
        rw [p7_wh q1.1 (by omega) (mw_e (mw_m hc (by first | omega | (simp only [List.length_cons, List.length_append, List.length_nil]; omega)))), Option.bind_some, eM_app, p7_put (mw_e (mw_m hc (by first | omega | (simp only [List.length_cons, List.length_append, List.length_nil]; omega)))), Option.bind_some, eM_app, eM_A (by decide), g2]
        refine it (by omega) ?_
        rw [p7_wh q2.1 (by omega) (mw_e (mw_m hc (by first | omega | (simp only [List.length_cons, List.length_append, List.length_nil]; omega)))), Option.bind_some, eM_app, tl _ _ _ _ hln' (mw_e (mw_m hc (by first | omega | (simp only [List.length_cons, List.length_append, List.length_nil]; omega))))]
        simp only [List.append_assoc, List.cons_append, List.nil_append]
      · rw [if_neg (show ¬ s + 1 = 2 by omega)]
        by_cases s2 : s = 2
        · rw [if_pos s2, if_pos (show s = 0 ∨ s = 1 ∨ s = 2 from .inr (.inr s2))] at hln' hc ⊢
          have hp : pl1 G s c h a = 37 :: 32 :: (pnm ((gHe G).getD h ([], 0)).1 ++ [32, ktS ((gHe G).getD h ([], 0)).2]) := by unfold pl1; rw [if_neg s0, if_neg s1, if_pos s2]
          have ih2 := i2 s2
          obtain ⟨n1, m1, k1⟩ := hO.2.1.2.2 h ih2
          rw [hp] at hc ⊢
          simp only [List.length_cons, List.length_append, List.length_nil] at hc
          refine it (by omega) ?_
          rw [p7_put (mw_m hc (by omega)), Option.bind_some, p7_put (mw_e (mw_m hc (by first | omega | (simp only [List.length_cons, List.length_append, List.length_nil]; omega)))), Option.bind_some, eM_app]
          refine it ⟨by omega, by omega⟩ ?_
          rw [show (9 : Int) * h = ((9 * h : Nat) : Int) by omega, p7_nm (ns := ((gHe G).getD h ([], 0)).1) (by decide) (by omega) (by omega) (by rw [eM_A (by decide)]; exact n1) (by rw [eM_A (by decide)]; omega) (mw_e (mw_m hc (by first | omega | (simp only [List.length_cons, List.length_append, List.length_nil]; omega)))), Option.bind_some, eM_app, p7_put (mw_e (mw_m hc (by first | omega | (simp only [List.length_cons, List.length_append, List.length_nil]; omega)))), Option.bind_some, eM_app, eM_A (by decide), show ((h : Int)).toNat = h by omega, k1]
          refine it ⟨by omega, by omega⟩ ?_
          have lt : ∀ t, t = ktS ((gHe G).getD h ([], 0)).2 → j_X7_print_226 (fun l1' l2' l3' l4' S' => j_X7_print_29 n l1' l2' l3' l4' S') c h a k t (eM S ([37] ++ [32] ++ pnm ((gHe G).getD h ([], 0)).1 ++ [32])) = some (jI (eM S (37 :: 32 :: (pnm ((gHe G).getD h ([], 0)).1 ++ [32, ktS ((gHe G).getD h ([], 0)).2]) ++ 10 :: pli G ss c (h + 1) a)) 82 26, eM S (37 :: 32 :: (pnm ((gHe G).getD h ([], 0)).1 ++ [32, ktS ((gHe G).getD h ([], 0)).2]) ++ 10 :: pli G ss c (h + 1) a)) := by
            intro t ht
            subst ht
            unfold j_X7_print_226
            rw [p7_put (mw_e (mw_m hc (by first | omega | (simp only [List.length_cons, List.length_append, List.length_nil]; omega)))), Option.bind_some, eM_app]
            refine it ⟨by omega, by omega⟩ ?_
            rw [show (h : Int) + 1 = ((h + 1 : Nat) : Int) by omega, tl _ _ _ _ hln' (mw_e (mw_m hc (by first | omega | (simp only [List.length_cons, List.length_append, List.length_nil]; omega))))]
            simp only [List.append_assoc, List.cons_append, List.nil_append]
          by_cases k0 : ((gHe G).getD h ([], 0)).2 = 0
          · exact ie (nn k0) (lt _ (by unfold ktS; rw [if_pos k0]))
          · refine it k0 ?_
            by_cases k1' : ((gHe G).getD h ([], 0)).2 = 1
            · exact ie (nn k1') (lt _ (by unfold ktS; rw [if_neg k0, if_pos k1']))
            · exact it k1' (lt _ (by unfold ktS; rw [if_neg k0, if_neg k1']))
        · have s3 : ¬ (s = 0 ∨ s = 1 ∨ s = 2) := fun q => q.elim s0 (fun q => q.elim s1 s2)
          rw [if_neg s2, if_neg s3] at hln' hc ⊢
          have hp : pl1 G s c h a = par G ((gAr G).getD a (0, 0, 0, [])) := by unfold pl1; rw [if_neg s0, if_neg s1, if_neg s2]
          have ia := i3 s3
          rw [hp] at hc ⊢
          refine ie (by omega) ?_
          rw [p7_ar hO ia hv hr (mw_m hc (by omega)), Option.bind_some]
          refine it ⟨by omega, by omega⟩ ?_
          rw [show (a : Int) + 1 = ((a + 1 : Nat) : Int) by omega, tl _ _ _ _ hln' (mw_e (mw_m hc (by omega)))]
/-- print of the model -/
theorem m7_print (z : zS S) (h : lG S G) (p : prB G) (hi : ¬ jI S 82 6 = 0) : j_X7_print S = some (((prS G).length : Int), eM (kI (kI S 82 0 0) 82 26 0) (prS G)) := by
  unfold j_X7_print j_X7_print_0
  refine it hi ?_
  have hw := p.1.2.2.2.2.2
  have := p7_gl p (gLi G) fuel 0 0 0 0 (kI (kI S 82 0 0) 82 26 0) List.drop_zero (by unfold fuel; omega) h p.2.2.2.2.1 ⟨z, by rw [jI_eq]; decide, by rw [jI_eq]; have := p.2.2.2.2.2; unfold prS at this; omega⟩
  refine (show j_X7_print_29 fuel 0 0 0 0 (kI (kI S 82 0 0) 82 26 0) = _ from this).trans ?_
  rw [gaL_len, jI_eq, Int.zero_add]
  rfl
theorem m7_print0 (hi : jI S 82 6 = 0) : j_X7_print S = some (-103, kI S 82 0 0) := by
  unfold j_X7_print j_X7_print_0
  exact ie (nn hi) rfl
end MPG
