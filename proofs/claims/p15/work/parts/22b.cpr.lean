section CPR
variable {S S' S'' : iS} {b : Bool} {G : gT} {xs ys : List Int}
theorem cO_e (h : cO b S G) : cO b (eC S xs) G := by
  have hg := g_or b
  exact cO_far h (fun a q p1 p2 => ⟨gaL_I (.inl (by omega)), gaL_A (by omega)⟩)
theorem nmC_sp (z : zS S) {a : Nat} {ss : List Int} {l : List (List Int)} (h : spn S a ss l) (hss : rv S (sgn a) = ss) (k1 : rk S (sgn a)) (ha : 6 ≤ a) (hs : 6 ≤ sgn a) {i : Nat} (hi : i < l.length) : nmC S a i (l.getD i []) := by
  intro xs
  have zT : zS (eC S xs) := gaL_zS z
  have hT : spn (eC S xs) a ss l := spn_eq h (gaL_I (.inl (by omega))) (gaL_A (by omega)) (gaL_I (.inl (by omega))) (gaL_A (by omega)) (gaL_I (.inl (by omega)))
  have e1 : jI (eC S xs) (sgn a) 1 = jI S (sgn a) 1 := gaL_I (.inl (by omega))
  have e2 : jA (eC S xs) (sgn a + 1) = jA S (sgn a + 1) := gaL_A (by omega)
  exact ⟨c_lenOf zT hT hi, fun j hj => c_sgAt zT hT ((rv_eq e1 e2).trans hss) (rk_eq k1 e1 e2) hi hj⟩
theorem sg_600 (z : zS S) (h : cO b S G) : (sg b S).length ≤ 600 := by
  have := rv_len h.1
  have h2 := h.1.2
  have : (jA S (gadr b + 1 + 1)).length = 600 := by
    rw [z (gadr b + 1 + 1)]
    cases b <;> rfl
  rw [sg_rv] at *
  omega
theorem sp_len {a : Nat} {ss : List Int} {l : List (List Int)} (h : spn S a ss l) (hs : ss.length ≤ 600) {i : Nat} (hi : i < l.length) : (l.getD i []).length ≤ 1000 := by
  obtain ⟨st, ln, _, _, e3, e4⟩ := h.2.2.2.2.2 i hi
  rw [← e4, take_len e3]
  omega
theorem nmC_no (z : zS S) (h : cO b S G) {i : Nat} (hi : i < (gNo G).length) : nmC S (gadr b + 3) i ((gNo G).getD i []) ∧ ((gNo G).getD i []).length ≤ 1000 := by
  have hg := g_or b
  exact ⟨nmC_sp z h.2.1.1 (by rw [sgn_3]; rfl) (by rw [sgn_3]; exact h.1) (by omega) (by rw [sgn_3]; omega) hi, sp_len h.2.1.1 (sg_600 z h) hi⟩
theorem nmC_he (z : zS S) (h : cO b S G) {i : Nat} (hi : i < (gHe G).length) : nmC S (gadr b + 8) i ((gHe G).getD i ([], 0)).1 ∧ ((gHe G).getD i ([], 0)).1.length ≤ 1000 := by
  have hg := g_or b
  have hi' : i < ((gHe G).map (fun h => h.1)).length := by rw [List.length_map]; exact hi
  have e := map_getD (l := gHe G) (f := fun h : List Int × Int => h.1) (d := ([], 0)) (d' := []) rfl (i := i)
  rw [← e]
  exact ⟨nmC_sp z h.2.1.2.1 (by rw [sgn_8]; rfl) (by rw [sgn_8]; exact h.1) (by omega) (by rw [sgn_8]; omega) hi', sp_len h.2.1.2.1 (sg_600 z h) hi'⟩
theorem nmC_co (z : zS S) (h : cO b S G) {i : Nat} (hi : i < (gCo G).length) : nmC S (gadr b + 13) i ((gCo G).getD i []) ∧ ((gCo G).getD i []).length ≤ 1000 := by
  have hg := g_or b
  exact ⟨nmC_sp z h.2.1.2.2 (by rw [sgn_13]; rfl) (by rw [sgn_13]; exact h.1) (by omega) (by rw [sgn_13]; omega) hi, sp_len h.2.1.2.2 (sg_600 z h) hi⟩
theorem nmC_va (z : zS S) (h : cO b S G) {i : Nat} (hi : i < (flV (gAr G)).length) : nmC S (gadr b + 26) i (vsg ((flV (gAr G)).getD i (0, 0, []))) ∧ (vsg ((flV (gAr G)).getD i (0, 0, []))).length ≤ 1000 := by
  have hg := g_or b
  have hi' : i < ((flV (gAr G)).map vsg).length := by rw [List.length_map]; exact hi
  have e : ((flV (gAr G)).map vsg).getD i [] = vsg ((flV (gAr G)).getD i (0, 0, [])) := by
    rw [List.getD_eq_getElem?_getD, List.getD_eq_getElem?_getD, List.getElem?_map, List.getElem?_eq_getElem hi]
    rfl
  rw [← e]
  exact ⟨nmC_sp z h.2.2.2.2.1.1 (by rw [sgn_26]; rfl) (by rw [sgn_26]; exact h.1) (by omega) (by rw [sgn_26]; omega) hi', sp_len h.2.2.2.2.1.1 (sg_600 z h) hi'⟩
theorem p6_cl {i : Int} {ns : List Int} (hl : ns.length ≤ 1000) : ∀ (j n k : Nat) (S : iS), nmC S (gadr b + 13) i ns → k + j = ns.length → j < n → cw S (ns.drop k).length → j_X5_writeComment_11 b n i k S = some (eC S (ns.drop k)) := by
  intro j
  induction j with
  | zero =>
    intro n k S h hk hn hc
    obtain ⟨n, rfl⟩ : ∃ p, n = p + 1 := ⟨n - 1, by omega⟩
    have e1' : j_X4_lengthOf (gadr b + 13) i S = some ((ns.length : Int), S) := (h []).1
    rw [List.drop_eq_nil_of_le (by omega), j_X5_writeComment_11, e1', Option.bind_some]
    exact it (by show (ns.length : Int) ≤ k; omega) rfl
  | succ j ih =>
    intro n k S h hk hn hc
    obtain ⟨n, rfl⟩ : ∃ p, n = p + 1 := ⟨n - 1, by omega⟩
    have e1' : j_X4_lengthOf (gadr b + 13) i S = some ((ns.length : Int), S) := (h []).1
    have e2' : j_X4_signAt (gadr b + 13) i k S = some (ns.getD k 0, S) := (h []).2 k (by omega)
    rw [drop_getD (l := ns) (k := k) (by omega)] at hc ⊢
    rw [List.length_cons] at hc
    rw [j_X5_writeComment_11, e1', Option.bind_some]
    refine ie (by show ¬ (ns.length : Int) ≤ k; omega) ?_
    dsimp only
    rw [e2', Option.bind_some]
    dsimp only
    rw [p6_add (cw_m hc (by omega)), Option.bind_some]
    refine it ⟨by omega, by omega⟩ ?_
    rw [show (k : Int) + 1 = ((k + 1 : Nat) : Int) by omega, ih n (k + 1) _ (nmC_e h) (by omega) (by omega) (cw_e (by rw [List.length_singleton, Nat.add_comm]; exact hc)), eC_app]
    rfl
theorem p6_co (h : cO b S G) {i : Nat} (hi : i < (gCo G).length) (hc : cw S (35 :: (gCo G).getD i []).length) : j_X5_writeComment b i S = some (eC S (35 :: (gCo G).getD i [])) := by
  obtain ⟨hn, hl⟩ := nmC_co hc.1 h hi
  unfold j_X5_writeComment j_X5_writeComment_0
  rw [List.length_cons] at hc
  rw [p6_add (cw_m hc (by omega)), Option.bind_some]
  have := p6_cl (b := b) hl ((gCo G).getD i []).length fuel 0 (eC S [35]) (nmC_e hn) (by omega) (by unfold fuel; omega) (by rw [List.drop_zero]; exact cw_e (by rw [List.length_singleton, Nat.add_comm]; exact hc))
  rw [List.drop_zero, eC_app] at this
  exact this
theorem eC_I {a f : Nat} (h : a ≠ 3) : jI (eC S xs) a f = jI S a f := gaL_I (.inl h)
theorem p6_ct (h : cO b S G) {c : Int × Int} (hct : gCt G = some c) (h1 : 0 ≤ c.1 ∧ c.1 ≤ 99) (h2 : 0 ≤ c.2 ∧ c.2 ≤ 99) (hc : cw S (33 :: 32 :: (pwh c.1 ++ 32 :: pwh c.2)).length) : j_X5_writeCount b S = some (eC S (33 :: 32 :: (pwh c.1 ++ 32 :: pwh c.2))) := by
  have hg := g_or b
  obtain ⟨q1, q2⟩ := h.2.2.2.2.2.2.2 c hct
  simp only [List.length_cons, List.length_append] at hc
  unfold j_X5_writeCount j_X5_writeCount_0
  rw [p6_add (cw_m hc (by omega)), Option.bind_some, p6_add (cw_e (cw_m hc (by first | omega | (simp only [List.length_cons, List.length_append, List.length_nil]; omega)))), Option.bind_some, eC_app, eC_I (by omega), q1, p6_wh h1.1 (by omega) (cw_e (cw_m hc (by first | omega | (simp only [List.length_cons, List.length_append, List.length_nil]; omega)))), Option.bind_some, eC_app, p6_add (cw_e (cw_m hc (by first | omega | (simp only [List.length_cons, List.length_append, List.length_nil]; omega)))), Option.bind_some, eC_app, eC_I (by omega), q2, p6_wh h2.1 (by omega) (cw_e (cw_m hc (by first | omega | (simp only [List.length_cons, List.length_append, List.length_nil]; omega)))), Option.bind_some, eC_app]
  simp only [List.append_assoc, List.cons_append, List.nil_append]
theorem p6_kt {k : Int} : j_X5_letterOfKind k S = some (ktS k, S) := by
  unfold j_X5_letterOfKind j_X5_letterOfKind_0 j_X5_letterOfKind_19 ktS
  by_cases h0 : k = 0
  · rw [if_neg (nn h0), if_pos h0]
  · rw [if_pos h0, if_neg h0]
    by_cases h1 : k = 1
    · rw [if_neg (nn h1), if_pos h1]
    · rw [if_pos h1, if_neg h1]
theorem p6_he (h : cO b S G) {i : Nat} (hi : i < (gHe G).length) (hc : cw S (37 :: 32 :: (pnm ((gHe G).getD i ([], 0)).1 ++ [32, ktS ((gHe G).getD i ([], 0)).2])).length) : j_X5_writeHead b i S = some (eC S (37 :: 32 :: (pnm ((gHe G).getD i ([], 0)).1 ++ [32, ktS ((gHe G).getD i ([], 0)).2]))) := by
  have hg := g_or b
  obtain ⟨hn, hl⟩ := nmC_he hc.1 h hi
  simp only [List.length_cons, List.length_append, List.length_nil] at hc
  unfold j_X5_writeHead j_X5_writeHead_0
  have hT : ∀ ys, j_X3_at (gadr b + 18) i (eC S ys) = some (((gHe G).getD i ([], 0)).2, eC S ys) := fun ys => by
    rw [rT_at (gaL_zS hc.1) (cO_e h).2.2.1 (by rw [List.length_map]; exact hi), map_getD (d := ([], 0)) rfl]
  rw [p6_add (cw_m hc (by omega)), Option.bind_some, p6_add (cw_e (cw_m hc (by first | omega | (simp only [List.length_cons, List.length_append, List.length_nil]; omega)))), Option.bind_some, eC_app, p6_nm (nmC_e hn) hl (cw_e (cw_m hc (by first | omega | (simp only [List.length_cons, List.length_append, List.length_nil]; omega)))), Option.bind_some, eC_app, p6_add (cw_e (cw_m hc (by first | omega | (simp only [List.length_cons, List.length_append, List.length_nil]; omega)))), Option.bind_some, eC_app, hT, Option.bind_some]
  dsimp only
  rw [p6_kt, Option.bind_some]
  dsimp only
  rw [p6_add (cw_e (cw_m hc (by first | omega | (simp only [List.length_cons, List.length_append, List.length_nil]; omega)))), Option.bind_some, eC_app]
  simp only [List.append_assoc, List.cons_append, List.nil_append]
/-- a VALUE's thousandths have bounds -/
def vB (v : vT) : Prop := -999999999 ≤ v.2.1 ∧ v.2.1 ≤ 999999999
theorem p6_vl (h : cO b S G) {i : Nat} (hi : i < (flV (gAr G)).length) {k : Int} (hb : vB ((flV (gAr G)).getD i (0, 0, []))) (hc : cw S (pvl k ((flV (gAr G)).getD i (0, 0, []))).length) : j_X5_writeValue b i k S = some (eC S (pvl k ((flV (gAr G)).getD i (0, 0, [])))) := by
  have z := hc.1
  obtain ⟨hn, hl⟩ := nmC_va z h hi
  have e1 : j_X3_at (gadr b + 31) i S = some (((flV (gAr G)).getD i (0, 0, [])).1, S) := by
    rw [rT_at z h.2.2.2.2.1.2.1 (by rw [List.length_map]; exact hi), map_getD (d := (0, 0, [])) rfl]
  have e2 : j_X3_at (gadr b + 33) i S = some (((flV (gAr G)).getD i (0, 0, [])).2.1, S) := by
    rw [rT_at z h.2.2.2.2.1.2.2 (by rw [List.length_map]; exact hi), map_getD (d := (0, 0, [])) rfl]
  generalize (flV (gAr G)).getD i (0, 0, []) = v at *
  unfold j_X5_writeValue j_X5_writeValue_0 j_X5_writeValue_52
  rw [e1, Option.bind_some]
  dsimp only
  unfold pvl at hc ⊢
  by_cases h0 : v.1 = 0
  · rw [if_pos h0] at hc ⊢
    refine ie (nn h0) ?_
    rw [p6_add hc, Option.bind_some]
  · rw [if_neg h0] at hc ⊢
    refine it h0 ?_
    by_cases h2 : k = 2
    · rw [if_pos h2] at hc ⊢
      refine ie (nn h2) ?_
      have hv : vsg v = v.2.2 := by unfold vsg; rw [if_neg h0]
      rw [hv] at hn hl
      rw [p6_nm hn hl hc, Option.bind_some]
    · rw [if_neg h2] at hc ⊢
      refine it h2 ?_
      rw [e2, Option.bind_some]
      dsimp only
      rw [p6_th hb.1 hb.2 hc, Option.bind_some]
theorem pcs_cons {k : Int} {v : vT} {ks : List Int} {vs : List vT} : pcs (k :: ks) (v :: vs) = 32 :: (pvl k v ++ pcs ks vs) := rfl
theorem p6_al {a : Nat} (hw : wfG G) (ha : a < (gAr G).length) (hv : ∀ x ∈ gAr G, ∀ v ∈ x.2.2.2, vB v) : ∀ (j n k : Nat) (S : iS), cO b S G → k + j = (gHe G).length → j < n → cw S (pcs (((gHe G).map (fun h => h.2)).drop k) (((gAr G).getD a (0, 0, 0, [])).2.2.2.drop k)).length → j_X5_writeArc_43 b n a k S = some (eC S (pcs (((gHe G).map (fun h => h.2)).drop k) (((gAr G).getD a (0, 0, 0, [])).2.2.2.drop k))) := by
  have hlen : ∀ x ∈ gAr G, x.2.2.2.length = (gHe G).length := fun x hx => (hw.2.2.2.1 x hx).1
  have hxl : ((gAr G).getD a (0, 0, 0, [])).2.2.2.length = (gHe G).length := hlen _ (getD_memG ha)
  have w3 := hw.2.2.1
  have w2 := hw.2.1
  intro j
  induction j with
  | zero =>
    intro n k S h hk hn hc
    obtain ⟨n, rfl⟩ : ∃ p, n = p + 1 := ⟨n - 1, by omega⟩
    have e18 : jI S (gadr b + 18) 1 = (gHe G).length := by rw [rT_len h.2.2.1, List.length_map]
    rw [j_X5_writeArc_43, e18, List.drop_eq_nil_of_le (by rw [List.length_map]; omega)]
    exact it (by omega) rfl
  | succ j ih =>
    intro n k S h hk hn hc
    obtain ⟨n, rfl⟩ : ∃ p, n = p + 1 := ⟨n - 1, by omega⟩
    have e18 : jI S (gadr b + 18) 1 = (gHe G).length := by rw [rT_len h.2.2.1, List.length_map]
    have hkl : k < ((gHe G).map (fun h => h.2)).length := by rw [List.length_map]; omega
    have hr : a * (gHe G).length + k < (flV (gAr G)).length := by rw [flV_len hlen]; exact room_lt ha (by omega)
    have hvg := flV_getD hlen ha (show k < (gHe G).length by omega)
    rw [drop_getD hkl, drop_getDG (l := ((gAr G).getD a (0, 0, 0, [])).2.2.2) (d := (0, 0, [])) (k := k) (by omega), pcs_cons, map_getD (d := ([], 0)) rfl, ← hvg] at hc ⊢
    rw [List.length_cons, List.length_append] at hc
    have hb : vB ((flV (gAr G)).getD (a * (gHe G).length + k) (0, 0, [])) := by
      rw [hvg]
      exact hv _ (getD_memG ha) _ (getD_memG (by omega))
    rw [j_X5_writeArc_43, e18]
    refine ie (by omega) ?_
    rw [p6_add (cw_m hc (by omega)), Option.bind_some]
    have h1 : cO b (eC S [32]) G := cO_e h
    rw [c_room (b := b) (nh := (gHe G).length) (by rw [h1.2.1.2.1.2.2.2.2.1, List.length_map]) (by omega) w2 (by omega), Option.bind_some]
    dsimp only
    rw [rT_at (gaL_zS hc.1) h1.2.2.1 hkl, Option.bind_some, map_getD (d := ([], 0)) rfl]
    dsimp only
    rw [p6_vl h1 hr hb (cw_e (cw_m hc (by first | omega | (simp only [List.length_cons, List.length_append, List.length_nil]; omega)))), Option.bind_some, eC_app]
    refine it ⟨by omega, by omega⟩ ?_
    rw [show (k : Int) + 1 = ((k + 1 : Nat) : Int) by omega, ih n (k + 1) _ (cO_e h) (by omega) (by omega) (cw_e (cw_m hc (by first | omega | (simp only [List.length_cons, List.length_append, List.length_nil]; omega)))), eC_app]
    simp only [List.append_assoc, List.cons_append, List.nil_append]
/-- writeArc -/
theorem p6_ar (h : cO b S G) {a : Nat} (hw : wfG G) (ha : a < (gAr G).length) (hv : ∀ x ∈ gAr G, ∀ v ∈ x.2.2.2, vB v) (hr : ∀ x ∈ gAr G, (0 ≤ x.1 ∧ x.1 < (gNo G).length) ∧ (0 ≤ x.2.1 ∧ x.2.1 < (gNo G).length)) (hc : cw S (par G ((gAr G).getD a (0, 0, 0, []))).length) : j_X5_writeArc b a S = some (eC S (par G ((gAr G).getD a (0, 0, 0, [])))) := by
  have z := hc.1
  obtain ⟨⟨r1, r2⟩, ⟨r3, r4⟩⟩ := hr _ (getD_memG (d := (0, 0, 0, [])) ha)
  have hx1 : ∀ ys, j_X3_at (gadr b + 20) a (eC S ys) = some (((gAr G).getD a (0, 0, 0, [])).1, eC S ys) := fun ys => by
    rw [rT_at (gaL_zS z) (cO_e h).2.2.2.1.1 (by rw [List.length_map]; exact ha), map_getD (d := (0, 0, 0, [])) rfl]
  have hx2 : ∀ ys, j_X3_at (gadr b + 22) a (eC S ys) = some (((gAr G).getD a (0, 0, 0, [])).2.1, eC S ys) := fun ys => by
    rw [rT_at (gaL_zS z) (cO_e h).2.2.2.1.2.1 (by rw [List.length_map]; exact ha), map_getD (d := (0, 0, 0, [])) rfl]
  obtain ⟨n1, l1⟩ := nmC_no z h (i := ((gAr G).getD a (0, 0, 0, [])).1.toNat) (by omega)
  obtain ⟨n2, l2⟩ := nmC_no z h (i := ((gAr G).getD a (0, 0, 0, [])).2.1.toNat) (by omega)
  have w2 := hw.2.1
  have hal := p6_al (b := b) (a := a) hw ha hv (gHe G).length fuel 0
  rw [List.drop_zero, List.drop_zero] at hal
  unfold par at hc ⊢
  unfold ndG at hc ⊢
  generalize hX : (gAr G).getD a (0, 0, 0, []) = x at *
  rw [show ((x.1.toNat : Nat) : Int) = x.1 by omega] at n1
  rw [show ((x.2.1.toNat : Nat) : Int) = x.2.1 by omega] at n2
  simp only [List.length_cons, List.length_append] at hc
  unfold j_X5_writeArc j_X5_writeArc_0
  have h0 := hx1 []
  have h0' : j_X3_at (gadr b + 20) a S = some (x.1, S) := h0
  rw [h0', Option.bind_some]
  dsimp only
  rw [p6_nm n1 l1 (cw_m hc (by omega)), Option.bind_some, p6_add (cw_e (cw_m hc (by first | omega | (simp only [List.length_cons, List.length_append, List.length_nil]; omega)))), Option.bind_some, eC_app, hx2, Option.bind_some]
  dsimp only
  rw [p6_nm (nmC_e n2) l2 (cw_e (cw_m hc (by first | omega | (simp only [List.length_cons, List.length_append, List.length_nil]; omega)))), Option.bind_some, eC_app]
  refine (hal _ (cO_e h) (by omega) (by unfold fuel; omega) (cw_e (cw_m hc (by first | omega | (simp only [List.length_cons, List.length_append, List.length_nil]; omega))))).trans ?_
  rw [eC_app]
  simp only [List.append_assoc, List.cons_append, List.nil_append]
end CPR
