section MRE
variable {S S' S'' : iS} {L : List Int}
/-- what the model's lower halves tell -/
def lNo (S : iS) (l : List (List Int)) : Prop := (jA S 84).getD 0 0 = l.length ∧ l.length ≤ 30 ∧ ∀ i, i < l.length → nmAt (jA S 85) (9 * i) (l.getD i []) ∧ (l.getD i []).length ≤ 8
def lHe (S : iS) (l : List (List Int × Int)) : Prop := (jA S 90).getD 0 0 = l.length ∧ l.length ≤ 3 ∧ ∀ i, i < l.length → nmAt (jA S 92) (9 * i) (l.getD i ([], 0)).1 ∧ (l.getD i ([], 0)).1.length ≤ 8 ∧ (jA S 91).getD i 0 = (l.getD i ([], 0)).2
def lCo (S : iS) (l : List (List Int)) : Prop := (jA S 97).getD 0 0 = l.length ∧ l.length ≤ 300 ∧ ∀ i, i < l.length → nmAt (jA S 98) (21 * i) (l.getD i []) ∧ (l.getD i []).length ≤ 20
def lAr (S : iS) (nh : Nat) (l : List (Int × Int × Int × List vT)) : Prop := (jA S 86).getD 0 0 = l.length ∧ l.length ≤ 40 ∧ nh ≤ 3 ∧ ∀ i, i < l.length → arAt S i (l.getD i (0, 0, 0, [])) ∧ (l.getD i (0, 0, 0, [])).2.2.2.length = nh
def lLi (S : iS) (l : List Int) : Prop := (jA S 99).getD 0 0 = l.length ∧ l.length ≤ 300 ∧ ∀ i, i < l.length → (jA S 100).getD i 0 = l.getD i 0 + 1
def lCt (S : iS) (c : Option (Int × Int)) : Prop := match c with
  | none => True
  | some c => (jA S 101).getD 0 0 = c.1 ∧ (jA S 101).getD 1 0 = c.2
def lG (S : iS) (G : gT) : Prop := lNo S (gNo G) ∧ lHe S (gHe G) ∧ lCo S (gCo G) ∧ lAr S (gHe G).length (gAr G) ∧ lLi S (gLi G) ∧ (jA S 96).getD 0 0 = gLo G ∧ lCt S (gCt G)
/-- the lower halves are the same -/
def lwS (S S' : iS) : Prop := ∀ a i, i < lw a → (jA S' a).getD i 0 = (jA S a).getD i 0
theorem lG_lw {G : gT} (h : lG S G) (hl : lwS S S') : lG S' G := by
  obtain ⟨⟨a1, a2, a3⟩, ⟨b1, b2, b3⟩, ⟨c1, c2, c3⟩, ⟨d1, d2, d0, d3⟩, ⟨e1, e2, e3⟩, f1, g1⟩ := h
  have w84 : lw 84 = 1 := rfl
  have w85 : lw 85 = 270 := rfl
  have w86 : lw 86 = 1 := rfl
  have w87 : lw 87 = 40 := rfl
  have w88 : lw 88 = 40 := rfl
  have w89 : lw 89 = 40 := rfl
  have w90 : lw 90 = 1 := rfl
  have w91 : lw 91 = 3 := rfl
  have w92 : lw 92 = 27 := rfl
  have w93 : lw 93 = 120 := rfl
  have w94 : lw 94 = 120 := rfl
  have w95 : lw 95 = 1080 := rfl
  have w96 : lw 96 = 1 := rfl
  have w97 : lw 97 = 1 := rfl
  have w98 : lw 98 = 6300 := rfl
  have w99 : lw 99 = 1 := rfl
  have w100 : lw 100 = 601 := rfl
  have w101 : lw 101 = 2 := rfl
  refine ⟨⟨by rw [hl 84 0 (by omega)]; exact a1, a2, fun i hi => ?_⟩, ⟨by rw [hl 90 0 (by omega)]; exact b1, b2, fun i hi => ?_⟩, ⟨by rw [hl 97 0 (by omega)]; exact c1, c2, fun i hi => ?_⟩, ⟨by rw [hl 86 0 (by omega)]; exact d1, d2, d0, fun i hi => ?_⟩, ⟨by rw [hl 99 0 (by omega)]; exact e1, e2, fun i hi => ?_⟩, by rw [hl 96 0 (by omega)]; exact f1, ?_⟩
  · obtain ⟨p, q⟩ := a3 i hi
    exact ⟨nmAt_eq p (fun j j1 j2 => hl 85 j (by omega)), q⟩
  · obtain ⟨p, q, r⟩ := b3 i hi
    exact ⟨nmAt_eq p (fun j j1 j2 => hl 92 j (by omega)), q, by rw [hl 91 i (by omega)]; exact r⟩
  · obtain ⟨p, q⟩ := c3 i hi
    exact ⟨nmAt_eq p (fun j j1 j2 => hl 98 j (by omega)), q⟩
  · obtain ⟨⟨p1, p2, p3, p4⟩, q⟩ := d3 i hi
    refine ⟨⟨by rw [hl 87 i (by omega)]; exact p1, by rw [hl 88 i (by omega)]; exact p2, by rw [hl 89 i (by omega)]; exact p3, fun c hc => ?_⟩, q⟩
    obtain ⟨r1, r2, r3, r4⟩ := p4 c hc
    exact ⟨by rw [hl 93 _ (by omega)]; exact r1, by rw [hl 94 _ (by omega)]; exact r2, nmAt_eq r3 (fun j j1 j2 => hl 95 j (by omega)), r4⟩
  · rw [hl 100 i (by omega)]; exact e3 i hi
  · cases hc : gCt G with
    | none => trivial
    | some c =>
      rw [hc] at g1
      exact ⟨by rw [hl 101 0 (by omega)]; exact g1.1, by rw [hl 101 1 (by omega)]; exact g1.2⟩
theorem stG_he {G : gT} {i : Nat} (hi : i < (gHe G).length) : (gHe (stG G)).getD i ([], 0) = (((gHe G).getD i ([], 0)).1, stK G i ((gHe G).getD i ([], 0)).2) := by
  show ((gHe G).mapIdx _).getD i ([], 0) = _
  rw [List.getD_eq_getElem?_getD, List.getElem?_mapIdx, List.getElem?_eq_getElem hi, List.getD_eq_getElem?_getD, List.getElem?_eq_getElem hi]
  rfl
theorem stG_len {G : gT} : (gHe (stG G)).length = (gHe G).length := List.length_mapIdx
theorem nmAt_sh {L L' : List Int} {p h m : Nat} {ns : List Int} (hn : nmAt L (h + p) ns) (he : ∀ j, j < m → L'.getD j 0 = L.getD (h + j) 0) (hm : p + ns.length < m) : nmAt L' p ns := by
  refine ⟨(he p (by omega)).trans hn.1, fun j hj => ?_⟩
  rw [he (p + 1 + j) (by omega), show h + (p + 1 + j) = h + p + 1 + j by omega]
  exact hn.2 j hj
/-- the halves are taken over -/
theorem lG_take {G : gT} {U V T : iS} (h : mG U G) (hA : ∀ a, a ≠ 91 → jA V a = jA U a) (hw : wfG G) (h91 : ∀ i, i < (gHe G).length → (jA V 91).getD (3 + i) 0 = stK G i ((gHe G).getD i ([], 0)).2) (hC : ∀ a, isC a → (jA T a).getD 0 0 = (jA V a).getD 1 0) (hO : (jA T 101).getD 0 0 = (jA V 101).getD 2 0 ∧ (jA T 101).getD 1 0 = (jA V 101).getD 3 0) (hH : ∀ a, isH a → ∀ i, i < tkH a → (jA T a).getD i 0 = (jA V a).getD (tkH a + i) 0) : lG T (stG G) := by
  obtain ⟨⟨a1, a2, a3⟩, ⟨b1, b2, b3⟩, ⟨c1, c3⟩, ⟨d1, d2, d3⟩, ⟨e1, e3⟩, f1, g1, _⟩ := h
  obtain ⟨w1, w2, w3, w4, w5, w6⟩ := hw
  have h85 := hH 85 (by omega)
  have h87 := hH 87 (by omega)
  have h88 := hH 88 (by omega)
  have h89 := hH 89 (by omega)
  have h91' := hH 91 (by omega)
  have h92 := hH 92 (by omega)
  have h93 := hH 93 (by omega)
  have h94 := hH 94 (by omega)
  have h95 := hH 95 (by omega)
  have h98 := hH 98 (by omega)
  have h100 := hH 100 (by omega)
  rw [show tkH 85 = 270 from rfl, hA 85 (by decide)] at h85
  rw [show tkH 87 = 40 from rfl, hA 87 (by decide)] at h87
  rw [show tkH 88 = 40 from rfl, hA 88 (by decide)] at h88
  rw [show tkH 89 = 40 from rfl, hA 89 (by decide)] at h89
  rw [show tkH 91 = 3 from rfl] at h91'
  rw [show tkH 92 = 27 from rfl, hA 92 (by decide)] at h92
  rw [show tkH 93 = 120 from rfl, hA 93 (by decide)] at h93
  rw [show tkH 94 = 120 from rfl, hA 94 (by decide)] at h94
  rw [show tkH 95 = 1080 from rfl, hA 95 (by decide)] at h95
  rw [show tkH 98 = 6300 from rfl, hA 98 (by decide)] at h98
  rw [show tkH 100 = 601 from rfl, hA 100 (by decide)] at h100
  refine ⟨⟨by rw [hC 84 (by omega), hA 84 (by decide)]; exact a1, a2, fun i hi => ?_⟩, ⟨by rw [hC 90 (by omega), hA 90 (by decide), stG_len]; exact b1, by rw [stG_len]; exact b2, fun i hi => ?_⟩, ⟨by rw [hC 97 (by omega), hA 97 (by decide)]; exact c1, w5, fun i hi => ?_⟩, ⟨by rw [hC 86 (by omega), hA 86 (by decide)]; exact d1, d2, by rw [stG_len]; exact b2, fun i hi => ?_⟩, ⟨by rw [hC 99 (by omega), hA 99 (by decide)]; exact e1, w6, fun i hi => ?_⟩, by rw [hC 96 (by omega), hA 96 (by decide)]; exact f1, ?_⟩
  · obtain ⟨p, q⟩ := a3 i hi
    have hi' : i < (gNo G).length := hi
    exact ⟨nmAt_sh p h85 (by show 9 * i + ((gNo G).getD i []).length < 270; omega), q⟩
  · rw [stG_len] at hi
    obtain ⟨p, q, r, _, _⟩ := b3 i hi
    rw [stG_he hi]
    exact ⟨nmAt_sh p h92 (by show 9 * i + ((gHe G).getD i ([], 0)).1.length < 27; omega), q, by rw [h91' i (by omega)]; exact h91 i hi⟩
  · obtain ⟨p, q⟩ := c3 i hi
    have hi' : i < (gCo G).length := hi
    exact ⟨nmAt_sh p h98 (by show 21 * i + ((gCo G).getD i []).length < 6300; omega), q⟩
  · have hi' : i < (gAr G).length := hi
    obtain ⟨⟨p1, p2, p3, p4⟩, q⟩ := d3 i hi'
    refine ⟨⟨by rw [h87 i (by omega)]; exact p1, by rw [h88 i (by omega)]; exact p2, by rw [h89 i (by omega)]; exact p3, fun c hc => ?_⟩, by rw [stG_len]; exact q⟩
    have hc' : c < ((gAr G).getD i (0, 0, 0, [])).2.2.2.length := hc
    obtain ⟨r1, r2, r3, r4⟩ := p4 c hc'
    rw [show 3 * (40 + i) + c = 120 + (3 * i + c) by omega] at r1 r2 r3
    rw [show 9 * (120 + (3 * i + c)) = 1080 + 9 * (3 * i + c) by omega] at r3
    exact ⟨by rw [h93 _ (by omega)]; exact r1, by rw [h94 _ (by omega)]; exact r2, nmAt_sh r3 h95 (by show 9 * (3 * i + c) + (((gAr G).getD i (0, 0, 0, [])).2.2.2.getD c (0, 0, [])).2.2.length < 1080; omega), r4⟩
  · have hi' : i < (gLi G).length := hi
    rw [h100 i (by omega)]; exact e3 i hi'
  · cases hc : gCt G with
    | none => show lCt T (gCt G); rw [hc]; trivial
    | some c =>
      rw [hc] at g1
      show lCt T (gCt G)
      rw [hc]
      exact ⟨by rw [hO.1, hA 101 (by decide)]; exact g1.2.1, by rw [hO.2, hA 101 (by decide)]; exact g1.2.2.1⟩
/-- the fields that a read leaves -/
abbrev FE (f : Nat) : Prop := f = 0 ∨ f = 2 ∨ f = 4 ∨ f = 5 ∨ f = 6 ∨ FQ f
theorem ne_or {P : Nat → Prop} {a f g : Nat} (q : ¬ (a = 82 ∧ P f)) (hg : P g) : a ≠ 82 ∨ f ≠ g := by
  by_cases e : a = 82
  · right; intro e6; subst e6; exact q ⟨e, hg⟩
  · exact .inl e
/-- behind a FAULT -/
theorem v7_202 (v : vL S) (f0 : 0 ≤ jI S 82 29) (f1 : jI S 82 29 ≤ 600) {l1 t : Int} : ∃ x, j_X7_read_202 l1 t (kI S 82 2 0) = some (-10 - jI S 82 30, kI (kI (kI S 82 2 0) 82 4 t) 82 5 x) := by
  obtain ⟨⟨z, b1, b2, b3, b4⟩, c1, c2, c3, c4, c5⟩ := v
  refine ⟨jI S 82 31 - jI S 82 29 + 1, ?_⟩
  unfold j_X7_read_202 j_X7_read_228
  refine it (show ¬ jI S 82 30 = 0 from c1) (it (show rg (jI S 82 31 - jI S 82 29) from ⟨by omega, by omega⟩) (it (show rg (jI S 82 31 - jI S 82 29 + 1) from ⟨by omega, by omega⟩) (ie (show ¬ jI S 82 30 ≤ 0 by omega) (it (show rg (-10 - jI S 82 30) from ⟨by omega, by omega⟩) rfl))))
/-- without a FAULT -/
theorem u7_202 {G : gT} (u : uM S) (hg : mG S G) (hw : wfG G) {l1 : Int} : ∃ S', j_X7_read_202 l1 (-1) (kI S 82 2 0) = some (((gAr G).length : Int), S') ∧ zS S' ∧ S'.2.2 = S.2.2 ∧ (∀ a f, ¬ (a = 82 ∧ FE f) → jI S' a f = jI S a f) ∧ jI S' 82 2 = 0 ∧ jI S' 82 6 = 1 ∧ jI S' 82 0 = jI S 82 0 ∧ (∀ a, ¬ tch a → jA S' a = jA S a) ∧ lG S' (stG G) := by
  have hg1 : mG (kI (kI (kI S 82 2 0) 82 4 (-1)) 82 5 (-1)) G := mG_fr hg (F := fun f => f = 2 ∨ f = 4 ∨ f = 5) (R := fun _ => False) (fr_trans (fr_kI (by omega)) (fr_trans (fr_kI (by omega)) (fr_kI (by omega)))) (by omega) (by omega) (fun a q => absurd q (fun q => q)) (fun q => q)
  have z1 : zS (kI (kI (kI S 82 2 0) 82 4 (-1)) 82 5 (-1)) := u.1.1
  obtain ⟨L, e1, lL, oL, nL⟩ := e7_gk z1 hg1.2.1 hg1.2.2.2.1 hw
  have z2 : zS (kA (kI (kI (kI S 82 2 0) 82 4 (-1)) 82 5 (-1)) 91 L) := zS_kA z1 lL
  obtain ⟨T, e2, zT, pT, i6, iT, cT, oT, hT, aT⟩ := e7_takeOver z2
  have l86 : (jA T 86).length = 2 := zT 86
  have hlG := lG_take (T := T) hg1 (V := kA (kI (kI (kI S 82 2 0) 82 4 (-1)) 82 5 (-1)) 91 L) (fun a ha => jA_ne ha) hw (fun i hi => by rw [jA_eq]; exact nL i hi) cT oT hT
  refine ⟨T, ?_, zT, pT, fun a f q => ?_, ?_, i6, ?_, fun a ha => ?_, hlG⟩
  · unfold j_X7_read_202 j_X7_read_228
    refine ie (nn (show jI S 82 30 = 0 from u.2.1)) (it (show jI S 82 30 ≤ 0 by have := u.2.1; omega) ?_)
    rw [e1, Option.bind_some, e2, Option.bind_some, hlG.2.2.2.1.1]
    exact it (by omega) rfl
  · rw [iT a f (by
      by_cases e : a = 82
      · right; intro e6; exact q ⟨e, by omega⟩
      · exact .inl e)]
    show jI (kI (kI (kI S 82 2 0) 82 4 (-1)) 82 5 (-1)) a f = _
    rw [jI_ne (ne_or q (by omega)), jI_ne (ne_or q (by omega)), jI_ne (ne_or q (by omega))]
  · rw [iT 82 2 (by decide)]; rfl
  · rw [iT 82 0 (by decide)]; rfl
  · rw [aT a (by omega) (by omega) (by omega), jA_ne (by omega)]
    rfl
end MRE
