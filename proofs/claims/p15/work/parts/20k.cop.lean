section COP
variable {S S' S'' : iS} {b : Bool} {No Hn Co : List (List Int)} {Hk Af At Al : List Int} {Vs : List (List Int)} {Vt Vh Li : List Int} {Lo : Int} {Ct : Option (Int × Int)} {Wa : Bool}
def ctQ (b : Bool) (S : iS) : Option (Int × Int) → Prop
  | none => jI S 80 4 = 0
  | some c => ¬ jI S 80 4 = 0 ∧ jI S (gadr b) 13 = c.1 ∧ jI S (gadr b) 14 = c.2
/-- what a graph of the class tells, list by list -/
def cH (b : Bool) (S : iS) (No Hn Co : List (List Int)) (Hk Af At Al : List Int) (Vs : List (List Int)) (Vt Vh Li : List Int) (Lo : Int) (Ct : Option (Int × Int)) (Wa : Bool) : Prop := spn S (gadr b + 3) (sg b S) No ∧ spn S (gadr b + 8) (sg b S) Hn ∧ spn S (gadr b + 13) (sg b S) Co ∧ rT S (gadr b + 18) Hk ∧ (rT S (gadr b + 20) Af ∧ rT S (gadr b + 22) At ∧ rT S (gadr b + 24) Al) ∧ (spn S (gadr b + 26) (sg b S) Vs ∧ rT S (gadr b + 31) Vt ∧ rT S (gadr b + 33) Vh) ∧ rT S (gadr b + 35) Li ∧ jI S (gadr b) 12 = Lo ∧ ctQ b S Ct ∧ jI S 80 3 = (if Wa = true then 1 else 0)
theorem cG_cH {G : gT} : cG b S G ↔ cH b S (gNo G) ((gHe G).map (fun h => h.1)) (gCo G) ((gHe G).map (fun h => h.2)) ((gAr G).map (fun x => x.1)) ((gAr G).map (fun x => x.2.1)) ((gAr G).map (fun x => x.2.2.1)) ((flV (gAr G)).map vsg) ((flV (gAr G)).map (fun v => v.1)) ((flV (gAr G)).map (fun v => v.2.1)) (gLi G) (gLo G) (gCt G) (gWa G) := by
  unfold cG cH
  cases gCt G <;> exact Iff.rfl
theorem sp_k {k : Nat} {ss : List Int} {l : List (List Int)} (h : spn S (gadr b + k) ss l) (e : ∀ a f, gadr b + k ≤ a → a ≤ gadr b + k + 4 → jI S' a f = jI S a f ∧ jA S' a = jA S a) : spn S' (gadr b + k) ss l := spn_eq h (e _ 1 (by omega) (by omega)).1 (e _ 1 (by omega) (by omega)).2 (e _ 1 (by omega) (by omega)).1 (e _ 1 (by omega) (by omega)).2 (e _ 3 (by omega) (by omega)).1
theorem rt_k {k : Nat} {l : List Int} (h : rT S (gadr b + k) l) (e : ∀ a f, gadr b + k ≤ a → a ≤ gadr b + k + 1 → jI S' a f = jI S a f ∧ jA S' a = jA S a) : rT S' (gadr b + k) l := rT_eq h (e _ 1 (by omega) (by omega)).1 (e _ 1 (by omega) (by omega)).2
theorem ct_k (e1 : jI S' 80 4 = jI S 80 4) (e2 : jI S' (gadr b) 13 = jI S (gadr b) 13) (e3 : jI S' (gadr b) 14 = jI S (gadr b) 14) (h : ctQ b S Ct) : ctQ b S' Ct := by
  cases Ct with
  | none => exact e1.trans h
  | some c => exact ⟨by rw [e1]; exact h.1, e2.trans h.2.1, e3.trans h.2.2⟩
abbrev FO (b : Bool) (k a f : Nat) : Prop := (a = gadr b + k + 1 ∧ f = 1) ∨ (a = gadr b + k + 3 ∧ f = 1) ∨ (a = gadr b + k ∧ f = 3)
abbrev RP (b : Bool) (k a : Nat) : Prop := a = gadr b + k + 2 ∨ a = gadr b + k + 4
abbrev FR (b : Bool) (k a f : Nat) : Prop := a = gadr b + k ∧ f = 1
abbrev RR (b : Bool) (k a : Nat) : Prop := a = gadr b + k + 1
theorem cH_No (z : zS S) (h : cH b S No Hn Co Hk Af At Al Vs Vt Vh Li Lo Ct Wa) {st ln : Nat} (hle : st + ln ≤ (sg b S).length) (hc : No.length < 30) : ∃ S', j_X4_add (gadr b + 3) st ln S = some S' ∧ zS S' ∧ frC (FO b 3) (RP b 3) S S' ∧ sg b S' = sg b S ∧ cH b S' (No ++ [((sg b S).drop st).take ln]) Hn Co Hk Af At Al Vs Vt Vh Li Lo Ct Wa := by
  have hg := g_or b
  obtain ⟨h1, h2, h3, h4, ⟨h5, h6, h7⟩, ⟨h8, h9, h10⟩, h11, h12, h13, h14⟩ := h
  have l1 : (jA S (gadr b + 3 + 2)).length = 30 := by
    rw [z (gadr b + 3 + 2)]
    cases b <;> rfl
  have l2 : (jA S (gadr b + 3 + 4)).length = 30 := by
    rw [z (gadr b + 3 + 4)]
    cases b <;> rfl
  obtain ⟨S', e, z', p, f⟩ := spn_add z h1 hle (by omega) (by omega)
  have hs : sg b S' = sg b S := by
    unfold sg gv
    rw [f.1 (gadr b + 1) 1 (by omega), f.2.1 (gadr b + 2) (by omega)]
  refine ⟨S', e, z', f, hs, ?_⟩
  unfold cH
  rw [hs]
  exact ⟨p, sp_k h2 (fun a q p1 p2 => ⟨f.1 a q (by omega), f.2.1 a (by omega)⟩), sp_k h3 (fun a q p1 p2 => ⟨f.1 a q (by omega), f.2.1 a (by omega)⟩), rt_k h4 (fun a q p1 p2 => ⟨f.1 a q (by omega), f.2.1 a (by omega)⟩), ⟨rt_k h5 (fun a q p1 p2 => ⟨f.1 a q (by omega), f.2.1 a (by omega)⟩), rt_k h6 (fun a q p1 p2 => ⟨f.1 a q (by omega), f.2.1 a (by omega)⟩), rt_k h7 (fun a q p1 p2 => ⟨f.1 a q (by omega), f.2.1 a (by omega)⟩)⟩, ⟨sp_k h8 (fun a q p1 p2 => ⟨f.1 a q (by omega), f.2.1 a (by omega)⟩), rt_k h9 (fun a q p1 p2 => ⟨f.1 a q (by omega), f.2.1 a (by omega)⟩), rt_k h10 (fun a q p1 p2 => ⟨f.1 a q (by omega), f.2.1 a (by omega)⟩)⟩, rt_k h11 (fun a q p1 p2 => ⟨f.1 a q (by omega), f.2.1 a (by omega)⟩), (f.1 (gadr b) 12 (by omega)).trans h12, ct_k (f.1 80 4 (by omega)) (f.1 (gadr b) 13 (by omega)) (f.1 (gadr b) 14 (by omega)) h13, (f.1 80 3 (by omega)).trans h14⟩
theorem cH_Hn (z : zS S) (h : cH b S No Hn Co Hk Af At Al Vs Vt Vh Li Lo Ct Wa) {st ln : Nat} (hle : st + ln ≤ (sg b S).length) (hc : Hn.length < 3) : ∃ S', j_X4_add (gadr b + 8) st ln S = some S' ∧ zS S' ∧ frC (FO b 8) (RP b 8) S S' ∧ sg b S' = sg b S ∧ cH b S' No (Hn ++ [((sg b S).drop st).take ln]) Co Hk Af At Al Vs Vt Vh Li Lo Ct Wa := by
  have hg := g_or b
  obtain ⟨h1, h2, h3, h4, ⟨h5, h6, h7⟩, ⟨h8, h9, h10⟩, h11, h12, h13, h14⟩ := h
  have l1 : (jA S (gadr b + 8 + 2)).length = 3 := by
    rw [z (gadr b + 8 + 2)]
    cases b <;> rfl
  have l2 : (jA S (gadr b + 8 + 4)).length = 3 := by
    rw [z (gadr b + 8 + 4)]
    cases b <;> rfl
  obtain ⟨S', e, z', p, f⟩ := spn_add z h2 hle (by omega) (by omega)
  have hs : sg b S' = sg b S := by
    unfold sg gv
    rw [f.1 (gadr b + 1) 1 (by omega), f.2.1 (gadr b + 2) (by omega)]
  refine ⟨S', e, z', f, hs, ?_⟩
  unfold cH
  rw [hs]
  exact ⟨sp_k h1 (fun a q p1 p2 => ⟨f.1 a q (by omega), f.2.1 a (by omega)⟩), p, sp_k h3 (fun a q p1 p2 => ⟨f.1 a q (by omega), f.2.1 a (by omega)⟩), rt_k h4 (fun a q p1 p2 => ⟨f.1 a q (by omega), f.2.1 a (by omega)⟩), ⟨rt_k h5 (fun a q p1 p2 => ⟨f.1 a q (by omega), f.2.1 a (by omega)⟩), rt_k h6 (fun a q p1 p2 => ⟨f.1 a q (by omega), f.2.1 a (by omega)⟩), rt_k h7 (fun a q p1 p2 => ⟨f.1 a q (by omega), f.2.1 a (by omega)⟩)⟩, ⟨sp_k h8 (fun a q p1 p2 => ⟨f.1 a q (by omega), f.2.1 a (by omega)⟩), rt_k h9 (fun a q p1 p2 => ⟨f.1 a q (by omega), f.2.1 a (by omega)⟩), rt_k h10 (fun a q p1 p2 => ⟨f.1 a q (by omega), f.2.1 a (by omega)⟩)⟩, rt_k h11 (fun a q p1 p2 => ⟨f.1 a q (by omega), f.2.1 a (by omega)⟩), (f.1 (gadr b) 12 (by omega)).trans h12, ct_k (f.1 80 4 (by omega)) (f.1 (gadr b) 13 (by omega)) (f.1 (gadr b) 14 (by omega)) h13, (f.1 80 3 (by omega)).trans h14⟩
theorem cH_Co (z : zS S) (h : cH b S No Hn Co Hk Af At Al Vs Vt Vh Li Lo Ct Wa) {st ln : Nat} (hle : st + ln ≤ (sg b S).length) (hc : Co.length < 300) : ∃ S', j_X4_add (gadr b + 13) st ln S = some S' ∧ zS S' ∧ frC (FO b 13) (RP b 13) S S' ∧ sg b S' = sg b S ∧ cH b S' No Hn (Co ++ [((sg b S).drop st).take ln]) Hk Af At Al Vs Vt Vh Li Lo Ct Wa := by
  have hg := g_or b
  obtain ⟨h1, h2, h3, h4, ⟨h5, h6, h7⟩, ⟨h8, h9, h10⟩, h11, h12, h13, h14⟩ := h
  have l1 : (jA S (gadr b + 13 + 2)).length = 300 := by
    rw [z (gadr b + 13 + 2)]
    cases b <;> rfl
  have l2 : (jA S (gadr b + 13 + 4)).length = 300 := by
    rw [z (gadr b + 13 + 4)]
    cases b <;> rfl
  obtain ⟨S', e, z', p, f⟩ := spn_add z h3 hle (by omega) (by omega)
  have hs : sg b S' = sg b S := by
    unfold sg gv
    rw [f.1 (gadr b + 1) 1 (by omega), f.2.1 (gadr b + 2) (by omega)]
  refine ⟨S', e, z', f, hs, ?_⟩
  unfold cH
  rw [hs]
  exact ⟨sp_k h1 (fun a q p1 p2 => ⟨f.1 a q (by omega), f.2.1 a (by omega)⟩), sp_k h2 (fun a q p1 p2 => ⟨f.1 a q (by omega), f.2.1 a (by omega)⟩), p, rt_k h4 (fun a q p1 p2 => ⟨f.1 a q (by omega), f.2.1 a (by omega)⟩), ⟨rt_k h5 (fun a q p1 p2 => ⟨f.1 a q (by omega), f.2.1 a (by omega)⟩), rt_k h6 (fun a q p1 p2 => ⟨f.1 a q (by omega), f.2.1 a (by omega)⟩), rt_k h7 (fun a q p1 p2 => ⟨f.1 a q (by omega), f.2.1 a (by omega)⟩)⟩, ⟨sp_k h8 (fun a q p1 p2 => ⟨f.1 a q (by omega), f.2.1 a (by omega)⟩), rt_k h9 (fun a q p1 p2 => ⟨f.1 a q (by omega), f.2.1 a (by omega)⟩), rt_k h10 (fun a q p1 p2 => ⟨f.1 a q (by omega), f.2.1 a (by omega)⟩)⟩, rt_k h11 (fun a q p1 p2 => ⟨f.1 a q (by omega), f.2.1 a (by omega)⟩), (f.1 (gadr b) 12 (by omega)).trans h12, ct_k (f.1 80 4 (by omega)) (f.1 (gadr b) 13 (by omega)) (f.1 (gadr b) 14 (by omega)) h13, (f.1 80 3 (by omega)).trans h14⟩
theorem cH_Hk (z : zS S) (h : cH b S No Hn Co Hk Af At Al Vs Vt Vh Li Lo Ct Wa) {x : Int} (hc : Hk.length < 3) : ∃ S', j_X3_add (gadr b + 18) x S = some S' ∧ zS S' ∧ frC (FR b 18) (RR b 18) S S' ∧ sg b S' = sg b S ∧ cH b S' No Hn Co (Hk ++ [x]) Af At Al Vs Vt Vh Li Lo Ct Wa := by
  have hg := g_or b
  obtain ⟨h1, h2, h3, h4, ⟨h5, h6, h7⟩, ⟨h8, h9, h10⟩, h11, h12, h13, h14⟩ := h
  have l1 : (jA S (gadr b + 18 + 1)).length = 3 := by
    rw [z (gadr b + 18 + 1)]
    cases b <;> rfl
  obtain ⟨e, p⟩ := rT_add (x := x) z h4 (by omega)
  have f : frC (FR b 18) (RR b 18) S (ga S (gadr b + 18) 1 (gadr b + 18 + 1) x) := frC_ga ⟨rfl, rfl⟩ rfl
  have hs : sg b (ga S (gadr b + 18) 1 (gadr b + 18 + 1) x) = sg b S := by
    unfold sg gv
    rw [f.1 (gadr b + 1) 1 (by omega), f.2.1 (gadr b + 2) (by omega)]
  refine ⟨_, e, ga_zS z, f, hs, ?_⟩
  unfold cH
  rw [hs]
  exact ⟨sp_k h1 (fun a q p1 p2 => ⟨f.1 a q (by omega), f.2.1 a (by omega)⟩), sp_k h2 (fun a q p1 p2 => ⟨f.1 a q (by omega), f.2.1 a (by omega)⟩), sp_k h3 (fun a q p1 p2 => ⟨f.1 a q (by omega), f.2.1 a (by omega)⟩), p, ⟨rt_k h5 (fun a q p1 p2 => ⟨f.1 a q (by omega), f.2.1 a (by omega)⟩), rt_k h6 (fun a q p1 p2 => ⟨f.1 a q (by omega), f.2.1 a (by omega)⟩), rt_k h7 (fun a q p1 p2 => ⟨f.1 a q (by omega), f.2.1 a (by omega)⟩)⟩, ⟨sp_k h8 (fun a q p1 p2 => ⟨f.1 a q (by omega), f.2.1 a (by omega)⟩), rt_k h9 (fun a q p1 p2 => ⟨f.1 a q (by omega), f.2.1 a (by omega)⟩), rt_k h10 (fun a q p1 p2 => ⟨f.1 a q (by omega), f.2.1 a (by omega)⟩)⟩, rt_k h11 (fun a q p1 p2 => ⟨f.1 a q (by omega), f.2.1 a (by omega)⟩), (f.1 (gadr b) 12 (by omega)).trans h12, ct_k (f.1 80 4 (by omega)) (f.1 (gadr b) 13 (by omega)) (f.1 (gadr b) 14 (by omega)) h13, (f.1 80 3 (by omega)).trans h14⟩
theorem cH_Af (z : zS S) (h : cH b S No Hn Co Hk Af At Al Vs Vt Vh Li Lo Ct Wa) {x : Int} (hc : Af.length < 40) : ∃ S', j_X3_add (gadr b + 20) x S = some S' ∧ zS S' ∧ frC (FR b 20) (RR b 20) S S' ∧ sg b S' = sg b S ∧ cH b S' No Hn Co Hk (Af ++ [x]) At Al Vs Vt Vh Li Lo Ct Wa := by
  have hg := g_or b
  obtain ⟨h1, h2, h3, h4, ⟨h5, h6, h7⟩, ⟨h8, h9, h10⟩, h11, h12, h13, h14⟩ := h
  have l1 : (jA S (gadr b + 20 + 1)).length = 40 := by
    rw [z (gadr b + 20 + 1)]
    cases b <;> rfl
  obtain ⟨e, p⟩ := rT_add (x := x) z h5 (by omega)
  have f : frC (FR b 20) (RR b 20) S (ga S (gadr b + 20) 1 (gadr b + 20 + 1) x) := frC_ga ⟨rfl, rfl⟩ rfl
  have hs : sg b (ga S (gadr b + 20) 1 (gadr b + 20 + 1) x) = sg b S := by
    unfold sg gv
    rw [f.1 (gadr b + 1) 1 (by omega), f.2.1 (gadr b + 2) (by omega)]
  refine ⟨_, e, ga_zS z, f, hs, ?_⟩
  unfold cH
  rw [hs]
  exact ⟨sp_k h1 (fun a q p1 p2 => ⟨f.1 a q (by omega), f.2.1 a (by omega)⟩), sp_k h2 (fun a q p1 p2 => ⟨f.1 a q (by omega), f.2.1 a (by omega)⟩), sp_k h3 (fun a q p1 p2 => ⟨f.1 a q (by omega), f.2.1 a (by omega)⟩), rt_k h4 (fun a q p1 p2 => ⟨f.1 a q (by omega), f.2.1 a (by omega)⟩), ⟨p, rt_k h6 (fun a q p1 p2 => ⟨f.1 a q (by omega), f.2.1 a (by omega)⟩), rt_k h7 (fun a q p1 p2 => ⟨f.1 a q (by omega), f.2.1 a (by omega)⟩)⟩, ⟨sp_k h8 (fun a q p1 p2 => ⟨f.1 a q (by omega), f.2.1 a (by omega)⟩), rt_k h9 (fun a q p1 p2 => ⟨f.1 a q (by omega), f.2.1 a (by omega)⟩), rt_k h10 (fun a q p1 p2 => ⟨f.1 a q (by omega), f.2.1 a (by omega)⟩)⟩, rt_k h11 (fun a q p1 p2 => ⟨f.1 a q (by omega), f.2.1 a (by omega)⟩), (f.1 (gadr b) 12 (by omega)).trans h12, ct_k (f.1 80 4 (by omega)) (f.1 (gadr b) 13 (by omega)) (f.1 (gadr b) 14 (by omega)) h13, (f.1 80 3 (by omega)).trans h14⟩
theorem cH_At (z : zS S) (h : cH b S No Hn Co Hk Af At Al Vs Vt Vh Li Lo Ct Wa) {x : Int} (hc : At.length < 40) : ∃ S', j_X3_add (gadr b + 22) x S = some S' ∧ zS S' ∧ frC (FR b 22) (RR b 22) S S' ∧ sg b S' = sg b S ∧ cH b S' No Hn Co Hk Af (At ++ [x]) Al Vs Vt Vh Li Lo Ct Wa := by
  have hg := g_or b
  obtain ⟨h1, h2, h3, h4, ⟨h5, h6, h7⟩, ⟨h8, h9, h10⟩, h11, h12, h13, h14⟩ := h
  have l1 : (jA S (gadr b + 22 + 1)).length = 40 := by
    rw [z (gadr b + 22 + 1)]
    cases b <;> rfl
  obtain ⟨e, p⟩ := rT_add (x := x) z h6 (by omega)
  have f : frC (FR b 22) (RR b 22) S (ga S (gadr b + 22) 1 (gadr b + 22 + 1) x) := frC_ga ⟨rfl, rfl⟩ rfl
  have hs : sg b (ga S (gadr b + 22) 1 (gadr b + 22 + 1) x) = sg b S := by
    unfold sg gv
    rw [f.1 (gadr b + 1) 1 (by omega), f.2.1 (gadr b + 2) (by omega)]
  refine ⟨_, e, ga_zS z, f, hs, ?_⟩
  unfold cH
  rw [hs]
  exact ⟨sp_k h1 (fun a q p1 p2 => ⟨f.1 a q (by omega), f.2.1 a (by omega)⟩), sp_k h2 (fun a q p1 p2 => ⟨f.1 a q (by omega), f.2.1 a (by omega)⟩), sp_k h3 (fun a q p1 p2 => ⟨f.1 a q (by omega), f.2.1 a (by omega)⟩), rt_k h4 (fun a q p1 p2 => ⟨f.1 a q (by omega), f.2.1 a (by omega)⟩), ⟨rt_k h5 (fun a q p1 p2 => ⟨f.1 a q (by omega), f.2.1 a (by omega)⟩), p, rt_k h7 (fun a q p1 p2 => ⟨f.1 a q (by omega), f.2.1 a (by omega)⟩)⟩, ⟨sp_k h8 (fun a q p1 p2 => ⟨f.1 a q (by omega), f.2.1 a (by omega)⟩), rt_k h9 (fun a q p1 p2 => ⟨f.1 a q (by omega), f.2.1 a (by omega)⟩), rt_k h10 (fun a q p1 p2 => ⟨f.1 a q (by omega), f.2.1 a (by omega)⟩)⟩, rt_k h11 (fun a q p1 p2 => ⟨f.1 a q (by omega), f.2.1 a (by omega)⟩), (f.1 (gadr b) 12 (by omega)).trans h12, ct_k (f.1 80 4 (by omega)) (f.1 (gadr b) 13 (by omega)) (f.1 (gadr b) 14 (by omega)) h13, (f.1 80 3 (by omega)).trans h14⟩
theorem cH_Al (z : zS S) (h : cH b S No Hn Co Hk Af At Al Vs Vt Vh Li Lo Ct Wa) {x : Int} (hc : Al.length < 40) : ∃ S', j_X3_add (gadr b + 24) x S = some S' ∧ zS S' ∧ frC (FR b 24) (RR b 24) S S' ∧ sg b S' = sg b S ∧ cH b S' No Hn Co Hk Af At (Al ++ [x]) Vs Vt Vh Li Lo Ct Wa := by
  have hg := g_or b
  obtain ⟨h1, h2, h3, h4, ⟨h5, h6, h7⟩, ⟨h8, h9, h10⟩, h11, h12, h13, h14⟩ := h
  have l1 : (jA S (gadr b + 24 + 1)).length = 40 := by
    rw [z (gadr b + 24 + 1)]
    cases b <;> rfl
  obtain ⟨e, p⟩ := rT_add (x := x) z h7 (by omega)
  have f : frC (FR b 24) (RR b 24) S (ga S (gadr b + 24) 1 (gadr b + 24 + 1) x) := frC_ga ⟨rfl, rfl⟩ rfl
  have hs : sg b (ga S (gadr b + 24) 1 (gadr b + 24 + 1) x) = sg b S := by
    unfold sg gv
    rw [f.1 (gadr b + 1) 1 (by omega), f.2.1 (gadr b + 2) (by omega)]
  refine ⟨_, e, ga_zS z, f, hs, ?_⟩
  unfold cH
  rw [hs]
  exact ⟨sp_k h1 (fun a q p1 p2 => ⟨f.1 a q (by omega), f.2.1 a (by omega)⟩), sp_k h2 (fun a q p1 p2 => ⟨f.1 a q (by omega), f.2.1 a (by omega)⟩), sp_k h3 (fun a q p1 p2 => ⟨f.1 a q (by omega), f.2.1 a (by omega)⟩), rt_k h4 (fun a q p1 p2 => ⟨f.1 a q (by omega), f.2.1 a (by omega)⟩), ⟨rt_k h5 (fun a q p1 p2 => ⟨f.1 a q (by omega), f.2.1 a (by omega)⟩), rt_k h6 (fun a q p1 p2 => ⟨f.1 a q (by omega), f.2.1 a (by omega)⟩), p⟩, ⟨sp_k h8 (fun a q p1 p2 => ⟨f.1 a q (by omega), f.2.1 a (by omega)⟩), rt_k h9 (fun a q p1 p2 => ⟨f.1 a q (by omega), f.2.1 a (by omega)⟩), rt_k h10 (fun a q p1 p2 => ⟨f.1 a q (by omega), f.2.1 a (by omega)⟩)⟩, rt_k h11 (fun a q p1 p2 => ⟨f.1 a q (by omega), f.2.1 a (by omega)⟩), (f.1 (gadr b) 12 (by omega)).trans h12, ct_k (f.1 80 4 (by omega)) (f.1 (gadr b) 13 (by omega)) (f.1 (gadr b) 14 (by omega)) h13, (f.1 80 3 (by omega)).trans h14⟩
theorem cH_Vs (z : zS S) (h : cH b S No Hn Co Hk Af At Al Vs Vt Vh Li Lo Ct Wa) {st ln : Nat} (hle : st + ln ≤ (sg b S).length) (hc : Vs.length < 123) : ∃ S', j_X4_add (gadr b + 26) st ln S = some S' ∧ zS S' ∧ frC (FO b 26) (RP b 26) S S' ∧ sg b S' = sg b S ∧ cH b S' No Hn Co Hk Af At Al (Vs ++ [((sg b S).drop st).take ln]) Vt Vh Li Lo Ct Wa := by
  have hg := g_or b
  obtain ⟨h1, h2, h3, h4, ⟨h5, h6, h7⟩, ⟨h8, h9, h10⟩, h11, h12, h13, h14⟩ := h
  have l1 : (jA S (gadr b + 26 + 2)).length = 123 := by
    rw [z (gadr b + 26 + 2)]
    cases b <;> rfl
  have l2 : (jA S (gadr b + 26 + 4)).length = 123 := by
    rw [z (gadr b + 26 + 4)]
    cases b <;> rfl
  obtain ⟨S', e, z', p, f⟩ := spn_add z h8 hle (by omega) (by omega)
  have hs : sg b S' = sg b S := by
    unfold sg gv
    rw [f.1 (gadr b + 1) 1 (by omega), f.2.1 (gadr b + 2) (by omega)]
  refine ⟨S', e, z', f, hs, ?_⟩
  unfold cH
  rw [hs]
  exact ⟨sp_k h1 (fun a q p1 p2 => ⟨f.1 a q (by omega), f.2.1 a (by omega)⟩), sp_k h2 (fun a q p1 p2 => ⟨f.1 a q (by omega), f.2.1 a (by omega)⟩), sp_k h3 (fun a q p1 p2 => ⟨f.1 a q (by omega), f.2.1 a (by omega)⟩), rt_k h4 (fun a q p1 p2 => ⟨f.1 a q (by omega), f.2.1 a (by omega)⟩), ⟨rt_k h5 (fun a q p1 p2 => ⟨f.1 a q (by omega), f.2.1 a (by omega)⟩), rt_k h6 (fun a q p1 p2 => ⟨f.1 a q (by omega), f.2.1 a (by omega)⟩), rt_k h7 (fun a q p1 p2 => ⟨f.1 a q (by omega), f.2.1 a (by omega)⟩)⟩, ⟨p, rt_k h9 (fun a q p1 p2 => ⟨f.1 a q (by omega), f.2.1 a (by omega)⟩), rt_k h10 (fun a q p1 p2 => ⟨f.1 a q (by omega), f.2.1 a (by omega)⟩)⟩, rt_k h11 (fun a q p1 p2 => ⟨f.1 a q (by omega), f.2.1 a (by omega)⟩), (f.1 (gadr b) 12 (by omega)).trans h12, ct_k (f.1 80 4 (by omega)) (f.1 (gadr b) 13 (by omega)) (f.1 (gadr b) 14 (by omega)) h13, (f.1 80 3 (by omega)).trans h14⟩
theorem cH_Vt (z : zS S) (h : cH b S No Hn Co Hk Af At Al Vs Vt Vh Li Lo Ct Wa) {x : Int} (hc : Vt.length < 123) : ∃ S', j_X3_add (gadr b + 31) x S = some S' ∧ zS S' ∧ frC (FR b 31) (RR b 31) S S' ∧ sg b S' = sg b S ∧ cH b S' No Hn Co Hk Af At Al Vs (Vt ++ [x]) Vh Li Lo Ct Wa := by
  have hg := g_or b
  obtain ⟨h1, h2, h3, h4, ⟨h5, h6, h7⟩, ⟨h8, h9, h10⟩, h11, h12, h13, h14⟩ := h
  have l1 : (jA S (gadr b + 31 + 1)).length = 123 := by
    rw [z (gadr b + 31 + 1)]
    cases b <;> rfl
  obtain ⟨e, p⟩ := rT_add (x := x) z h9 (by omega)
  have f : frC (FR b 31) (RR b 31) S (ga S (gadr b + 31) 1 (gadr b + 31 + 1) x) := frC_ga ⟨rfl, rfl⟩ rfl
  have hs : sg b (ga S (gadr b + 31) 1 (gadr b + 31 + 1) x) = sg b S := by
    unfold sg gv
    rw [f.1 (gadr b + 1) 1 (by omega), f.2.1 (gadr b + 2) (by omega)]
  refine ⟨_, e, ga_zS z, f, hs, ?_⟩
  unfold cH
  rw [hs]
  exact ⟨sp_k h1 (fun a q p1 p2 => ⟨f.1 a q (by omega), f.2.1 a (by omega)⟩), sp_k h2 (fun a q p1 p2 => ⟨f.1 a q (by omega), f.2.1 a (by omega)⟩), sp_k h3 (fun a q p1 p2 => ⟨f.1 a q (by omega), f.2.1 a (by omega)⟩), rt_k h4 (fun a q p1 p2 => ⟨f.1 a q (by omega), f.2.1 a (by omega)⟩), ⟨rt_k h5 (fun a q p1 p2 => ⟨f.1 a q (by omega), f.2.1 a (by omega)⟩), rt_k h6 (fun a q p1 p2 => ⟨f.1 a q (by omega), f.2.1 a (by omega)⟩), rt_k h7 (fun a q p1 p2 => ⟨f.1 a q (by omega), f.2.1 a (by omega)⟩)⟩, ⟨sp_k h8 (fun a q p1 p2 => ⟨f.1 a q (by omega), f.2.1 a (by omega)⟩), p, rt_k h10 (fun a q p1 p2 => ⟨f.1 a q (by omega), f.2.1 a (by omega)⟩)⟩, rt_k h11 (fun a q p1 p2 => ⟨f.1 a q (by omega), f.2.1 a (by omega)⟩), (f.1 (gadr b) 12 (by omega)).trans h12, ct_k (f.1 80 4 (by omega)) (f.1 (gadr b) 13 (by omega)) (f.1 (gadr b) 14 (by omega)) h13, (f.1 80 3 (by omega)).trans h14⟩
theorem cH_Vh (z : zS S) (h : cH b S No Hn Co Hk Af At Al Vs Vt Vh Li Lo Ct Wa) {x : Int} (hc : Vh.length < 123) : ∃ S', j_X3_add (gadr b + 33) x S = some S' ∧ zS S' ∧ frC (FR b 33) (RR b 33) S S' ∧ sg b S' = sg b S ∧ cH b S' No Hn Co Hk Af At Al Vs Vt (Vh ++ [x]) Li Lo Ct Wa := by
  have hg := g_or b
  obtain ⟨h1, h2, h3, h4, ⟨h5, h6, h7⟩, ⟨h8, h9, h10⟩, h11, h12, h13, h14⟩ := h
  have l1 : (jA S (gadr b + 33 + 1)).length = 123 := by
    rw [z (gadr b + 33 + 1)]
    cases b <;> rfl
  obtain ⟨e, p⟩ := rT_add (x := x) z h10 (by omega)
  have f : frC (FR b 33) (RR b 33) S (ga S (gadr b + 33) 1 (gadr b + 33 + 1) x) := frC_ga ⟨rfl, rfl⟩ rfl
  have hs : sg b (ga S (gadr b + 33) 1 (gadr b + 33 + 1) x) = sg b S := by
    unfold sg gv
    rw [f.1 (gadr b + 1) 1 (by omega), f.2.1 (gadr b + 2) (by omega)]
  refine ⟨_, e, ga_zS z, f, hs, ?_⟩
  unfold cH
  rw [hs]
  exact ⟨sp_k h1 (fun a q p1 p2 => ⟨f.1 a q (by omega), f.2.1 a (by omega)⟩), sp_k h2 (fun a q p1 p2 => ⟨f.1 a q (by omega), f.2.1 a (by omega)⟩), sp_k h3 (fun a q p1 p2 => ⟨f.1 a q (by omega), f.2.1 a (by omega)⟩), rt_k h4 (fun a q p1 p2 => ⟨f.1 a q (by omega), f.2.1 a (by omega)⟩), ⟨rt_k h5 (fun a q p1 p2 => ⟨f.1 a q (by omega), f.2.1 a (by omega)⟩), rt_k h6 (fun a q p1 p2 => ⟨f.1 a q (by omega), f.2.1 a (by omega)⟩), rt_k h7 (fun a q p1 p2 => ⟨f.1 a q (by omega), f.2.1 a (by omega)⟩)⟩, ⟨sp_k h8 (fun a q p1 p2 => ⟨f.1 a q (by omega), f.2.1 a (by omega)⟩), rt_k h9 (fun a q p1 p2 => ⟨f.1 a q (by omega), f.2.1 a (by omega)⟩), p⟩, rt_k h11 (fun a q p1 p2 => ⟨f.1 a q (by omega), f.2.1 a (by omega)⟩), (f.1 (gadr b) 12 (by omega)).trans h12, ct_k (f.1 80 4 (by omega)) (f.1 (gadr b) 13 (by omega)) (f.1 (gadr b) 14 (by omega)) h13, (f.1 80 3 (by omega)).trans h14⟩
theorem cH_Li (z : zS S) (h : cH b S No Hn Co Hk Af At Al Vs Vt Vh Li Lo Ct Wa) {x : Int} (hc : Li.length < 300) : ∃ S', j_X3_add (gadr b + 35) x S = some S' ∧ zS S' ∧ frC (FR b 35) (RR b 35) S S' ∧ sg b S' = sg b S ∧ cH b S' No Hn Co Hk Af At Al Vs Vt Vh (Li ++ [x]) Lo Ct Wa := by
  have hg := g_or b
  obtain ⟨h1, h2, h3, h4, ⟨h5, h6, h7⟩, ⟨h8, h9, h10⟩, h11, h12, h13, h14⟩ := h
  have l1 : (jA S (gadr b + 35 + 1)).length = 300 := by
    rw [z (gadr b + 35 + 1)]
    cases b <;> rfl
  obtain ⟨e, p⟩ := rT_add (x := x) z h11 (by omega)
  have f : frC (FR b 35) (RR b 35) S (ga S (gadr b + 35) 1 (gadr b + 35 + 1) x) := frC_ga ⟨rfl, rfl⟩ rfl
  have hs : sg b (ga S (gadr b + 35) 1 (gadr b + 35 + 1) x) = sg b S := by
    unfold sg gv
    rw [f.1 (gadr b + 1) 1 (by omega), f.2.1 (gadr b + 2) (by omega)]
  refine ⟨_, e, ga_zS z, f, hs, ?_⟩
  unfold cH
  rw [hs]
  exact ⟨sp_k h1 (fun a q p1 p2 => ⟨f.1 a q (by omega), f.2.1 a (by omega)⟩), sp_k h2 (fun a q p1 p2 => ⟨f.1 a q (by omega), f.2.1 a (by omega)⟩), sp_k h3 (fun a q p1 p2 => ⟨f.1 a q (by omega), f.2.1 a (by omega)⟩), rt_k h4 (fun a q p1 p2 => ⟨f.1 a q (by omega), f.2.1 a (by omega)⟩), ⟨rt_k h5 (fun a q p1 p2 => ⟨f.1 a q (by omega), f.2.1 a (by omega)⟩), rt_k h6 (fun a q p1 p2 => ⟨f.1 a q (by omega), f.2.1 a (by omega)⟩), rt_k h7 (fun a q p1 p2 => ⟨f.1 a q (by omega), f.2.1 a (by omega)⟩)⟩, ⟨sp_k h8 (fun a q p1 p2 => ⟨f.1 a q (by omega), f.2.1 a (by omega)⟩), rt_k h9 (fun a q p1 p2 => ⟨f.1 a q (by omega), f.2.1 a (by omega)⟩), rt_k h10 (fun a q p1 p2 => ⟨f.1 a q (by omega), f.2.1 a (by omega)⟩)⟩, p, (f.1 (gadr b) 12 (by omega)).trans h12, ct_k (f.1 80 4 (by omega)) (f.1 (gadr b) 13 (by omega)) (f.1 (gadr b) 14 (by omega)) h13, (f.1 80 3 (by omega)).trans h14⟩
theorem cH_S {xs : List Int} (h : cH b S No Hn Co Hk Af At Al Vs Vt Vh Li Lo Ct Wa) (f : frC (FV b) (RS b) S S') (hs : sg b S' = sg b S ++ xs) : cH b S' No Hn Co Hk Af At Al Vs Vt Vh Li Lo Ct Wa := by
  have hg := g_or b
  obtain ⟨h1, h2, h3, h4, ⟨h5, h6, h7⟩, ⟨h8, h9, h10⟩, h11, h12, h13, h14⟩ := h
  unfold cH
  rw [hs]
  exact ⟨sp_k (spn_app h1) (fun a q p1 p2 => ⟨f.1 a q (by omega), f.2.1 a (by omega)⟩), sp_k (spn_app h2) (fun a q p1 p2 => ⟨f.1 a q (by omega), f.2.1 a (by omega)⟩), sp_k (spn_app h3) (fun a q p1 p2 => ⟨f.1 a q (by omega), f.2.1 a (by omega)⟩), rt_k h4 (fun a q p1 p2 => ⟨f.1 a q (by omega), f.2.1 a (by omega)⟩), ⟨rt_k h5 (fun a q p1 p2 => ⟨f.1 a q (by omega), f.2.1 a (by omega)⟩), rt_k h6 (fun a q p1 p2 => ⟨f.1 a q (by omega), f.2.1 a (by omega)⟩), rt_k h7 (fun a q p1 p2 => ⟨f.1 a q (by omega), f.2.1 a (by omega)⟩)⟩, ⟨sp_k (spn_app h8) (fun a q p1 p2 => ⟨f.1 a q (by omega), f.2.1 a (by omega)⟩), rt_k h9 (fun a q p1 p2 => ⟨f.1 a q (by omega), f.2.1 a (by omega)⟩), rt_k h10 (fun a q p1 p2 => ⟨f.1 a q (by omega), f.2.1 a (by omega)⟩)⟩, rt_k h11 (fun a q p1 p2 => ⟨f.1 a q (by omega), f.2.1 a (by omega)⟩), (f.1 (gadr b) 12 (by omega)).trans h12, ct_k (f.1 80 4 (by omega)) (f.1 (gadr b) 13 (by omega)) (f.1 (gadr b) 14 (by omega)) h13, (f.1 80 3 (by omega)).trans h14⟩
end COP
