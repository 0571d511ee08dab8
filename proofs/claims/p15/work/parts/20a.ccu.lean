section CCU
variable {S S' S'' : iS} {b : Bool}
/-- what is left of the class's TEXT -/
def cR (S : iS) : List Int := (gv S 1 1 2).drop (jI S 81 1).toNat
/-- the class's reading can go on -/
def wC (b : Bool) (S : iS) : Prop := zS S ∧ jP2 S = b ∧ (0 ≤ jI S 1 1 ∧ jI S 1 1 ≤ 600) ∧ (0 ≤ jI S 81 1 ∧ jI S 81 1 ≤ 600) ∧ jI S 81 2 = hd (cR S) ∧ (0 ≤ jI S 81 4 ∧ jI S 81 4 ≤ 700) ∧ (0 ≤ jI S (gadr b + 1) 1 ∧ jI S (gadr b + 1) 1 + (cR S).length ≤ 600)
/-- the signs so far -/
def sg (b : Bool) (S : iS) : List Int := gv S (gadr b + 1) 1 (gadr b + 2)
def frC (F : Nat → Nat → Prop) (R : Nat → Prop) (S S' : iS) : Prop := (∀ a f, ¬ F a f → jI S' a f = jI S a f) ∧ (∀ a, ¬ R a → jA S' a = jA S a) ∧ S'.2.2 = S.2.2
theorem frC_refl {F : Nat → Nat → Prop} {R : Nat → Prop} : frC F R S S := ⟨fun _ _ _ => rfl, fun _ _ => rfl, rfl⟩
theorem frC_trans {F : Nat → Nat → Prop} {R : Nat → Prop} (h : frC F R S S') (h' : frC F R S' S'') : frC F R S S'' := ⟨fun a f q => (h'.1 a f q).trans (h.1 a f q), fun a q => (h'.2.1 a q).trans (h.2.1 a q), h'.2.2.trans h.2.2⟩
theorem frC_mono {F F' : Nat → Nat → Prop} {R R' : Nat → Prop} (h : frC F R S S') (hF : ∀ a f, F a f → F' a f) (hR : ∀ a, R a → R' a) : frC F' R' S S' := ⟨fun a f q => h.1 a f (fun k => q (hF a f k)), fun a q => h.2.1 a (fun k => q (hR a k)), h.2.2⟩
theorem frC_kI {F : Nat → Nat → Prop} {R : Nat → Prop} {a f : Nat} {v : Int} (h : F a f) : frC F R S (kI S a f v) := ⟨fun a' f' q => jI_ne (by
  by_cases e : a' = a
  · by_cases e' : f' = f
    · subst e e'; exact absurd h q
    · exact .inr e'
  · exact .inl e), fun _ _ => rfl, rfl⟩
theorem frC_ga {F : Nat → Nat → Prop} {R : Nat → Prop} {l f a : Nat} {x : Int} (h : F l f) (hR : R a) : frC F R S (ga S l f a x) := ⟨fun a' f' q => ga_I (by
  by_cases e : a' = l
  · by_cases e' : f' = f
    · subst e e'; exact absurd h q
    · exact .inr e'
  · exact .inl e), fun a' q => ga_A (fun e => q (e ▸ hR)), rfl⟩
theorem g_or (b : Bool) : gadr b = 6 ∨ gadr b = 43 := by cases b <;> simp [gadr]
theorem cR_get (h0 : 0 ≤ jI S 1 1) (h6 : jI S 1 1 ≤ 600) (z : zS S) (i : Nat) : (gv S 1 1 2)[i]? = if (i : Int) < jI S 1 1 then some ((jA S 2).getD i 0) else none := by
  have hl := z2 z
  unfold gv
  rw [List.getElem?_take]
  by_cases h : (i : Int) < jI S 1 1
  · rw [if_pos h, if_pos (by omega), List.getD_eq_getElem?_getD, List.getElem?_eq_getElem (by omega)]
    rfl
  · rw [if_neg h, if_neg (by omega)]
theorem tbv_hd (z : zS S) (h0 : 0 ≤ jI S 1 1) (h6 : jI S 1 1 ≤ 600) {i : Int} (hi : 0 ≤ i) : tbv S i = hd ((gv S 1 1 2).drop i.toNat) := by
  have hl := z2 z
  rw [hd_eq, List.getElem?_drop, Nat.add_zero, cR_get h0 h6 z]
  unfold tbv
  by_cases h : i < jI S 1 1
  · rw [if_pos ⟨hi, h, by omega⟩, if_pos (show ((i.toNat : Nat) : Int) < jI S 1 1 by omega)]
  · rw [if_neg (fun q => h q.2.1), if_neg (show ¬ ((i.toNat : Nat) : Int) < jI S 1 1 by omega)]
theorem cR_kk {p x : Int} : cR (kI (kI S 81 1 p) 81 2 x) = (gv S 1 1 2).drop p.toNat := rfl
theorem cR_tl (h : 0 ≤ jI S 81 1) : (gv S 1 1 2).drop (jI S 81 1 + 1).toNat = (cR S).tail := by
  rw [show (jI S 81 1 + 1).toNat = (jI S 81 1).toNat + 1 by omega, ← drop_tail]
  rfl
/-- one step of the cursor -/
theorem c_step (w : wC b S) (h : jI S 81 1 < 600) : ∃ S', j_X0_step S = some S' ∧ S' = kI (kI S 81 1 (jI S 81 1 + 1)) 81 2 (hd (cR S).tail) ∧ wC b S' ∧ cR S' = (cR S).tail ∧ (∀ a f, a ≠ 81 → jI S' a f = jI S a f) ∧ (∀ a, jA S' a = jA S a) := by
  obtain ⟨z, hp, ⟨t0, t1⟩, ⟨a0, a1⟩, hn, ⟨l0, l1⟩, ⟨s0, s1⟩⟩ := w
  have hg := g_or b
  have e := e0_step z (show rg (jI S 81 1 + 1) from ⟨by omega, by omega⟩)
  have hh : tbv S (jI S 81 1 + 1) = hd (cR S).tail := by
    rw [tbv_hd z t0 t1 (by omega), show (jI S 81 1 + 1).toNat = (jI S 81 1).toNat + 1 by omega]
    unfold cR
    rw [drop_tail]
  rw [hh] at e
  have hI : ∀ a f, a ≠ 81 → jI (kI (kI S 81 1 (jI S 81 1 + 1)) 81 2 (hd (cR S).tail)) a f = jI S a f := fun a f h => by rw [jI_ne (.inl h), jI_ne (.inl h)]
  have hc : cR (kI (kI S 81 1 (jI S 81 1 + 1)) 81 2 (hd (cR S).tail)) = (cR S).tail := by
    rw [cR_kk, cR_tl a0]
  have ht := tl_le (cR S)
  refine ⟨_, e, rfl, ⟨z, hp, by rw [hI 1 1 (by decide)]; exact ⟨t0, t1⟩, ?_, ?_, ?_, ?_⟩, hc, hI, fun a => rfl⟩
  · rw [jI_ne (.inr (by decide)), jI_eq]; omega
  · rw [jI_eq, hc]
  · rw [jI_ne (.inr (by decide)), jI_ne (.inr (by decide))]; exact ⟨l0, l1⟩
  · rw [hI _ _ (by omega), hc]; omega
theorem cR_lt (w : wC b S) (h : hd (cR S) ≠ -1) : jI S 81 1 < jI S 1 1 := by
  obtain ⟨c, r, e, _⟩ := hd_cons h
  have hl := congrArg List.length e
  unfold cR at hl
  rw [List.length_drop, List.length_cons] at hl
  have := gv_len (S := S) (l := 1) (f := 1) (a := 2) w.2.2.1.1 (by rw [z2 w.1]; exact w.2.2.1.2)
  have := w.2.2.2.1.1
  omega
/-- the fields that signs and steps change -/
abbrev FS (b : Bool) (a f : Nat) : Prop := (a = 81 ∧ (f = 1 ∨ f = 2 ∨ f = 5 ∨ f = 6 ∨ f = 7)) ∨ (a = gadr b + 1 ∧ f = 1)
abbrev RS (b : Bool) (a : Nat) : Prop := a = gadr b + 2
theorem frC_step {F : Nat → Nat → Prop} {R : Nat → Prop} {v w : Int} (h1 : F 81 1) (h2 : F 81 2) : frC F R S (kI (kI S 81 1 v) 81 2 w) := frC_trans (frC_kI h1) (frC_kI h2)
/-- arrays have their sizes, the FAULT's code its bounds -/
def zF (S : iS) : Prop := zS S ∧ 1 ≤ jI S 81 5 ∧ jI S 81 5 ≤ 7
/-- how a reader of the class answers -/
def rc {α : Type} (b : Bool) (o : Option α) (x : Int) (S : iS) (Q : α → Prop) : Prop := match o with
  | some v => x = 1 ∧ wC b S ∧ Q v
  | none => x = 0 ∧ zF S
theorem rc_map {α β : Type} {o : Option α} {g : α → β} {x : Int} {Q : β → Prop} (h : rc b o x S (fun v => Q (g v))) : rc b (o.map g) x S Q := by
  cases o with
  | none => exact h
  | some v => exact h
theorem rc_mono {α : Type} {o : Option α} {x : Int} {P Q : α → Prop} (h : rc b o x S P) (k : ∀ v, o = some v → P v → Q v) : rc b o x S Q := by
  cases o with
  | none => exact h
  | some v => exact ⟨h.1, h.2.1, k v rfl h.2.2⟩
theorem c_wrong (w : wC b S) {k p : Int} (h0 : -1 ≤ p) (h1 : p ≤ 1000) : j_X0_wrong k p S = some (0, kI (kI (kI S 81 5 k) 81 6 (jI S 81 3)) 81 7 (p - jI S 81 4 + 1)) := by
  have := w.2.2.2.2.2.1
  unfold j_X0_wrong j_X0_wrong_0
  exact it ⟨by omega, by omega⟩ (it ⟨by omega, by omega⟩ rfl)
theorem frC_w {F : Nat → Nat → Prop} {R : Nat → Prop} {u v w : Int} (h1 : F 81 5) (h2 : F 81 6) (h3 : F 81 7) : frC F R S (kI (kI (kI S 81 5 u) 81 6 v) 81 7 w) := frC_trans (frC_kI h1) (frC_trans (frC_kI h2) (frC_kI h3))
/-- a sign is laid behind the others -/
theorem c_add (w : wC b S) (h : hd (cR S) ≠ -1) {x : Int} : ∃ S', j_X3_add (gadr b + 1) x S = some S' ∧ S' = ga S (gadr b + 1) 1 (gadr b + 2) x ∧ zS S' ∧ sg b S' = sg b S ++ [x] ∧ jI S' (gadr b + 1) 1 = jI S (gadr b + 1) 1 + 1 ∧ cR S' = cR S ∧ (∀ a f, a ≠ gadr b + 1 → jI S' a f = jI S a f) ∧ jP2 S' = b := by
  obtain ⟨z, hp, ⟨t0, t1⟩, ⟨a0, a1⟩, hn, ⟨l0, l1⟩, ⟨s0, s1⟩⟩ := w
  have hg := g_or b
  obtain ⟨c, r, e, _⟩ := hd_cons h
  have hl : (cR S).length = r.length + 1 := by rw [e, List.length_cons]
  have hlen : (jA S (gadr b + 1 + 1)).length = 600 := by
    rw [z (gadr b + 1 + 1)]
    cases b <;> rfl
  have hI : ∀ a f, a ≠ gadr b + 1 → jI (ga S (gadr b + 1) 1 (gadr b + 2) x) a f = jI S a f := fun a f h => ga_I (.inl h)
  refine ⟨_, eR_add z s0 (by omega), rfl, ga_zS z, ga_v s0 (by rw [hlen]; omega), ga_len, ?_, hI, hp⟩
  unfold cR gv
  rw [hI 1 1 (by omega), hI 81 1 (by omega), ga_A (by omega)]
/-- a sign, and a step -/
theorem c_addstep (w : wC b S) (h : hd (cR S) ≠ -1) {x : Int} : ∃ T S', j_X3_add (gadr b + 1) x S = some T ∧ j_X0_step T = some S' ∧ jP2 T = b ∧ wC b S' ∧ frC (FS b) (RS b) S S' ∧ sg b S' = sg b S ++ [x] ∧ cR S' = (cR S).tail ∧ jI S' (gadr b + 1) 1 = jI S (gadr b + 1) 1 + 1 := by
  have hlt := cR_lt w h
  obtain ⟨T, e1, hT, zT, sT, lT, cT, iT, pT⟩ := c_add w h (x := x)
  obtain ⟨z, hp, ⟨t0, t1⟩, ⟨a0, a1⟩, hn, ⟨l0, l1⟩, ⟨s0, s1⟩⟩ := w
  have hg := g_or b
  obtain ⟨c, r, er, _⟩ := hd_cons h
  have hl : (cR S).length = r.length + 1 := by rw [er, List.length_cons]
  have e := e0_step zT (show rg (jI T 81 1 + 1) by rw [iT 81 1 (by omega)]; exact ⟨by omega, by omega⟩)
  have hh : tbv T (jI T 81 1 + 1) = hd (cR S).tail := by
    rw [iT 81 1 (by omega), tbv_hd zT (by rw [iT 1 1 (by omega)]; exact t0) (by rw [iT 1 1 (by omega)]; exact t1) (by omega), show (jI S 81 1 + 1).toNat = (jI S 81 1).toNat + 1 by omega]
    have : gv T 1 1 2 = gv S 1 1 2 := by
      subst hT
      unfold gv
      rw [ga_I (.inl (by omega)), ga_A (by omega)]
    rw [this]
    unfold cR
    rw [drop_tail]
  rw [hh, iT 81 1 (by omega)] at e
  have hI : ∀ a f, a ≠ 81 → jI (kI (kI T 81 1 (jI S 81 1 + 1)) 81 2 (hd (cR S).tail)) a f = jI T a f := fun a f h => by rw [jI_ne (.inl h), jI_ne (.inl h)]
  have hc : cR (kI (kI T 81 1 (jI S 81 1 + 1)) 81 2 (hd (cR S).tail)) = (cR S).tail := by
    have h1 : gv T 1 1 2 = gv S 1 1 2 := by
      subst hT
      unfold gv
      rw [ga_I (.inl (by omega)), ga_A (by omega)]
    rw [cR_kk, h1, cR_tl a0]
  have htl : (cR S).tail.length = r.length := by rw [er]; rfl
  refine ⟨T, _, e1, e, pT, ⟨zT, pT, ?_, ?_, ?_, ?_, ?_⟩, ?_, ?_, hc, ?_⟩
  · rw [hI 1 1 (by decide), iT 1 1 (by omega)]; exact ⟨t0, t1⟩
  · rw [jI_ne (.inr (by decide)), jI_eq]; omega
  · rw [jI_eq, hc]
  · rw [jI_ne (.inr (by decide)), jI_ne (.inr (by decide)), iT 81 4 (by omega)]; exact ⟨l0, l1⟩
  · rw [hI _ _ (by omega), lT, hc, htl]; omega
  · subst hT
    exact frC_trans (frC_ga (by omega) (by omega)) (frC_step (by omega) (by omega))
  · unfold sg gv
    rw [hI _ _ (by omega), jA_kI, jA_kI]
    exact sT
  · rw [hI _ _ (by omega)]; exact lT
theorem wC_fr {F : Nat → Nat → Prop} {R : Nat → Prop} (w : wC b S) (h : frC F R S S') (z : zS S') (h11 : ¬ F 1 1) (h811 : ¬ F 81 1) (h812 : ¬ F 81 2) (h814 : ¬ F 81 4) (hs : ¬ F (gadr b + 1) 1) (h2 : ¬ R 2) : wC b S' ∧ cR S' = cR S := by
  have e : cR S' = cR S := by
    unfold cR gv
    rw [h.1 1 1 h11, h.1 81 1 h811, h.2.1 2 h2]
  obtain ⟨_, hp, t, a, hn, l, s⟩ := w
  refine ⟨⟨z, ?_, by rw [h.1 1 1 h11]; exact t, by rw [h.1 81 1 h811]; exact a, by rw [h.1 81 2 h812, e]; exact hn, by rw [h.1 81 4 h814]; exact l, by rw [h.1 _ 1 hs, e]; exact s⟩, e⟩
  unfold jP2
  rw [h.2.2]
  exact hp
end CCU
