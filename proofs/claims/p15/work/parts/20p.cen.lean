section CEN
variable {S S' S'' : iS} {b : Bool} {G : gT}
theorem cH_8 {No Hn Co : List (List Int)} {Hk Af At Al : List Int} {Vs : List (List Int)} {Vt Vh Li : List Int} {Lo : Int} {Ct : Option (Int × Int)} {Wa : Bool} {f : Nat} {v : Int} (hf : 5 ≤ f) (h : cH b S No Hn Co Hk Af At Al Vs Vt Vh Li Lo Ct Wa) : cH b (kI S 80 f v) No Hn Co Hk Af At Al Vs Vt Vh Li Lo Ct Wa := by
  have hg := g_or b
  exact cH_ct h (frC_kI (.inl ⟨rfl, by omega⟩)) (ct_k (jI_ne (.inr (by omega))) (jI_ne (.inl (by omega))) (jI_ne (.inl (by omega))) h.2.2.2.2.2.2.2.2.1)
theorem sg_8 {f : Nat} {v : Int} : sg b (kI S 80 f v) = sg b S := by
  have hg := g_or b
  unfold sg gv
  rw [jI_ne (.inl (by omega)), jA_kI]
theorem frC_DL (h : frC (FDn b) (RP b 3) S S') : frC (FLn b) (RLn b) S S' := frC_mono h (fun a f q => by have := g_or b; omega) (fun a q => by omega)
theorem frC_8 {f : Nat} {v : Int} (hf : 3 ≤ f) : frC (FLn b) (RLn b) S (kI S 80 f v) := frC_kI (.inl ⟨rfl, hf⟩)
theorem ndS_in {l N : List (List Int)} {x : List Int} (h : ndS l x = some N) (hl : l.length ≤ 30) : x ∈ N ∧ N.length ≤ 30 := by
  unfold ndS at h
  by_cases hx : x ∈ l
  · rw [if_pos hx] at h
    cases h
    exact ⟨hx, hl⟩
  · rw [if_neg hx] at h
    by_cases h30 : 30 ≤ l.length
    · rw [if_pos h30] at h
      cases h
    · rw [if_neg h30] at h
      cases h
      exact ⟨List.mem_append.mpr (.inr (List.mem_singleton.mpr rfl)), by rw [List.length_append]; simp; omega⟩
/-- the two NAMES of an ARC -/
def enS (man : Int) (G : gT) (r : List Int) : Option ((List (List Int) × Int × Int) × List Int) := (nmS r).bind fun a => (ndS (gNo G) a.1).bind fun N1 => (gpS a.2).bind fun r1 => (nmS r1).bind fun c => (ndS N1 c.1).bind fun N2 => if dbS (gAr G) (ixO N2 a.1) (ixO N2 c.1) = true ∧ man = 2 then none else some ((N2, ixO N2 a.1, ixO N2 c.1), c.2)
abbrev cHN (b : Bool) (S : iS) (G : gT) (N : List (List Int)) : Prop := cH b S N ((gHe G).map (fun h => h.1)) (gCo G) ((gHe G).map (fun h => h.2)) ((gAr G).map (fun x => x.1)) ((gAr G).map (fun x => x.2.1)) ((gAr G).map (fun x => x.2.2.1)) ((flV (gAr G)).map vsg) ((flV (gAr G)).map (fun v => v.1)) ((flV (gAr G)).map (fun v => v.2.1)) (gLi G) (gLo G) (gCt G) (gWa G)
/-- readName and takeNode -/
theorem c_nt {N0 : List (List Int)} (w : wC b S) (h : cHN b S G N0) (hn : N0.length ≤ 30) : ∃ x S1, j_X2_readName S = some (x, S1) ∧ frC (FLn b) (RLn b) S S1 ∧ (∀ f, 10 ≤ f → jI S1 80 f = jI S 80 f) ∧ jI S1 80 2 = jI S 80 2 ∧ (match nmS (cR S) with
    | none => x = 0 ∧ zF S1
    | some a => x = 1 ∧ ∃ y S2, j_X2_takeNode S1 = some (y, S2) ∧ frC (FLn b) (RLn b) S S2 ∧ (∀ f, 10 ≤ f → jI S2 80 f = jI S 80 f) ∧ jI S2 80 2 = jI S 80 2 ∧ (match ndS N0 a.1 with
      | none => y = -1 ∧ zF S2
      | some N => y = (ixO N a.1 : Int) ∧ wC b S2 ∧ cR S2 = a.2 ∧ cHN b S2 G N ∧ jI S2 80 8 = jI S 81 1)) := by
  have hg := g_or b
  obtain ⟨x, S1, e1, f1, r1⟩ := c_nameP w
  refine ⟨x, S1, e1, frC_L1 (frC_MV f1), fun f hf => f1.1 80 f (by omega), f1.1 80 2 (by omega), ?_⟩
  cases o : nmS (cR S) with
  | none =>
    rw [o] at r1
    exact r1
  | some a =>
    rw [o] at r1
    obtain ⟨rfl, w1, s1, c1, n1, p1⟩ := r1
    have h1 : cHN b S1 G N0 := cH_S (xs := a.1) h (frC_MV f1) s1
    have m0 := sg_len w
    have hat := c_at w
    obtain ⟨y, S2, e2, f2, r2⟩ := c_tn w1 h1 (st := (sg b S).length) (ln := a.1.length) (by rw [n1, m0]) (by rw [s1, List.length_append]) (by rw [p1]; exact hat) hn
    rw [s1, app_cut] at r2
    refine ⟨rfl, y, S2, e2, frC_trans (frC_L1 (frC_MV f1)) (frC_DL f2), fun f hf => ?_, ?_, ?_⟩
    · rw [f2.1 80 f (by omega), f1.1 80 f (by omega)]
    · rw [f2.1 80 2 (by omega), f1.1 80 2 (by omega)]
    · cases o2 : ndS N0 a.1 with
      | none =>
        rw [o2] at r2
        exact r2
      | some N =>
        rw [o2] at r2
        obtain ⟨q1, q2, q3, q4, q5⟩ := r2
        exact ⟨q1, q2, by rw [q3, c1], q5, by rw [f2.1 80 8 (by omega), p1]⟩
end CEN
