section CEB
variable {S S' S'' : iS} {b : Bool} {G : gT}
theorem frC_CuL (h : frC (FCu b) R0 S S') : frC (FLn b) (RLn b) S S' := frC_mono h (fun a f q => by have := g_or b; omega) (fun a q => absurd q (fun q => q))
/-- what endArc asks of the spec -/
def eaS (man ln : Int) (G : gT) (N : List (List Int)) (f t : Int) (v : List vT) (r : List Int) : Option (gT × List Int) := (leS r).bind fun r3 => if dbS (gAr G) f t = true ∧ man = 1 then some ((N, gHe G, gCo G, gAr G, gLi G, gLo G + 1, gCt G, true), r3) else if 40 ≤ (gAr G).length then none else some ((N, gHe G, gCo G, gAr G ++ [(f, t, ln, v)], gLi G ++ [3], gLo G, gCt G, true), r3)
/-- an ARC that counts, if there is room -/
theorem c_e38 {ln : Int} {N : List (List Int)} {f t : Int} {v : List vT} {r3 : List Int} (w : wC b S) (h : cHV b S G N v true) (h13 : jI S 80 13 = f) (h14 : jI S 80 14 = t) (h12 : -1 ≤ jI S 80 12 ∧ jI S 80 12 ≤ 1000) (hln : jI S 81 3 = ln) (hr : cR S = r3) (hli : (gLi G).length < 300) : ∃ x S', j_X2_endArc_38 S = some (x, S') ∧ frC (FLn b) (RLn b) S S' ∧ rc b (if 40 ≤ (gAr G).length then none else some (((N, gHe G, gCo G, gAr G ++ [(f, t, ln, v)], gLi G ++ [3], gLo G, gCt G, true) : gT), r3)) x S' (fun q => cG b S' q.1 ∧ cR S' = q.2) := by
  have hg := g_or b
  have a1 : jI S (gadr b + 20) 1 = (gAr G).length := by
    have := rv_len h.2.2.2.2.1.1.1
    rw [h.2.2.2.2.1.1.2, List.length_map] at this
    exact this.symm
  unfold j_X2_endArc_38 j_X1_arcCount j_X1_arcCount_0
  rw [Option.bind_some, w.2.1, a1]
  dsimp only
  by_cases h40 : 40 ≤ (gAr G).length
  · rw [if_pos h40]
    obtain ⟨S', e, z', f'⟩ := c_fail w (k := 6) (p := jI S 80 12) h12
    exact ⟨0, S', ie (by omega) (by rw [e]; rfl), frC_LC f', rfl, z'⟩
  · rw [if_neg h40]
    obtain ⟨S', e, f', w', c', hG'⟩ := c_aa (f := f) (t := t) (ln := ln) w h (by omega) hli
    refine ⟨1, S', it (by omega) ?_, f', rfl, w', hG', by rw [c', hr]⟩
    rw [h13, h14, hln, e, Option.bind_some]
/-- endArc -/
theorem c_eA {man ln : Int} {N : List (List Int)} {f t : Int} {v : List vT} (w : wC b S) (h : cHV b S G N v (gWa G)) (hm : jI S 80 2 = man) (h13 : jI S 80 13 = f) (h14 : jI S 80 14 = t) (h15 : jI S 80 15 = bi (dbS (gAr G) f t = true)) (h12 : -1 ≤ jI S 80 12 ∧ jI S 80 12 ≤ 1000) (hln : jI S 81 3 = ln) (hw : wfG G) (hlo : 0 ≤ gLo G ∧ gLo G ≤ 1000) (hli : (gLi G).length < 300) : ∃ x S', j_X2_endArc S = some (x, S') ∧ frC (FLn b) (RLn b) S S' ∧ rc b (eaS man ln G N f t v (cR S)) x S' (fun q => cG b S' q.1 ∧ cR S' = q.2) := by
  have hg := g_or b
  obtain ⟨x1, S1, e1, f1, r1⟩ := c_lend w
  unfold j_X2_endArc j_X2_endArc_0 eaS
  rw [e1, Option.bind_some]
  cases o1 : leS (cR S) with
  | none =>
    rw [o1] at r1
    exact ⟨0, S1, ie (nn r1.1) rfl, frC_LC f1, rfl, r1.2⟩
  | some r3 =>
    rw [o1] at r1
    obtain ⟨rfl, w1, c1⟩ := r1
    rw [if_pos (show ¬ (1 : Int) = 0 by decide), Option.bind_some]
    dsimp only
    have h1 : cHV b S1 G N v (gWa G) := cH_S (xs := []) h (frC_V (frC_C f1)) (by rw [List.append_nil]; exact sg_C f1)
    have h2 : cHV b (kI S1 80 3 1) G N v true := cH_wa h1
    obtain ⟨w2, c2⟩ := wC_k w1 (a := 80) (f := 3) (v := 1) (by decide) (by decide) (by omega)
    have g2 : frC (FLn b) (RLn b) S (kI S1 80 3 1) := frC_trans (frC_LC f1) (frC_8 (by decide))
    have i15 : jI S1 80 15 = bi (dbS (gAr G) f t = true) := by rw [f1.1 80 15 (by omega), h15]
    have i2 : jI S1 80 2 = man := by rw [f1.1 80 2 (by omega), hm]
    have k12 : jI (kI S1 80 3 1) 80 12 = jI S 80 12 := by rw [jI_ne (.inr (by decide)), f1.1 80 12 (by omega)]
    have k13 : jI (kI S1 80 3 1) 80 13 = f := by rw [jI_ne (.inr (by decide)), f1.1 80 13 (by omega), h13]
    have k14 : jI (kI S1 80 3 1) 80 14 = t := by rw [jI_ne (.inr (by decide)), f1.1 80 14 (by omega), h14]
    have k3 : jI (kI S1 80 3 1) 81 3 = ln := by rw [jI_ne (.inl (by decide)), f1.1 81 3 (by omega), hln]
    rw [w1.2.1, i15, i2]
    generalize kI S1 80 3 1 = T at *
    have hfl : (flV (gAr G)).length = (gAr G).length * (gHe G).length := flV_len (fun x hx => (hw.2.2.2.1 x hx).1)
    have hfl2 : (gAr G).length * (gHe G).length ≤ 40 * 3 := Nat.mul_le_mul hw.2.2.1 hw.2.1
    by_cases hd : dbS (gAr G) f t = true
    · by_cases h1m : man = 1
      · rw [if_pos (show dbS (gAr G) f t = true ∧ man = 1 from ⟨hd, h1m⟩)]
        obtain ⟨S3, e3, f3, w3, c3, h3⟩ := c_lao w2 h2 (by rw [List.length_map, List.length_map, List.length_map, hfl]) (by rw [List.length_map, List.length_map]) (by rw [List.length_map, List.length_map]) (by rw [List.length_map]; omega) hlo
        refine ⟨1, S3, ie (bi_n hd) (ie (nn h1m) ?_), frC_trans g2 (frC_CuL f3), rfl, w3, cG_cH.mpr h3, by rw [c3, c2, c1]⟩
        rw [e3, Option.bind_some]
      · rw [if_neg (show ¬ (dbS (gAr G) f t = true ∧ man = 1) from fun q => h1m q.2)]
        obtain ⟨x, S3, e3, f3, r3⟩ := c_e38 (ln := ln) w2 h2 k13 k14 (by rw [k12]; exact h12) k3 (by rw [c2, c1]) hli
        exact ⟨x, S3, ie (bi_n hd) (it h1m e3), frC_trans g2 f3, r3⟩
    · rw [if_neg (show ¬ (dbS (gAr G) f t = true ∧ man = 1) from fun q => hd q.1)]
      obtain ⟨x, S3, e3, f3, r3⟩ := c_e38 (ln := ln) w2 h2 k13 k14 (by rw [k12]; exact h12) k3 (by rw [c2, c1]) hli
      exact ⟨x, S3, it (bi_f hd) e3, frC_trans g2 f3, r3⟩
theorem arL_en {man ln : Int} {r : List Int} : arL man ln G r = (enS man G r).bind fun p => (vsS ((gHe G).map (fun h => h.2)) p.2).bind fun v => eaS man ln G p.1.1 p.1.2.1 p.1.2.2 v.1 v.2 := by
  unfold arL enS
  cases nmS r with
  | none => rfl
  | some a =>
    rw [Option.bind_some, Option.bind_some]
    cases ndS (gNo G) a.1 with
    | none => rfl
    | some N1 =>
      rw [Option.bind_some, Option.bind_some]
      cases gpS a.2 with
      | none => rfl
      | some r1 =>
        rw [Option.bind_some, Option.bind_some]
        cases nmS r1 with
        | none => rfl
        | some c =>
          rw [Option.bind_some, Option.bind_some]
          cases ndS N1 c.1 with
          | none => rfl
          | some N2 =>
            rw [Option.bind_some, Option.bind_some]
            unfold arE
            by_cases hc : dbS (gAr G) (ixO N2 a.1) (ixO N2 c.1) = true ∧ man = 2
            · rw [if_pos hc, if_pos hc]; rfl
            · rw [if_neg hc, if_neg hc]; rfl
/-- kinds have their bounds -/
def kdG (G : gT) : Prop := ∀ h ∈ gHe G, 0 ≤ h.2 ∧ h.2 ≤ 3
theorem eaS_he {man ln : Int} {N : List (List Int)} {f t : Int} {v : List vT} {r : List Int} {q : gT × List Int} (h : eaS man ln G N f t v r = some q) : gHe q.1 = gHe G := by
  unfold eaS at h
  cases o : leS r with
  | none => rw [o] at h; cases h
  | some r3 =>
    rw [o, Option.bind_some] at h
    split at h
    · cases h; rfl
    · split at h
      · cases h
      · cases h; rfl
theorem liS_kd {man ln : Int} {r : List Int} {q : gT × List Int} (h : liS man ln G r = some q) (hk : kdG G) : kdG q.1 := by
  unfold liS at h
  split at h
  · cases h; exact hk
  · split at h
    · unfold cmL at h
      cases o : cmK 20 (skb r).tail with
      | none => rw [o] at h; cases h
      | some p => rw [o] at h; cases h; exact hk
    · split at h
      · unfold ctL at h
        split at h
        · cases h
        · obtain ⟨r1, _, h⟩ := Option.bind_eq_some_iff.mp h
          obtain ⟨a, _, h⟩ := Option.bind_eq_some_iff.mp h
          obtain ⟨r2, _, h⟩ := Option.bind_eq_some_iff.mp h
          obtain ⟨c, _, h⟩ := Option.bind_eq_some_iff.mp h
          obtain ⟨r3, _, h⟩ := Option.map_eq_some_iff.mp h
          rw [← h]
          exact hk
      · split at h
        · unfold heL at h
          split at h
          · cases h
          · obtain ⟨r1, _, h⟩ := Option.bind_eq_some_iff.mp h
            obtain ⟨a, _, h⟩ := Option.bind_eq_some_iff.mp h
            split at h
            · cases h
            · obtain ⟨r2, _, h⟩ := Option.bind_eq_some_iff.mp h
              split at h
              · cases h
              · next hne =>
                obtain ⟨r3, _, h⟩ := Option.map_eq_some_iff.mp h
                rw [← h]
                intro x hx
                have hx' : x ∈ gHe G ++ [(a.1, kdS (hd r2))] := hx
                rcases List.mem_append.mp hx' with hx' | hx'
                · exact hk x hx'
                · rw [List.mem_singleton.mp hx']; exact ⟨(kdS_b hne).1, (kdS_b hne).2.1⟩
        · rw [arL_en] at h
          obtain ⟨p, _, h⟩ := Option.bind_eq_some_iff.mp h
          obtain ⟨v, _, h⟩ := Option.bind_eq_some_iff.mp h
          unfold kdG
          rw [eaS_he h]
          exact hk
end CEB
