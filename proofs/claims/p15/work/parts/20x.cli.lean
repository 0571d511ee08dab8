section CLI
variable {S S' S'' : iS} {b : Bool} {G : gT}
theorem rc_bind {α β : Type} {o : Option α} {g : α → Option β} {Q : β → Prop} {x : Int} {S : iS} (h : ∃ v, o = some v ∧ rc b (g v) x S Q) : rc b (o.bind g) x S Q := by
  obtain ⟨v, e, h⟩ := h
  rw [e, Option.bind_some]
  exact h
/-- readLine -/
theorem c_line {man ln : Int} (w : wC b S) (h : cG b S G) (hm : jI S 80 2 = man) (hln : jI S 81 3 = ln) (hl1 : 1 ≤ ln) (hbd : bdG G (cR S)) (hw : wfG G) (hk : kdG G) : ∃ x S', j_X2_readLine S = some (x, S') ∧ frC (FLn b) (RLn b) S S' ∧ rc b (liS man ln G (cR S)) x S' (fun q => cG b S' q.1 ∧ cR S' = q.2) := by
  have hg := g_or b
  obtain ⟨S1, e1, w1, f1, c1⟩ := c_skip w
  have h1 : cG b S1 G := cG_S h (frC_V (frC_C f1)) (xs := []) (by rw [List.append_nil]; exact sg_C f1)
  have m1 : jI S1 80 2 = man := by rw [f1.1 80 2 (by omega), hm]
  have n1 : jI S1 81 3 = ln := by rw [f1.1 81 3 (by omega), hln]
  have hsl := skb_len (cR S)
  obtain ⟨b1, b2, b3, b4, b5⟩ := hbd
  unfold j_X2_readLine j_X2_readLine_0 j_X2_readLine_98 j_X2_readLine_99
  rw [e1, Option.bind_some, w1.2.2.2.2.1, c1]
  by_cases h0 : hd (skb (cR S)) = -1
  · rw [show liS man ln G (cR S) = some (G, skb (cR S)) by unfold liS; rw [if_pos h0]]
    exact ⟨1, S1, it h0 rfl, frC_LC f1, rfl, w1, h1, c1⟩
  · have hr1 : 1 ≤ (skb (cR S)).length := by
      obtain ⟨c, s, e, _⟩ := hd_cons h0
      rw [e, List.length_cons]; omega
    by_cases h35 : hd (skb (cR S)) = 35
    · rw [show liS man ln G (cR S) = cmL G (skb (cR S)) by unfold liS; rw [if_neg h0, if_pos h35]]
      obtain ⟨x, S2, e2, f2, r2⟩ := c_com w1 h1 (by rw [c1]; exact h35) (by omega) (by omega)
      rw [c1] at r2
      refine ⟨x, S2, ie h0 (ie (by omega) (it h35 ?_)), frC_trans (frC_LC f1) f2, r2⟩
      rw [e2, Option.bind_some]
      refine it ?_ rfl
      cases o : cmL G (skb (cR S)) with
      | none => rw [o] at r2; exact .inl r2.1
      | some q => rw [o] at r2; exact .inr r2.1
    · by_cases h33 : hd (skb (cR S)) = 33
      · rw [show liS man ln G (cR S) = ctL G (skb (cR S)) by unfold liS; rw [if_neg h0, if_neg h35, if_pos h33]]
        obtain ⟨x, S2, e2, f2, r2⟩ := c_cnt w1 h1 (by rw [c1]; exact h33) (by omega) (by omega)
        rw [c1] at r2
        refine ⟨x, S2, ie h0 (it h33 ?_), frC_trans (frC_LC f1) f2, r2⟩
        rw [e2, Option.bind_some]
        refine it ?_ rfl
        cases o : ctL G (skb (cR S)) with
        | none => rw [o] at r2; exact .inl r2.1
        | some q => rw [o] at r2; exact .inr r2.1
      · by_cases h37 : hd (skb (cR S)) = 37
        · rw [show liS man ln G (cR S) = heL G (skb (cR S)) by unfold liS; rw [if_neg h0, if_neg h35, if_neg h33, if_pos h37]]
          obtain ⟨x, S2, e2, f2, r2⟩ := c_hea w1 h1 (by rw [c1]; exact h37) (by omega)
          rw [c1] at r2
          refine ⟨x, S2, ie h0 (ie h33 (ie h35 (it h37 ?_))), frC_trans (frC_LC f1) f2, r2⟩
          rw [e2, Option.bind_some]
          refine it ?_ rfl
          cases o : heL G (skb (cR S)) with
          | none => rw [o] at r2; exact .inl r2.1
          | some q => rw [o] at r2; exact .inr r2.1
        · rw [show liS man ln G (cR S) = arL man ln G (skb (cR S)) by unfold liS; rw [if_neg h0, if_neg h35, if_neg h33, if_neg h37], arL_en, if_neg h0, if_neg h33, if_neg h35, if_neg h37]
          obtain ⟨x2, S2, e2, f2, m2, r2⟩ := c_ends w1 h1 m1 hw.1 (by have := hw.2.2.1; omega)
          rw [c1] at r2
          rw [e2, Option.bind_some]
          have g2 := frC_trans (frC_LC (b := b) f1) f2
          cases o2 : enS man G (skb (cR S)) with
          | none =>
            rw [o2] at r2
            exact ⟨0, S2, it r2.1 (it (.inl rfl) rfl), g2, rfl, r2.2⟩
          | some p =>
            rw [o2] at r2
            obtain ⟨rfl, w2, c2, h2, j13, j14, j15, j12⟩ := r2
            rw [if_neg (show ¬ (1 : Int) = 0 by decide), Option.bind_some]
            dsimp only
            have hfl : (flV (gAr G)).length = (gAr G).length * (gHe G).length := flV_len (fun x hx => (hw.2.2.2.1 x hx).1)
            have hfl2 : (gAr G).length * (gHe G).length ≤ 40 * 3 := Nat.mul_le_mul hw.2.2.1 hw.2.1
            have hh3 := hw.2.1
            have hkm : ∀ k ∈ (gHe G).map (fun h => h.2), 0 ≤ k ∧ k ≤ 3 := fun k hk' => by
              obtain ⟨y, hy, e⟩ := List.mem_map.mp hk'
              rw [← e]; exact hk y hy
            obtain ⟨x3, S3, e3, f3, r3⟩ := l6_vs hkm (by rw [List.length_map]; exact hh3) ((gHe G).map (fun h => h.2)).length fuel 0 S2 _ _ _ (by omega) (by rw [List.length_map]; unfold fuel; omega) w2 h2 (by rw [List.length_map, List.length_map]; omega) (by rw [List.length_map, List.length_map]; omega) (by rw [List.length_map, List.length_map]; omega)
            rw [List.drop_zero, c2] at r3
            have g3 := frC_trans g2 (frC_VsL f3)
            unfold j_X2_readValues j_X2_readValues_0
            have e3' : j_X2_readValues_2 fuel 0 S2 = some (x3, S3) := e3
            rw [e3', Option.bind_some]
            cases o3 : vsS ((gHe G).map (fun h => h.2)) p.2 with
            | none =>
              rw [o3] at r3
              exact ⟨0, S3, it r3.1 (it (.inl rfl) rfl), g3, rfl, r3.2⟩
            | some v =>
              rw [o3] at r3
              obtain ⟨rfl, w3, c3, h3⟩ := r3
              rw [if_neg (show ¬ (1 : Int) = 0 by decide), Option.bind_some]
              dsimp only
              have hat := c_at w1
              obtain ⟨x4, S4, e4, f4, r4⟩ := c_eA (man := man) (ln := ln) (f := p.1.2.1) (t := p.1.2.2) w3 h3 (by rw [f3.1 80 2 (by omega), m2]) (by rw [f3.1 80 13 (by omega), j13]) (by rw [f3.1 80 14 (by omega), j14]) (by rw [f3.1 80 15 (by omega), j15]) (by rw [f3.1 80 12 (by omega), j12]; exact hat) (by rw [f3.1 81 3 (by omega), f2.1 81 3 (by omega), n1]) hw ⟨b3, by omega⟩ (by omega)
              rw [c3] at r4
              rw [e4, Option.bind_some]
              refine ⟨x4, S4, ?_, frC_trans g3 f4, r4⟩
              cases o4 : eaS man ln G p.1.1 p.1.2.1 p.1.2.2 v.1 v.2 with
              | none => rw [o4] at r4; exact it r4.1 (it (.inl rfl) (by rw [r4.1]))
              | some q => rw [o4] at r4; exact ie (by rw [r4.1]; exact (by decide : ¬ (1 : Int) = 0)) (it (.inr rfl) (by rw [r4.1]))
end CLI
