section CVS
variable {S S' S'' : iS} {b : Bool} {No Hn Co : List (List Int)} {Hk Af At Al : List Int} {Vs : List (List Int)} {Vt Vh Li : List Int} {Lo : Int} {Ct : Option (Int × Int)} {Wa : Bool}
/-- what VALUES change -/
abbrev FVs (b : Bool) (a f : Nat) : Prop := FV b a f ∨ FR b 31 a f ∨ FR b 33 a f ∨ FO b 26 a f
abbrev RVs (b : Bool) (a : Nat) : Prop := RS b a ∨ RR b 31 a ∨ RR b 33 a ∨ RP b 26 a
theorem frC_VsL (h : frC (FVs b) (RVs b) S S') : frC (FLn b) (RLn b) S S' := frC_mono h (fun a f q => by have := g_or b; omega) (fun a q => by omega)
/-- addValue -/
theorem c_av (w : wC b S) (h : cH b S No Hn Co Hk Af At Al Vs Vt Vh Li Lo Ct Wa) {ty th : Int} {pre v : List Int} (hs : sg b S = pre ++ v) (c1 : Vs.length < 123) (c2 : Vt.length < 123) (c3 : Vh.length < 123) : ∃ S', j_X1_addValue b ty th (pre.length : Int) S = some S' ∧ frC (FVs b) (RVs b) S S' ∧ wC b S' ∧ cR S' = cR S ∧ cH b S' No Hn Co Hk Af At Al (Vs ++ [v]) (Vt ++ [ty]) (Vh ++ [th]) Li Lo Ct Wa := by
  have hg := g_or b
  obtain ⟨S1, e1, z1, f1, s1, h1⟩ := cH_Vt w.1 h (x := ty) c2
  obtain ⟨w1, d1⟩ := wC_R (by decide) (by decide) w f1 z1
  obtain ⟨S2, e2, z2, f2, s2, h2⟩ := cH_Vh w1.1 h1 (x := th) c3
  obtain ⟨w2, d2⟩ := wC_R (by decide) (by decide) w1 f2 z2
  have hs2 : sg b S2 = pre ++ v := by rw [s2, s1, hs]
  have m2 := sg_len w2
  have m3 : (sg b S2).length = pre.length + v.length := by rw [hs2, List.length_append]
  have m5 := w2.2.2.2.2.2.2
  obtain ⟨S3, e3, z3, f3, s3, h3⟩ := cH_Vs w2.1 h2 (st := pre.length) (ln := v.length) (by omega) c1
  obtain ⟨w3, d3⟩ := wC_O (by decide) (by decide) w2 f3 z3
  rw [hs2, app_cut] at h3
  refine ⟨S3, ?_, ?_, w3, by rw [d3, d2, d1], h3⟩
  · unfold j_X1_addValue j_X1_addValue_0
    rw [e1, Option.bind_some, e2, Option.bind_some, show jI S2 (gadr b + 1) 1 - (pre.length : Int) = (v.length : Int) by omega]
    refine it ⟨by omega, by omega⟩ ?_
    rw [e3, Option.bind_some]
  · exact frC_trans (frC_mono f1 (fun _ _ q => .inr (.inl q)) (fun _ q => .inr (.inl q))) (frC_trans (frC_mono f2 (fun _ _ q => .inr (.inr (.inl q))) (fun _ q => .inr (.inr (.inl q)))) (frC_mono f3 (fun _ _ q => .inr (.inr (.inr q))) (fun _ q => .inr (.inr (.inr q)))))
end CVS
