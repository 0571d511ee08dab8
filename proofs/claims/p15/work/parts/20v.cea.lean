section CEA
variable {S S' S'' : iS} {b : Bool} {G : gT}
theorem flV_len {l : List (Int × Int × Int × List vT)} {n : Nat} (h : ∀ x ∈ l, x.2.2.2.length = n) : (flV l).length = l.length * n := by
  induction l with
  | nil => simp [flV]
  | cons x l ih =>
    have h1 := h x (List.mem_cons_self ..)
    have h2 := ih (fun y hy => h y (List.mem_cons_of_mem _ hy))
    show (x.2.2.2 ++ flV l).length = (l.length + 1) * n
    rw [List.length_append, h1, h2, Nat.add_mul, Nat.one_mul, Nat.add_comm]
theorem flV_app {l : List (Int × Int × Int × List vT)} {x : Int × Int × Int × List vT} : flV (l ++ [x]) = flV l ++ x.2.2.2 := by
  unfold flV
  rw [List.flatMap_append, List.flatMap_cons, List.flatMap_nil, List.append_nil]
abbrev cHV (b : Bool) (S : iS) (G : gT) (N : List (List Int)) (v : List vT) (wa : Bool) : Prop := cH b S N ((gHe G).map (fun h => h.1)) (gCo G) ((gHe G).map (fun h => h.2)) ((gAr G).map (fun x => x.1)) ((gAr G).map (fun x => x.2.1)) ((gAr G).map (fun x => x.2.2.1)) ((flV (gAr G)).map vsg ++ v.map vsg) ((flV (gAr G)).map (fun v => v.1) ++ v.map (fun v => v.1)) ((flV (gAr G)).map (fun v => v.2.1) ++ v.map (fun v => v.2.1)) (gLi G) (gLo G) (gCt G) wa
theorem cH_wa {No Hn Co : List (List Int)} {Hk Af At Al : List Int} {Vs : List (List Int)} {Vt Vh Li : List Int} {Lo : Int} {Ct : Option (Int × Int)} {Wa : Bool} (h : cH b S No Hn Co Hk Af At Al Vs Vt Vh Li Lo Ct Wa) : cH b (kI S 80 3 1) No Hn Co Hk Af At Al Vs Vt Vh Li Lo Ct true := by
  have hg := g_or b
  have f : frC (fun a f => a = 80 ∧ f = 3) R0 S (kI S 80 3 1) := frC_kI ⟨rfl, rfl⟩
  obtain ⟨h1, h2, h3, h4, ⟨h5, h6, h7⟩, ⟨h8, h9, h10⟩, h11, h12, h13, h14⟩ := h
  have K : ∀ a q, gadr b + 3 ≤ a → a ≤ gadr b + 36 → jI (kI S 80 3 1) a q = jI S a q ∧ jA (kI S 80 3 1) a = jA S a := fun a q p1 p2 => ⟨f.1 a q (by omega), f.2.1 a (fun q => q)⟩
  unfold cH
  rw [sg_8]
  exact ⟨sp_k h1 (fun a q p1 p2 => K a q (by omega) (by omega)), sp_k h2 (fun a q p1 p2 => K a q (by omega) (by omega)), sp_k h3 (fun a q p1 p2 => K a q (by omega) (by omega)), rt_k h4 (fun a q p1 p2 => K a q (by omega) (by omega)), ⟨rt_k h5 (fun a q p1 p2 => K a q (by omega) (by omega)), rt_k h6 (fun a q p1 p2 => K a q (by omega) (by omega)), rt_k h7 (fun a q p1 p2 => K a q (by omega) (by omega))⟩, ⟨sp_k h8 (fun a q p1 p2 => K a q (by omega) (by omega)), rt_k h9 (fun a q p1 p2 => K a q (by omega) (by omega)), rt_k h10 (fun a q p1 p2 => K a q (by omega) (by omega))⟩, rt_k h11 (fun a q p1 p2 => K a q (by omega) (by omega)), (f.1 (gadr b) 12 (by omega)).trans h12, ct_k (f.1 80 4 (by omega)) (f.1 (gadr b) 13 (by omega)) (f.1 (gadr b) 14 (by omega)) h13, jI_eq⟩
/-- addArc -/
theorem c_aa {N : List (List Int)} {v : List vT} {f t ln : Int} (w : wC b S) (h : cHV b S G N v true) (ha : (gAr G).length < 40) (hl : (gLi G).length < 300) : ∃ S', j_X1_addArc b f t ln S = some S' ∧ frC (FLn b) (RLn b) S S' ∧ wC b S' ∧ cR S' = cR S ∧ cG b S' (N, gHe G, gCo G, gAr G ++ [(f, t, ln, v)], gLi G ++ [3], gLo G, gCt G, true) := by
  obtain ⟨S1, e1, z1, f1, s1, h1⟩ := cH_Af w.1 h (x := f) (by rw [List.length_map]; exact ha)
  obtain ⟨w1, d1⟩ := wC_R (by decide) (by decide) w f1 z1
  obtain ⟨S2, e2, z2, f2, s2, h2⟩ := cH_At w1.1 h1 (x := t) (by rw [List.length_map]; exact ha)
  obtain ⟨w2, d2⟩ := wC_R (by decide) (by decide) w1 f2 z2
  obtain ⟨S3, e3, z3, f3, s3, h3⟩ := cH_Al w2.1 h2 (x := ln) (by rw [List.length_map]; exact ha)
  obtain ⟨w3, d3⟩ := wC_R (by decide) (by decide) w2 f3 z3
  obtain ⟨S4, e4, z4, f4, s4, h4⟩ := cH_Li w3.1 h3 (x := 3) hl
  obtain ⟨w4, d4⟩ := wC_R (by decide) (by decide) w3 f4 z4
  refine ⟨S4, ?_, frC_trans (frC_L3 (by decide) f1) (frC_trans (frC_L3 (by decide) f2) (frC_trans (frC_L3 (by decide) f3) (frC_L3 (by decide) f4))), w4, by rw [d4, d3, d2, d1], cG_cH.mpr ?_⟩
  · unfold j_X1_addArc j_X1_addArc_0
    rw [e1, Option.bind_some, e2, Option.bind_some, e3, Option.bind_some, e4, Option.bind_some]
  · show cH b S4 N ((gHe G).map (fun h => h.1)) (gCo G) ((gHe G).map (fun h => h.2)) ((gAr G ++ [(f, t, ln, v)]).map (fun x => x.1)) ((gAr G ++ [(f, t, ln, v)]).map (fun x => x.2.1)) ((gAr G ++ [(f, t, ln, v)]).map (fun x => x.2.2.1)) ((flV (gAr G ++ [(f, t, ln, v)])).map vsg) ((flV (gAr G ++ [(f, t, ln, v)])).map (fun v => v.1)) ((flV (gAr G ++ [(f, t, ln, v)])).map (fun v => v.2.1)) (gLi G ++ [3]) (gLo G) (gCt G) true
    rw [flV_app, List.map_append, List.map_append, List.map_append, List.map_append, List.map_append, List.map_append]
    exact h4
end CEA
