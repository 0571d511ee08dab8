section CLA
variable {S S' S'' : iS} {b : Bool} {No Hn Co : List (List Int)} {Hk Af At Al : List Int} {Vs : List (List Int)} {Vt Vh Li : List Int} {Lo : Int} {Ct : Option (Int × Int)} {Wa : Bool}
abbrev FCu (b : Bool) (a f : Nat) : Prop := (a = gadr b + 31 ∧ f = 1) ∨ (a = gadr b + 33 ∧ f = 1) ∨ (a = gadr b + 27 ∧ f = 1) ∨ (a = gadr b + 29 ∧ f = 1) ∨ (a = gadr b + 26 ∧ f = 3) ∨ (a = gadr b ∧ f = 12)
/-- leaveArcOut -/
theorem c_lao {vs : List (List Int)} {vt vh : List Int} (w : wC b S) (h : cH b S No Hn Co Hk Af At Al (Vs ++ vs) (Vt ++ vt) (Vh ++ vh) Li Lo Ct Wa) (hr : Af.length * Hn.length = Vs.length) (e1 : Vt.length = Vs.length) (e2 : Vh.length = Vs.length) (hv : Vs.length ≤ 1000) (hl : 0 ≤ Lo ∧ Lo ≤ 1000) : ∃ S', j_X1_leaveArcOut b S = some S' ∧ frC (FCu b) R0 S S' ∧ wC b S' ∧ cR S' = cR S ∧ cH b S' No Hn Co Hk Af At Al Vs Vt Vh Li (Lo + 1) Ct Wa := by
  have hg := g_or b
  obtain ⟨h1, h2, h3, h4, ⟨h5, h6, h7⟩, ⟨h8, h9, h10⟩, h11, h12, h13, h14⟩ := h
  have a1 : jI S (gadr b + 20) 1 = Af.length := by
    have := rv_len h5.1
    rw [h5.2] at this
    exact this.symm
  have a2 : jI S (gadr b + 8) 3 = Hn.length := h2.2.2.2.2.1
  have a3 : jI S (gadr b + 20) 1 * jI S (gadr b + 8) 3 = (Vs.length : Int) := by rw [a1, a2, ← Int.natCast_mul, hr]
  obtain ⟨c1, t1⟩ := rT_cut h9 (n := Vs.length) (by rw [List.length_append]; omega)
  rw [← e1, List.take_left, e1] at t1
  have t2 : rT (kI S (gadr b + 31) 1 (Vs.length : Int)) (gadr b + 33) (Vh ++ vh) := rT_eq h10 (jI_ne (.inl (by omega))) rfl
  obtain ⟨c2, t3⟩ := rT_cut t2 (n := Vs.length) (by rw [List.length_append]; omega)
  rw [← e2, List.take_left, e2] at t3
  have t4 : spn (kI (kI S (gadr b + 31) 1 (Vs.length : Int)) (gadr b + 33) 1 (Vs.length : Int)) (gadr b + 26) (sg b S) (Vs ++ vs) := spn_eq h8 (by rw [jI_ne (.inl (by omega)), jI_ne (.inl (by omega))]) rfl (by rw [jI_ne (.inl (by omega)), jI_ne (.inl (by omega))]) rfl (by rw [jI_ne (.inl (by omega)), jI_ne (.inl (by omega))])
  obtain ⟨S3, c3, hS3, t5⟩ := spn_cut t4 (n := Vs.length) (by rw [List.length_append]; omega)
  rw [List.take_left] at t5
  have f3 : frC (FCu b) R0 S S3 := by
    rw [hS3]
    exact frC_trans (frC_kI (by omega)) (frC_trans (frC_kI (by omega)) (frC_trans (frC_kI (by omega)) (frC_trans (frC_kI (by omega)) (frC_kI (by omega)))))
  have z3 : zS S3 := by rw [hS3]; exact w.1
  have l3 : jI S3 (gadr b) 12 = Lo := by
    rw [hS3, jI_ne (.inl (by omega)), jI_ne (.inl (by omega)), jI_ne (.inl (by omega)), jI_ne (.inl (by omega)), jI_ne (.inl (by omega)), h12]
  have q31 : rT S3 (gadr b + 31) Vt := by
    rw [hS3]
    exact rT_eq t1 (by rw [jI_ne (.inl (by omega)), jI_ne (.inl (by omega)), jI_ne (.inl (by omega)), jI_ne (.inl (by omega))]) rfl
  have q33 : rT S3 (gadr b + 33) Vh := by
    rw [hS3]
    exact rT_eq t3 (by rw [jI_ne (.inl (by omega)), jI_ne (.inl (by omega)), jI_ne (.inl (by omega))]) rfl
  have f : frC (FCu b) R0 S (kI S3 (gadr b) 12 (Lo + 1)) := frC_trans f3 (frC_kI (by omega))
  obtain ⟨w', c'⟩ := wC_fr w f z3 (by omega) (by omega) (by omega) (by omega) (by omega) (fun q => q)
  have K : ∀ a q, gadr b + 3 ≤ a → a ≤ gadr b + 36 → (a < gadr b + 26 ∨ gadr b + 35 ≤ a) → jI (kI S3 (gadr b) 12 (Lo + 1)) a q = jI S a q ∧ jA (kI S3 (gadr b) 12 (Lo + 1)) a = jA S a := fun a q p1 p2 p3 => ⟨f.1 a q (by omega), f.2.1 a (fun q => q)⟩
  have hs : sg b (kI S3 (gadr b) 12 (Lo + 1)) = sg b S := by
    unfold sg gv
    rw [f.1 (gadr b + 1) 1 (by omega), f.2.1 (gadr b + 2) (fun q => q)]
  refine ⟨kI S3 (gadr b) 12 (Lo + 1), ?_, f, w', c', ?_⟩
  · unfold j_X1_leaveArcOut j_X1_leaveArcOut_0 j_X1_roomOf j_X1_roomOf_0
    rw [a3, Int.add_zero, if_pos (show rg (Vs.length : Int) from ⟨by omega, by omega⟩), if_pos (show rg (Vs.length : Int) from ⟨by omega, by omega⟩), Option.bind_some]
    dsimp only
    rw [c1, Option.bind_some, c2, Option.bind_some, c3, Option.bind_some, l3]
    exact it ⟨by omega, by omega⟩ rfl
  · unfold cH
    rw [hs]
    exact ⟨sp_k h1 (fun a q p1 p2 => K a q (by omega) (by omega) (by omega)), sp_k h2 (fun a q p1 p2 => K a q (by omega) (by omega) (by omega)), sp_k h3 (fun a q p1 p2 => K a q (by omega) (by omega) (by omega)), rt_k h4 (fun a q p1 p2 => K a q (by omega) (by omega) (by omega)), ⟨rt_k h5 (fun a q p1 p2 => K a q (by omega) (by omega) (by omega)), rt_k h6 (fun a q p1 p2 => K a q (by omega) (by omega) (by omega)), rt_k h7 (fun a q p1 p2 => K a q (by omega) (by omega) (by omega))⟩, ⟨spn_eq t5 (jI_ne (.inl (by omega))) rfl (jI_ne (.inl (by omega))) rfl (jI_ne (.inl (by omega))), rT_eq q31 (jI_ne (.inl (by omega))) rfl, rT_eq q33 (jI_ne (.inl (by omega))) rfl⟩, rt_k h11 (fun a q p1 p2 => K a q (by omega) (by omega) (by omega)), jI_eq, ct_k (f.1 80 4 (by omega)) (f.1 (gadr b) 13 (by omega)) (f.1 (gadr b) 14 (by omega)) h13, (f.1 80 3 (by omega)).trans h14⟩
end CLA
