section FIN
variable {G : gT}
theorem pcs_len : ∀ (vs : List vT) (ks : List Int), (∀ v ∈ vs, vG v) → (pcs ks vs).length ≤ vsU vs := by
  intro vs
  induction vs with
  | nil =>
    intro ks _
    cases ks with
    | nil => exact Nat.le_refl _
    | cons k ks => exact Nat.le_refl _
  | cons v vs ih =>
    intro ks h
    cases ks with
    | nil => exact Nat.zero_le _
    | cons k ks =>
      have h1 := (h v (List.mem_cons_self ..)).2 k
      have h2 := ih ks (fun x hx => h x (List.mem_cons_of_mem _ hx))
      rw [pcs_cons, List.length_cons, List.length_append]
      show _ ≤ (1 + vlU v) + vsU vs
      omega
theorem par_len {x : aT} (h : ∀ v ∈ x.2.2.2, vG v) : (par G x).length + 1 ≤ arU (gNo G) x := by
  have := pcs_len x.2.2.2 ((gHe G).map (fun h => h.2)) h
  unfold par arU
  rw [List.length_append, List.length_cons, List.length_append]
  show nmL (ndG G x.1) + (nmL (ndG G x.2.1) + _ + 1) + 1 ≤ _
  unfold ndG
  omega
theorem smL_drop {α : Type} {f : α → Nat} {l : List α} {d : α} {k : Nat} (h : k < l.length) : smL f (l.drop k) = f (l.getD k d) + smL f (l.drop (k + 1)) := by
  rw [drop_getDG (d := d) h]
  rfl
theorem pli_len (hv : ∀ x ∈ gAr G, ∀ v ∈ x.2.2.2, vG v) : ∀ (ss : List Int) (c h a : Nat), lnC G ss c h a → (pli G ss c h a).length ≤ smL (fun c => c.length + 2) ((gCo G).drop c) + smL (fun h => nmL h.1 + 5) ((gHe G).drop h) + smL (arU (gNo G)) ((gAr G).drop a) + ss.count 1 * ctU (gCt G) := by
  intro ss
  induction ss with
  | nil => intro c h a _; exact Nat.zero_le _
  | cons s ss ih =>
    intro c h a hl
    obtain ⟨hl', i0, i1, i2, i3⟩ := lnC_tl hl
    have := ih _ _ _ hl'
    rw [pli, List.length_append, List.length_cons, List.count_cons]
    rcases hl.1 s (List.mem_cons_self ..) with e | e | e | e
    · have i := i0 e
      subst e
      rw [if_pos rfl, if_neg (by decide), if_pos (.inl rfl)] at this ⊢
      rw [smL_drop (l := gCo G) (d := []) i, show pl1 G 0 c h a = 35 :: (gCo G).getD c [] from rfl, List.length_cons, show ((0 : Int) == 1) = false by decide]
      simp only [Bool.false_eq_true, if_false, Nat.add_zero]
      omega
    · have i := i1 e
      subst e
      rw [if_neg (by decide), if_neg (by decide), if_pos (.inr (.inl rfl))] at this ⊢
      obtain ⟨ct, hct⟩ := Option.isSome_iff_exists.mp i
      rw [show pl1 G 1 c h a = 33 :: 32 :: (pwh (ctG G).1 ++ 32 :: pwh (ctG G).2) from rfl, ctG_some hct, show ((1 : Int) == 1) = true by decide]
      simp only [if_true]
      rw [hct] at this ⊢
      rw [Nat.add_mul, Nat.one_mul, List.length_cons, List.length_cons, List.length_append, List.length_cons]
      show _ ≤ smL (fun c => c.length + 2) ((gCo G).drop c) + smL (fun h => nmL h.1 + 5) ((gHe G).drop h) + smL (arU (gNo G)) ((gAr G).drop a) + (ss.count 1 * ctU (some ct) + ((pwh ct.1).length + (pwh ct.2).length + 4))
      omega
    · have i := i2 e
      subst e
      rw [if_neg (by decide), if_pos rfl, if_pos (.inr (.inr rfl))] at this ⊢
      rw [smL_drop (l := gHe G) (d := ([], 0)) i, show pl1 G 2 c h a = 37 :: 32 :: (pnm ((gHe G).getD h ([], 0)).1 ++ [32, ktS ((gHe G).getD h ([], 0)).2]) from rfl, List.length_cons, List.length_cons, List.length_append, show ((2 : Int) == 1) = false by decide]
      simp only [Bool.false_eq_true, if_false, Nat.add_zero, List.length_cons, List.length_nil]
      show nmL ((gHe G).getD h ([], 0)).1 + _ + _ + _ + _ ≤ _
      omega
    · have i := i3 (by omega)
      subst e
      rw [if_neg (by decide), if_neg (by decide), if_neg (by decide)] at this ⊢
      have hp := par_len (G := G) (hv _ (getD_memG (d := (0, 0, 0, [])) i))
      rw [smL_drop (l := gAr G) (d := (0, 0, 0, [])) i, show pl1 G 3 c h a = par G ((gAr G).getD a (0, 0, 0, [])) from rfl, show ((3 : Int) == 1) = false by decide]
      simp only [Bool.false_eq_true, if_false, Nat.add_zero]
      omega
theorem prS_len (hi : iv G) : (prS G).length ≤ ubG G := by
  obtain ⟨v1, v2, v3, v4, v5, v6⟩ := hi
  have := pli_len v3 (gLi G) 0 0 0 v5
  rw [List.drop_zero, List.drop_zero, List.drop_zero, v6] at this
  unfold prS ubG
  cases hc : gCt G with
  | none =>
    rw [hc] at this
    simp only [Option.isSome_none, Bool.false_eq_true, if_false, Nat.zero_mul] at this
    show _ ≤ _ + 0
    exact this
  | some c =>
    rw [hc] at this
    simp only [Option.isSome_some, if_true, Nat.one_mul] at this
    exact this
theorem smL_map {α β : Type} {f : α → β} {g : β → Nat} {l : List α} : smL (fun x => g (f x)) l = smL g (l.map f) := by
  induction l with
  | nil => rfl
  | cons x l ih => show g (f x) + _ = g (f x) + _; rw [ih]
theorem ubG_st : ubG (stG G) = ubG G := by
  have : smL (fun h : List Int × Int => nmL h.1 + 5) (gHe (stG G)) = smL (fun h : List Int × Int => nmL h.1 + 5) (gHe G) := by
    rw [smL_map (f := fun h : List Int × Int => h.1) (g := fun n => nmL n + 5), smL_map (f := fun h : List Int × Int => h.1) (g := fun n => nmL n + 5), stG_map1]
  unfold ubG
  rw [this]
  rfl
theorem iv_st (h : iv G) : iv (stG G) := by
  obtain ⟨v1, v2, v3, v4, ⟨l1, l2, l3, l4, l5⟩, v6⟩ := h
  exact ⟨v1, v2, v3, v4, ⟨l1, l2, l3, by rw [stG_len]; exact l4, l5⟩, v6⟩
theorem wfG_st (h : wfG G) : wfG (stG G) := by
  obtain ⟨w1, w2, w3, w4, w5, w6⟩ := h
  exact ⟨w1, by rw [stG_len]; exact w2, w3, (fun x hx => by rw [stG_len]; exact w4 x hx), w5, w6⟩
theorem gsK_b (vs : List Int) : 0 ≤ gsK vs ∧ gsK vs ≤ 2 := by
  unfold gsK
  split
  · omega
  · split
    · omega
    · omega
theorem kd2_st (h : kdG G) : kd2 (stG G) := by
  intro x hx
  obtain ⟨i, hi, e⟩ := List.mem_iff_getElem.mp hx
  have hi' : i < (gHe G).length := by rw [stG_len] at hi; exact hi
  have e2 : (gHe (stG G)).getD i ([], 0) = x := by
    rw [List.getD_eq_getElem?_getD, List.getElem?_eq_getElem hi, e]; rfl
  rw [stG_he hi'] at e2
  rw [← e2]
  show 0 ≤ stK G i _ ∧ stK G i _ ≤ 2
  have hk := h _ (getD_memG (d := ([], 0)) hi')
  unfold stK
  split
  · exact gsK_b _
  · omega
/-- what a graph that was read has -/
def fG (G : gT) : Prop := prB G ∧ kd2 G ∧ (gNo G).Nodup
theorem fG_of (hw : wfG G) (hk : kdG G) (hi : iv G) (hu : ubG G ≤ 601 + 6 * (gAr G).length) : fG (stG G) := by
  have h1 := prS_len (iv_st hi)
  rw [ubG_st] at h1
  have w3 := hw.2.2.1
  obtain ⟨v1, v2, v3, v4, v5, v6⟩ := iv_st hi
  exact ⟨⟨wfG_st hw, (fun x hx v hv => (v3 x hx v hv).1), v2, v4, v5, by omega⟩, kd2_st hk, v1⟩
theorem rdS_fG {man : Int} {t : List Int} (h : rdS man t = some G) (hl : t.length ≤ 600) : fG G := by
  rw [rdS_eq] at h
  obtain ⟨G', h1, h⟩ := Option.bind_eq_some_iff.mp h
  obtain ⟨a1, a2, a3, a4⟩ := tx_iv 600 man 1 g0 t G' h1 (fun _ => bdG_0 hl) wfG_0 kdG_0 iv_0 (fun _ => by show 0 + t.length ≤ 600 + 6 * 0; omega) (by decide)
  have hf := fG_of a1 a2 a3 a4
  cases hc : gCt G' with
  | none => rw [hc] at h; cases h; exact hf
  | some c =>
    rw [hc] at h
    dsimp only at h
    split at h
    · cases h; exact hf
    · cases h
theorem fG_0 : fG g0 := by
  have h := fG_of wfG_0 kdG_0 iv_0 (by decide)
  exact h
end FIN
