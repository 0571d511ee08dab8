section INV
variable {G : gT}
def smL {α : Type} (f : α → Nat) : List α → Nat
  | [] => 0
  | x :: xs => f x + smL f xs
theorem smL_app {α : Type} {f : α → Nat} {l : List α} {x : α} : smL f (l ++ [x]) = smL f l + f x := by
  induction l with
  | nil => show f x + 0 = 0 + f x; omega
  | cons y l ih => show f y + smL f (l ++ [x]) = f y + smL f l + f x; rw [ih]; omega
theorem smL_congr {α : Type} {f g : α → Nat} {l : List α} (h : ∀ x ∈ l, f x = g x) : smL f l = smL g l := by
  induction l with
  | nil => rfl
  | cons y l ih =>
    show f y + smL f l = g y + smL g l
    rw [h y (List.mem_cons_self ..), ih (fun x hx => h x (List.mem_cons_of_mem _ hx))]
abbrev aT : Type := Int × Int × Int × List vT
def vsU (vs : List vT) : Nat := smL (fun v => 1 + vlU v) vs
def arU (N : List (List Int)) (x : aT) : Nat := nmL (N.getD x.1.toNat []) + nmL (N.getD x.2.1.toNat []) + vsU x.2.2.2 + 2
def ctU : Option (Int × Int) → Nat
  | none => 0
  | some c => (pwh c.1).length + (pwh c.2).length + 4
/-- no more bytes than these are WRITTEN -/
def ubG (G : gT) : Nat := smL (fun c => c.length + 2) (gCo G) + smL (fun h => nmL h.1 + 5) (gHe G) + smL (arU (gNo G)) (gAr G) + ctU (gCt G)
def inR (N : List (List Int)) (x : aT) : Prop := (0 ≤ x.1 ∧ x.1 < N.length) ∧ (0 ≤ x.2.1 ∧ x.2.1 < N.length)
def ctB (o : Option (Int × Int)) : Prop := ∀ c, o = some c → (0 ≤ c.1 ∧ c.1 ≤ 99) ∧ (0 ≤ c.2 ∧ c.2 ≤ 99)
/-- what holds of all that is read -/
def iv (G : gT) : Prop := (gNo G).Nodup ∧ (∀ x ∈ gAr G, inR (gNo G) x) ∧ (∀ x ∈ gAr G, ∀ v ∈ x.2.2.2, vG v) ∧ ctB (gCt G) ∧ lnC G (gLi G) 0 0 0 ∧ (gLi G).count 1 = (if (gCt G).isSome then 1 else 0)
theorem iv_0 : iv g0 := ⟨List.nodup_nil, (fun x hx => absurd hx List.not_mem_nil), (fun x hx => absurd hx List.not_mem_nil), (fun c hc => by cases hc), ⟨(fun s hs => absurd hs List.not_mem_nil), (fun hs => absurd hs List.not_mem_nil), rfl, rfl, rfl⟩, rfl⟩
theorem vsS_co : ∀ {ks r : List Int} {q : List vT × List Int}, vsS ks r = some q → vsU q.1 + q.2.length ≤ r.length + 2 * ks.length ∧ ∀ v ∈ q.1, vG v := by
  intro ks
  induction ks with
  | nil =>
    intro r q h
    rw [vsS] at h
    cases h
    exact ⟨by show 0 + r.length ≤ r.length + 2 * 0; omega, fun v hv => absurd hv List.not_mem_nil⟩
  | cons k ks ih =>
    intro r q h
    rw [vsS] at h
    obtain ⟨r1, h1, h⟩ := Option.bind_eq_some_iff.mp h
    obtain ⟨p, h2, h⟩ := Option.bind_eq_some_iff.mp h
    obtain ⟨s, h3, e⟩ := Option.map_eq_some_iff.mp h
    have g1 := gpS_co h1
    obtain ⟨g2, g3⟩ := vlS_co h2
    obtain ⟨g4, g5⟩ := ih h3
    rw [← e]
    refine ⟨?_, fun v hv => ?_⟩
    · show (1 + vlU p.1) + vsU s.1 + s.2.length ≤ r.length + 2 * (ks.length + 1)
      omega
    · rcases List.mem_cons.mp hv with q | q
      · rw [q]; exact vG_of (vlS_sh h2) (vlS_ty h2) g3
      · exact g5 v q
theorem ixO_mem : ∀ (l : List (List Int)) (x : List Int), x ∈ l → ixO l x < l.length ∧ l.getD (ixO l x) [] = x := by
  intro l
  induction l with
  | nil => intro x h; exact absurd h List.not_mem_nil
  | cons y l ih =>
    intro x h
    rw [ixO_cons]
    by_cases e : y = x
    · rw [if_pos e]
      exact ⟨Nat.succ_pos _, e⟩
    · rw [if_neg e]
      rcases List.mem_cons.mp h with q | q
      · exact absurd q.symm e
      · obtain ⟨i1, i2⟩ := ih x q
        exact ⟨by rw [List.length_cons]; omega, i2⟩
/-- the NODES go on as they were -/
def exN (l N : List (List Int)) : Prop := l.length ≤ N.length ∧ ∀ i, i < l.length → N.getD i [] = l.getD i []
theorem exN_trans {l m n : List (List Int)} (h : exN l m) (h' : exN m n) : exN l n := ⟨Nat.le_trans h.1 h'.1, fun i hi => (h'.2 i (Nat.lt_of_lt_of_le hi h.1)).trans (h.2 i hi)⟩
theorem ndS_co {l N : List (List Int)} {x : List Int} (h : ndS l x = some N) : (l.Nodup → N.Nodup) ∧ exN l N ∧ x ∈ N ∧ ∀ y ∈ l, y ∈ N := by
  unfold ndS at h
  split at h
  · next hin => cases h; exact ⟨fun q => q, ⟨Nat.le_refl _, fun _ _ => rfl⟩, hin, fun y hy => hy⟩
  · next hno =>
    split at h
    · cases h
    · cases h
      refine ⟨fun hd => ?_, ⟨by rw [List.length_append]; omega, fun i hi => ?_⟩, List.mem_append.mpr (.inr (List.mem_singleton.mpr rfl)), fun y hy => List.mem_append.mpr (.inl hy)⟩
      · rw [List.nodup_append]
        refine ⟨hd, by simp, fun a ha b hb => ?_⟩
        rw [List.mem_singleton.mp hb]
        exact fun q => hno (by rw [← q]; exact ha)
      · rw [List.getD_eq_getElem?_getD, List.getD_eq_getElem?_getD, List.getElem?_append_left hi]
theorem enS_co {man : Int} {r : List Int} {p : (List (List Int) × Int × Int) × List Int} (hd : (gNo G).Nodup) (h : enS man G r = some p) : p.1.1.Nodup ∧ exN (gNo G) p.1.1 ∧ (0 ≤ p.1.2.1 ∧ p.1.2.1 < p.1.1.length) ∧ (0 ≤ p.1.2.2 ∧ p.1.2.2 < p.1.1.length) ∧ nmL (p.1.1.getD p.1.2.1.toNat []) + 1 + nmL (p.1.1.getD p.1.2.2.toNat []) + p.2.length ≤ r.length := by
  unfold enS at h
  obtain ⟨a, h1, h⟩ := Option.bind_eq_some_iff.mp h
  obtain ⟨N1, h2, h⟩ := Option.bind_eq_some_iff.mp h
  obtain ⟨r1, h3, h⟩ := Option.bind_eq_some_iff.mp h
  obtain ⟨c, h4, h⟩ := Option.bind_eq_some_iff.mp h
  obtain ⟨N2, h5, h⟩ := Option.bind_eq_some_iff.mp h
  split at h
  · cases h
  · cases h
    obtain ⟨a1, a2, a3, a4⟩ := ndS_co h2
    obtain ⟨b1, b2, b3, b4⟩ := ndS_co h5
    obtain ⟨i1, i2⟩ := ixO_mem N2 a.1 (b4 _ a3)
    obtain ⟨j1, j2⟩ := ixO_mem N2 c.1 b3
    have e1 := (nmS_co h1).1
    have e2 := gpS_co h3
    have e3 := (nmS_co h4).1
    refine ⟨b1 (a1 hd), exN_trans a2 b2, ⟨by show (0 : Int) ≤ (ixO N2 a.1 : Int); omega, by show (ixO N2 a.1 : Int) < N2.length; omega⟩, ⟨by show (0 : Int) ≤ (ixO N2 c.1 : Int); omega, by show (ixO N2 c.1 : Int) < N2.length; omega⟩, ?_⟩
    show nmL (N2.getD ((ixO N2 a.1 : Int)).toNat []) + 1 + nmL (N2.getD ((ixO N2 c.1 : Int)).toNat []) + c.2.length ≤ r.length
    rw [show ((ixO N2 a.1 : Int)).toNat = ixO N2 a.1 by omega, show ((ixO N2 c.1 : Int)).toNat = ixO N2 c.1 by omega, i2, j2]
    omega
theorem arU_ex {l N : List (List Int)} {x : aT} (h : exN l N) (hr : inR l x) : arU N x = arU l x := by
  unfold arU
  rw [h.2 _ (by have := hr.1; omega), h.2 _ (by have := hr.2; omega)]
theorem inR_ex {l N : List (List Int)} {x : aT} (h : exN l N) (hr : inR l x) : inR N x := by
  have h1 := h.1
  have h2 := hr.1
  have h3 := hr.2
  exact ⟨⟨h2.1, by omega⟩, ⟨h3.1, by omega⟩⟩
theorem nuS_co {r : List Int} {q : Int × List Int} (h : nuS r = some q) : (0 ≤ q.1 ∧ q.1 ≤ 99) ∧ (pwh q.1).length + q.2.length ≤ r.length := by
  unfold nuS at h
  split at h
  · next hf =>
    obtain ⟨p, hp, e⟩ := Option.map_eq_some_iff.mp h
    obtain ⟨f1, f2, _⟩ := fgK_len hp
    have f3 := fgK_1 hf hp
    have f4 := fgK_co hp
    obtain ⟨d0, d1⟩ := dv_b f2
    have hl := pwh_len f3 (by omega) d1
    rw [← e]
    refine ⟨⟨d0, ?_⟩, ?_⟩
    · show dv p.1 ≤ 99
      have hn : p.1.length = 1 ∨ p.1.length = 2 := by omega
      rcases hn with e | e
      · rw [e, show (10 : Int) ^ 1 = 10 by decide] at d1; omega
      · rw [e, show (10 : Int) ^ 2 = 100 by decide] at d1; omega
    · show (pwh (dv p.1)).length + p.2.length ≤ r.length
      omega
  · cases h
theorem cnt_app {l : List Int} {s t : Int} : (l ++ [s]).count t = l.count t + (if s = t then 1 else 0) := by
  rw [List.count_append, List.count_singleton]
  by_cases h : s = t
  · rw [if_pos h]; simp [h]
  · rw [if_neg h]; simp [h]
theorem ln_mem {l : List Int} {s : Int} (h : ∀ s ∈ l, s = 0 ∨ s = 1 ∨ s = 2 ∨ s = 3) (hs : s = 0 ∨ s = 1 ∨ s = 2 ∨ s = 3) : ∀ x ∈ l ++ [s], x = 0 ∨ x = 1 ∨ x = 2 ∨ x = 3 := by
  intro x hx
  rcases List.mem_append.mp hx with q | q
  · exact h x q
  · rw [List.mem_singleton.mp q]; exact hs
theorem ln_1 {l : List Int} {s : Int} {P : Prop} (h : 1 ∈ l → P) (hs : s ≠ 1) : 1 ∈ l ++ [s] → P := by
  intro hx
  rcases List.mem_append.mp hx with q | q
  · exact h q
  · exact absurd (List.mem_singleton.mp q).symm hs
set_option maxHeartbeats 1000000 in
/-- a LINE keeps what holds, and costs no more than it had -/
theorem liS_iv {man ln : Int} {r : List Int} {q : gT × List Int} (h : liS man ln G r = some q) (hw : wfG G) (hi : iv G) : iv q.1 ∧ ubG q.1 + q.2.length + 6 * (gAr G).length ≤ ubG G + r.length + 1 + 6 * (gAr q.1).length := by
  obtain ⟨v1, v2, v3, v4, ⟨l1, l2, l3, l4, l5⟩, v6⟩ := hi
  have hs := skb_len r
  unfold liS at h
  split at h
  · cases h
    exact ⟨⟨v1, v2, v3, v4, ⟨l1, l2, l3, l4, l5⟩, v6⟩, by show ubG G + (skb r).length + 6 * (gAr G).length ≤ ubG G + r.length + 1 + 6 * (gAr G).length; omega⟩
  · next hne =>
    have ht := tl_1 hne
    split at h
    · unfold cmL at h
      obtain ⟨p, hp, e⟩ := Option.map_eq_some_iff.mp h
      have hc := cmK_co hp
      rw [← e]
      refine ⟨⟨v1, v2, v3, v4, ⟨ln_mem l1 (.inl rfl), ln_1 l2 (by decide), ?_, ?_, ?_⟩, ?_⟩, ?_⟩
      · show 0 + (gLi G ++ [0]).count 0 = (gCo G ++ [p.1]).length
        rw [cnt_app, if_pos rfl, List.length_append, List.length_singleton]; omega
      · show 0 + (gLi G ++ [0]).count 2 = (gHe G).length
        rw [cnt_app, if_neg (by decide)]; omega
      · show 0 + (gLi G ++ [0]).count 3 = (gAr G).length
        rw [cnt_app, if_neg (by decide)]; omega
      · show (gLi G ++ [0]).count 1 = (if (gCt G).isSome then 1 else 0)
        rw [cnt_app, if_neg (by decide)]; omega
      · show (smL (fun c => c.length + 2) (gCo G ++ [p.1]) + smL (fun h => nmL h.1 + 5) (gHe G) + smL (arU (gNo G)) (gAr G) + ctU (gCt G)) + p.2.length + 6 * (gAr G).length ≤ ubG G + r.length + 1 + 6 * (gAr G).length
        rw [smL_app]
        unfold ubG
        omega
    · split at h
      · unfold ctL at h
        split at h
        · cases h
        · next hnc =>
          obtain ⟨r1, h1, h⟩ := Option.bind_eq_some_iff.mp h
          obtain ⟨a, h2, h⟩ := Option.bind_eq_some_iff.mp h
          obtain ⟨r2, h3, h⟩ := Option.bind_eq_some_iff.mp h
          obtain ⟨c, h4, h⟩ := Option.bind_eq_some_iff.mp h
          obtain ⟨r3, h5, e⟩ := Option.map_eq_some_iff.mp h
          have g1 := gpS_co h1
          obtain ⟨g2, g3⟩ := nuS_co h2
          have g4 := gpS_co h3
          obtain ⟨g5, g6⟩ := nuS_co h4
          have g7 := (leS_le h5).1
          have hno : gCt G = none := by
            cases hc : gCt G with
            | none => rfl
            | some x => rw [hc] at hnc; exact absurd rfl hnc
          rw [hno] at v6
          rw [← e]
          refine ⟨⟨v1, v2, v3, ?_, ⟨ln_mem l1 (.inr (.inl rfl)), fun _ => rfl, ?_, ?_, ?_⟩, ?_⟩, ?_⟩
          · intro x hx
            have : some (a.1, c.1) = some x := hx
            cases this
            exact ⟨g2, g5⟩
          · show 0 + (gLi G ++ [1]).count 0 = (gCo G).length
            rw [cnt_app, if_neg (by decide)]; omega
          · show 0 + (gLi G ++ [1]).count 2 = (gHe G).length
            rw [cnt_app, if_neg (by decide)]; omega
          · show 0 + (gLi G ++ [1]).count 3 = (gAr G).length
            rw [cnt_app, if_neg (by decide)]; omega
          · show (gLi G ++ [1]).count 1 = 1
            rw [cnt_app, if_pos rfl, v6]; rfl
          · show (smL (fun c => c.length + 2) (gCo G) + smL (fun h => nmL h.1 + 5) (gHe G) + smL (arU (gNo G)) (gAr G) + ((pwh a.1).length + (pwh c.1).length + 4)) + r3.length + 6 * (gAr G).length ≤ ubG G + r.length + 1 + 6 * (gAr G).length
            unfold ubG
            rw [hno]
            show _ ≤ smL (fun c => c.length + 2) (gCo G) + smL (fun h => nmL h.1 + 5) (gHe G) + smL (arU (gNo G)) (gAr G) + 0 + r.length + 1 + 6 * (gAr G).length
            omega
      · split at h
        · unfold heL at h
          split at h
          · cases h
          · obtain ⟨r1, h1, h⟩ := Option.bind_eq_some_iff.mp h
            obtain ⟨a, h2, h⟩ := Option.bind_eq_some_iff.mp h
            split at h
            · cases h
            · obtain ⟨r2, h3, h⟩ := Option.bind_eq_some_iff.mp h
              split at h
              · cases h
              · next hkd =>
                obtain ⟨r3, h5, e⟩ := Option.map_eq_some_iff.mp h
                have g1 := gpS_co h1
                have g2 := (nmS_co h2).1
                have g4 := gpS_co h3
                have g5 := tl_1 (r := r2) (kdS_b hkd).2.2
                have g7 := (leS_le h5).1
                rw [← e]
                refine ⟨⟨v1, v2, v3, v4, ⟨ln_mem l1 (.inr (.inr (.inl rfl))), ln_1 l2 (by decide), ?_, ?_, ?_⟩, ?_⟩, ?_⟩
                · show 0 + (gLi G ++ [2]).count 0 = (gCo G).length
                  rw [cnt_app, if_neg (by decide)]; omega
                · show 0 + (gLi G ++ [2]).count 2 = (gHe G ++ [(a.1, kdS (hd r2))]).length
                  rw [cnt_app, if_pos rfl, List.length_append, List.length_singleton]; omega
                · show 0 + (gLi G ++ [2]).count 3 = (gAr G).length
                  rw [cnt_app, if_neg (by decide)]; omega
                · show (gLi G ++ [2]).count 1 = (if (gCt G).isSome then 1 else 0)
                  rw [cnt_app, if_neg (by decide)]; omega
                · show (smL (fun c => c.length + 2) (gCo G) + smL (fun h => nmL h.1 + 5) (gHe G ++ [(a.1, kdS (hd r2))]) + smL (arU (gNo G)) (gAr G) + ctU (gCt G)) + r3.length + 6 * (gAr G).length ≤ ubG G + r.length + 1 + 6 * (gAr G).length
                  rw [smL_app]
                  unfold ubG
                  show (smL (fun c => c.length + 2) (gCo G) + (smL (fun h => nmL h.1 + 5) (gHe G) + (nmL a.1 + 5)) + smL (arU (gNo G)) (gAr G) + ctU (gCt G)) + r3.length + 6 * (gAr G).length ≤ _
                  omega
        · rw [arL_en] at h
          obtain ⟨p, h1, h⟩ := Option.bind_eq_some_iff.mp h
          obtain ⟨v, h2, h⟩ := Option.bind_eq_some_iff.mp h
          obtain ⟨e1, e2, e3, e4, e5⟩ := enS_co v1 h1
          obtain ⟨f1, f2⟩ := vsS_co h2
          have f3 := (vsS_le _ _ _ h2).1
          have w2 := hw.2.1
          rw [List.length_map] at f1
          have hcong : smL (arU p.1.1) (gAr G) = smL (arU (gNo G)) (gAr G) := smL_congr (fun x hx => arU_ex e2 (v2 x hx))
          have v2' : ∀ x ∈ gAr G, inR p.1.1 x := fun x hx => inR_ex e2 (v2 x hx)
          unfold eaS at h
          obtain ⟨r3, h3, h⟩ := Option.bind_eq_some_iff.mp h
          have g7 := (leS_le h3).1
          split at h
          · cases h
            refine ⟨⟨e1, v2', v3, v4, ⟨l1, l2, l3, l4, l5⟩, v6⟩, ?_⟩
            show (smL (fun c => c.length + 2) (gCo G) + smL (fun h => nmL h.1 + 5) (gHe G) + smL (arU p.1.1) (gAr G) + ctU (gCt G)) + r3.length + 6 * (gAr G).length ≤ ubG G + r.length + 1 + 6 * (gAr G).length
            rw [hcong]
            unfold ubG
            omega
          · split at h
            · cases h
            · cases h
              refine ⟨⟨e1, ?_, ?_, v4, ⟨ln_mem l1 (.inr (.inr (.inr rfl))), ln_1 l2 (by decide), ?_, ?_, ?_⟩, ?_⟩, ?_⟩
              · intro x hx
                have hx' : x ∈ gAr G ++ [(p.1.2.1, p.1.2.2, ln, v.1)] := hx
                rcases List.mem_append.mp hx' with q | q
                · exact v2' x q
                · rw [List.mem_singleton.mp q]; exact ⟨e3, e4⟩
              · intro x hx
                have hx' : x ∈ gAr G ++ [(p.1.2.1, p.1.2.2, ln, v.1)] := hx
                rcases List.mem_append.mp hx' with q | q
                · exact v3 x q
                · rw [List.mem_singleton.mp q]; exact f2
              · show 0 + (gLi G ++ [3]).count 0 = (gCo G).length
                rw [cnt_app, if_neg (by decide)]; omega
              · show 0 + (gLi G ++ [3]).count 2 = (gHe G).length
                rw [cnt_app, if_neg (by decide)]; omega
              · show 0 + (gLi G ++ [3]).count 3 = (gAr G ++ [(p.1.2.1, p.1.2.2, ln, v.1)]).length
                rw [cnt_app, if_pos rfl, List.length_append, List.length_singleton]; omega
              · show (gLi G ++ [3]).count 1 = (if (gCt G).isSome then 1 else 0)
                rw [cnt_app, if_neg (by decide)]; omega
              · show (smL (fun c => c.length + 2) (gCo G) + smL (fun h => nmL h.1 + 5) (gHe G) + smL (arU p.1.1) (gAr G ++ [(p.1.2.1, p.1.2.2, ln, v.1)]) + ctU (gCt G)) + r3.length + 6 * (gAr G).length ≤ ubG G + r.length + 1 + 6 * (gAr G ++ [(p.1.2.1, p.1.2.2, ln, v.1)]).length
                rw [smL_app, hcong, List.length_append, List.length_singleton]
                unfold ubG
                show (smL (fun c => c.length + 2) (gCo G) + smL (fun h => nmL h.1 + 5) (gHe G) + (smL (arU (gNo G)) (gAr G) + (nmL (p.1.1.getD p.1.2.1.toNat []) + nmL (p.1.1.getD p.1.2.2.toNat []) + vsU v.1 + 2)) + ctU (gCt G)) + r3.length + 6 * (gAr G).length ≤ _
                omega
/-- all LINES -/
theorem tx_iv : ∀ (k : Nat) (man ln : Int) (G : gT) (r : List Int) (G' : gT), tx k man ln G r = some G' → (r ≠ [] → bdG G r) → wfG G → kdG G → iv G → (r ≠ [] → ubG G + r.length ≤ 600 + 6 * (gAr G).length) → ubG G ≤ 601 + 6 * (gAr G).length → wfG G' ∧ kdG G' ∧ iv G' ∧ ubG G' ≤ 601 + 6 * (gAr G').length := by
  intro k
  induction k with
  | zero =>
    intro man ln G r G' h _ hw hk hi _ hu
    rw [tx] at h
    split at h
    · cases h; exact ⟨hw, hk, hi, hu⟩
    · cases h
  | succ k ih =>
    intro man ln G r G' h hb hw hk hi hc hu
    rw [tx] at h
    split at h
    · cases h; exact ⟨hw, hk, hi, hu⟩
    · next hne =>
      obtain ⟨q, h1, h⟩ := Option.bind_eq_some_iff.mp h
      obtain ⟨le1, _, wf1, bd1⟩ := liS_le h1 (hb hne) hw
      have kd1 := liS_kd h1 hk
      obtain ⟨iv1, co1⟩ := liS_iv h1 hw hi
      have hc' := hc hne
      refine ih man (ln + 1) q.1 q.2.tail G' h bd1 wf1 kd1 iv1 (fun ht => ?_) (by omega)
      have : q.2.tail.length + 1 = q.2.length := by
        cases hq : q.2 with
        | nil => rw [hq] at ht; exact absurd rfl ht
        | cons y ys => rfl
      omega
end INV
