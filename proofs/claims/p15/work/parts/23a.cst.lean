section CST
variable {G : gT}
def nmL (ns : List Int) : Nat := (pnm ns).length
theorem esc_le (ns : List Int) : ns.length ≤ (esc ns).length := by
  induction ns with
  | nil => exact Nat.le_refl _
  | cons c r ih =>
    rw [esc, List.length_cons]
    split
    · rw [List.length_cons, List.length_cons]; omega
    · rw [List.length_cons]; omega
theorem esc_id : ∀ {ns : List Int}, (∀ c ∈ ns, c ≠ 34 ∧ c ≠ 92) → esc ns = ns := by
  intro ns
  induction ns with
  | nil => intro _; rfl
  | cons c r ih =>
    intro h
    have h1 := h c (List.mem_cons_self ..)
    rw [esc, if_neg (fun q => q.elim h1.1 h1.2), ih (fun x hx => h x (List.mem_cons_of_mem _ hx))]
theorem nmL_ge {ns : List Int} : ns.length ≤ nmL ns := by
  have := esc_le ns
  unfold nmL pnm
  split
  · exact this
  · rw [List.length_cons, List.length_append]; omega
theorem nmL_le {ns : List Int} : nmL ns ≤ (esc ns).length + 2 := by
  unfold nmL pnm
  split
  · omega
  · rw [List.length_cons, List.length_append, List.length_singleton]
    exact Nat.le_refl _
theorem nmL_pl {ns : List Int} (h : ∀ c ∈ ns, isPln c) : nmL ns = ns.length := by
  unfold nmL pnm
  rw [if_pos h, esc_id (fun c hc => by have := h c hc; omega)]
theorem plK_pl : ∀ {k : Nat} {r : List Int} {q : List Int × List Int}, plK k r = some q → ∀ c ∈ q.1, isPln c := by
  intro k
  induction k with
  | zero =>
    intro r q h
    rw [plK] at h
    split at h
    · cases h
    · cases h; exact fun c hc => absurd hc List.not_mem_nil
  | succ k ih =>
    intro r q h
    rw [plK] at h
    split at h
    · next hp =>
      obtain ⟨p, hp', e⟩ := Option.map_eq_some_iff.mp h
      rw [← e]
      intro c hc
      rcases List.mem_cons.mp hc with q | q
      · rw [q]; exact hp
      · exact ih hp' c q
    · cases h; exact fun c hc => absurd hc List.not_mem_nil
theorem tl_1 {r : List Int} (h : hd r ≠ -1) : r.tail.length + 1 = r.length := by
  obtain ⟨c, s, e, _⟩ := hd_cons h
  rw [e]
  rfl
theorem quK_co : ∀ {k : Nat} {r : List Int} {q : List Int × List Int}, quK k r = some q → (esc q.1).length + 1 + q.2.length ≤ r.length := by
  intro k
  induction k with
  | zero =>
    intro r q h
    rw [quK] at h
    split at h
    · next hq =>
      cases h
      have := tl_1 (r := r) (by omega)
      show 0 + 1 + r.tail.length ≤ r.length
      omega
    · cases h
  | succ k ih =>
    intro r q h
    rw [quK] at h
    split at h
    · next hq =>
      cases h
      have := tl_1 (r := r) (by omega)
      show 0 + 1 + r.tail.length ≤ r.length
      omega
    · next h34 =>
      split at h
      · cases h
      · next hpr =>
        have hne : hd r ≠ -1 := fun q => hpr (fun k => by omega)
        have t1 := tl_1 hne
        split at h
        · next h92 =>
          split at h
          · next h2 =>
            have t2 := tl_1 (r := r.tail) (by omega)
            obtain ⟨p, hp', e⟩ := Option.map_eq_some_iff.mp h
            have := ih hp'
            rw [← e]
            show (esc (hd r.tail :: p.1)).length + 1 + p.2.length ≤ r.length
            rw [esc, if_pos h2, List.length_cons, List.length_cons]
            omega
          · cases h
        · next h92 =>
          obtain ⟨p, hp', e⟩ := Option.map_eq_some_iff.mp h
          have := ih hp'
          rw [← e]
          show (esc (hd r :: p.1)).length + 1 + p.2.length ≤ r.length
          rw [esc, if_neg (fun q => q.elim h34 h92), List.length_cons]
          omega
theorem quK_ne {k : Nat} {r : List Int} {q : List Int × List Int} (hne : ¬ hd r = 34) (h : quK (k + 1) r = some q) : 1 ≤ q.1.length := by
  rw [quK, if_neg hne] at h
  split at h
  · cases h
  · split at h
    · split at h
      · obtain ⟨p, hp', e⟩ := Option.map_eq_some_iff.mp h
        rw [← e]; exact Nat.succ_pos _
      · cases h
    · obtain ⟨p, hp', e⟩ := Option.map_eq_some_iff.mp h
      rw [← e]; exact Nat.succ_pos _
theorem plK_1 {k : Nat} {r : List Int} {q : List Int × List Int} (hf : isPln (hd r)) (h : plK (k + 1) r = some q) : 1 ≤ q.1.length := by
  rw [plK, if_pos hf] at h
  obtain ⟨p, hp', e⟩ := Option.map_eq_some_iff.mp h
  rw [← e]; exact Nat.succ_pos _
/-- a NAME is WRITTEN in no more bytes than it had -/
theorem nmS_co {r : List Int} {q : List Int × List Int} (h : nmS r = some q) : nmL q.1 + q.2.length ≤ r.length ∧ 1 ≤ q.1.length := by
  unfold nmS at h
  split at h
  · next h34 =>
    split at h
    · cases h
    · next hne =>
      have := quK_co h
      have t1 := tl_1 (r := r) (by omega)
      have := nmL_le (ns := q.1)
      exact ⟨by omega, quK_ne hne h⟩
  · split at h
    · next hpl =>
      have e := congrArg List.length (plK_app h)
      rw [List.length_append] at e
      exact ⟨by rw [nmL_pl (plK_pl h)]; omega, plK_1 hpl h⟩
    · cases h
theorem gpS_co {r r1 : List Int} (h : gpS r = some r1) : r1.length + 1 ≤ r.length := by
  unfold gpS at h
  split at h
  · next h32 =>
    cases h
    obtain ⟨c, s, e, ec⟩ := hd_cons (r := r) (by omega)
    have hc : c = 32 := by omega
    rw [e, skb, if_pos hc, List.length_cons]
    have := skb_len s
    omega
  · cases h
theorem fgK_co {k : Nat} {r : List Int} {q : List Int × List Int} (h : fgK k r = some q) : q.1.length + q.2.length = r.length := by
  have e := congrArg List.length (fgK_app h)
  rw [List.length_append] at e
  exact e.symm
theorem cmK_co : ∀ {k : Nat} {r : List Int} {q : List Int × List Int}, cmK k r = some q → q.1.length + q.2.length ≤ r.length := by
  intro k
  induction k with
  | zero =>
    intro r q h
    rw [cmK] at h
    split at h
    · cases h; show 0 + r.length ≤ r.length; omega
    · cases h
  | succ k ih =>
    intro r q h
    rw [cmK] at h
    split at h
    · cases h; show 0 + r.length ≤ r.length; omega
    · next hne =>
      split at h
      · obtain ⟨p, hp', e⟩ := Option.map_eq_some_iff.mp h
        have := ih hp'
        have := tl_1 hne
        rw [← e]
        show (hd r :: p.1).length + p.2.length ≤ r.length
        rw [List.length_cons]
        omega
      · cases h
theorem frS_co {m ds r : List Int} {q : vT × List Int} (hne : hd r ≠ -1) (h : frS m ds r = some q) : q.1.2.2.length + q.2.length ≤ m.length + ds.length + r.length := by
  unfold frS at h
  split at h
  · cases h
  · split at h
    · obtain ⟨p, hp', e⟩ := Option.map_eq_some_iff.mp h
      have := fgK_co hp'
      have := tl_1 hne
      rw [← e]
      show (m ++ ds ++ 46 :: p.1).length + p.2.length ≤ _
      rw [List.length_append, List.length_append, List.length_cons]
      omega
    · cases h
theorem numS_co {k : Int} {m r : List Int} {q : vT × List Int} (h : numS k m r = some q) : q.1.2.2.length + q.2.length ≤ m.length + r.length := by
  unfold numS at h
  split at h
  · cases h
  · split at h
    · cases h
    · obtain ⟨p, hp', h⟩ := Option.bind_eq_some_iff.mp h
      have hp : p.1.length + p.2.length = r.length := by
        split at hp'
        · exact fgK_co hp'
        · exact fgK_co hp'
      split at h
      · next h46 =>
        have := frS_co (by omega) h
        omega
      · split at h
        · cases h
        · cases h
          show (m ++ p.1).length + p.2.length ≤ _
          rw [List.length_append]
          omega
theorem gsS_co {r : List Int} {q : vT × List Int} (h : gsS r = some q) : q.1.2.2.length + q.2.length ≤ r.length ∧ (q.1.1 = 3 → nmL q.1.2.2 = q.1.2.2.length ∧ 1 ≤ q.1.2.2.length) := by
  unfold gsS at h
  split at h
  · cases h
  · next hpl =>
    obtain ⟨p, hp', h⟩ := Option.bind_eq_some_iff.mp h
    have e := congrArg List.length (plK_app hp')
    rw [List.length_append] at e
    split at h
    · next h46 =>
      split at h
      · cases h
      · have h1 := frS_co (by omega) h
        have h2 := frS_ty h
        exact ⟨by have : ([] : List Int).length = 0 := rfl; omega, fun e => by omega⟩
    · split at h
      · cases h
        exact ⟨by show p.1.length + p.2.length ≤ _; omega, fun e => absurd e (by show ¬ (1 : Int) = 3; decide)⟩
      · cases h
        exact ⟨by show p.1.length + p.2.length ≤ _; omega, fun _ => ⟨nmL_pl (plK_pl hp'), plK_1 (Decidable.not_not.mp hpl) hp'⟩⟩
/-- a VALUE's bytes, however it is WRITTEN -/
def vlU (v : vT) : Nat := if v.1 = 0 then 1 else if v.1 = 3 then nmL v.2.2 else v.2.2.length + 2
theorem vlU_0 {v : vT} (h : v.1 = 0) : vlU v = 1 := if_pos h
theorem vlU_3 {v : vT} (h : v.1 = 3) : vlU v = nmL v.2.2 := by unfold vlU; rw [if_neg (by omega), if_pos h]
theorem vlU_n {v : vT} (h : v.1 = 1 ∨ v.1 = 2) : vlU v = v.2.2.length + 2 := by unfold vlU; rw [if_neg (by omega), if_neg (by omega)]
theorem vlS_co {k : Int} {r : List Int} {q : vT × List Int} (h : vlS k r = some q) : vlU q.1 + q.2.length ≤ r.length + 2 ∧ (q.1.1 = 3 → 1 ≤ q.1.2.2.length) := by
  unfold vlS at h
  split at h
  · next h45 =>
    have t1 := tl_1 (r := r) (by omega)
    split at h
    · cases h
      refine ⟨?_, fun e => absurd e (by show ¬ (0 : Int) = 3; decide)⟩
      rw [vlU_0 rfl]
      show 1 + r.tail.length ≤ r.length + 2
      omega
    · split at h
      · cases h
      · have h1 := numS_co h
        have h2 := numS_ty h
        have : ([45] : List Int).length = 1 := rfl
        exact ⟨by rw [vlU_n h2]; omega, fun e => by omega⟩
  · split at h
    · obtain ⟨p, hp', e⟩ := Option.map_eq_some_iff.mp h
      obtain ⟨n1, n2⟩ := nmS_co hp'
      rw [← e]
      refine ⟨?_, fun _ => n2⟩
      rw [vlU_3 rfl]
      show nmL p.1 + p.2.length ≤ r.length + 2
      omega
    · split at h
      · obtain ⟨g1, g2⟩ := gsS_co h
        have h2 := gsS_ty h
        refine ⟨?_, fun e => (g2 e).2⟩
        by_cases h3 : q.1.1 = 3
        · rw [vlU_3 h3, (g2 h3).1]; omega
        · rw [vlU_n (by omega)]; omega
      · have h1 := numS_co h
        have h2 := numS_ty h
        have : ([] : List Int).length = 0 := rfl
        exact ⟨by rw [vlU_n h2]; omega, fun e => by omega⟩
/-- how many figures a number has -/
theorem dg_len (v u : Int) : (dg v u).length ≤ 1 := by
  unfold dg
  split
  · exact Nat.le_refl _
  · exact Nat.zero_le _
theorem pwh_len {v : Int} : ∀ {n : Nat}, 1 ≤ n → n ≤ 6 → v + 1 ≤ 10 ^ n → (pwh v).length ≤ n := by
  intro n h1 h6 hv
  have d1 := dg_len v 100000
  have d2 := dg_len v 10000
  have d3 := dg_len v 1000
  have d4 := dg_len v 100
  have d5 := dg_len v 10
  have d6 := dg_len v 1
  have z : ([] : List Int).length = 0 := rfl
  unfold pwh
  simp only [List.length_append]
  have hn : n = 1 ∨ n = 2 ∨ n = 3 ∨ n = 4 ∨ n = 5 ∨ n = 6 := by omega
  rcases hn with e | e | e | e | e | e
  · subst e
    rw [show (10 : Int) ^ 1 = 10 by decide] at hv
    rw [dg_n (u := 100000) (by omega) (by decide), dg_n (u := 10000) (by omega) (by decide), dg_n (u := 1000) (by omega) (by decide), dg_n (u := 100) (by omega) (by decide), dg_n (u := 10) (by omega) (by decide)]
    omega
  · subst e
    rw [show (10 : Int) ^ 2 = 100 by decide] at hv
    rw [dg_n (u := 100000) (by omega) (by decide), dg_n (u := 10000) (by omega) (by decide), dg_n (u := 1000) (by omega) (by decide), dg_n (u := 100) (by omega) (by decide)]
    omega
  · subst e
    rw [show (10 : Int) ^ 3 = 1000 by decide] at hv
    rw [dg_n (u := 100000) (by omega) (by decide), dg_n (u := 10000) (by omega) (by decide), dg_n (u := 1000) (by omega) (by decide)]
    omega
  · subst e
    rw [show (10 : Int) ^ 4 = 10000 by decide] at hv
    rw [dg_n (u := 100000) (by omega) (by decide), dg_n (u := 10000) (by omega) (by decide)]
    omega
  · subst e
    rw [show (10 : Int) ^ 5 = 100000 by decide] at hv
    rw [dg_n (u := 100000) (by omega) (by decide)]
    omega
  · omega
theorem pfK_len : ∀ (k : Nat) (r : Int), (pfK k r).length ≤ k := by
  intro k
  induction k with
  | zero => intro r; exact Nat.le_refl _
  | succ k ih =>
    intro r
    rw [pfK]
    split
    · exact Nat.zero_le _
    · rw [List.length_cons]; have := ih (r % 100 * 10); omega
theorem pfK_0 {k : Nat} : pfK k 0 = [] := by
  cases k with
  | zero => rfl
  | succ k => rw [pfK, if_pos (by decide)]
theorem p10m {n : Nat} (h : n ≤ 6) : (10 : Int) ^ n ≤ 1000000 := by
  have hn : n = 0 ∨ n = 1 ∨ n = 2 ∨ n = 3 ∨ n = 4 ∨ n = 5 ∨ n = 6 := by omega
  rcases hn with e | e | e | e | e | e | e <;> subst e <;> decide
theorem pt1_w {x : Int} {n : Nat} (h0 : 0 ≤ x) (h1 : 1 ≤ n) (h6 : n ≤ 6) (hx : x + 1 ≤ 10 ^ n) : (pt1 (1000 * x)).length ≤ n := by
  unfold pt1
  rw [show 1000 * x / 1000 = x by omega, show 1000 * x % 1000 = 0 by omega, if_pos (by decide), pfK_0, List.append_nil]
  exact pwh_len h1 h6 hx
theorem pt1_d {x y : Int} {n : Nat} (h0 : 0 ≤ x) (h1 : 1 ≤ n) (h6 : n ≤ 6) (hx : x + 1 ≤ 10 ^ n) (y0 : 0 ≤ y) (y1 : y < 1000) : (pt1 (1000 * x + y)).length ≤ n + 4 := by
  unfold pt1
  rw [show (1000 * x + y) / 1000 = x by omega, show (1000 * x + y) % 1000 = y by omega, List.length_append]
  have a1 := pwh_len h1 h6 hx
  have a2 := pfK_len 3 y
  split
  · omega
  · rw [List.length_cons]; omega
theorem sgm_nil {x : Int} : sgm [] * x = x := by
  show (if ([] : List Int) = [] then (1 : Int) else -1) * x = x
  rw [if_pos rfl]; omega
theorem sgm_m {x : Int} : sgm [45] * x = -x := by
  show (if ([45] : List Int) = [] then (1 : Int) else -1) * x = -x
  rw [if_neg (by decide)]; omega
theorem pth_le {m : List Int} {x : Int} {n : Nat} (hm : m = [] ∨ m = [45]) (h0 : 0 ≤ x) (h : (pt1 x).length ≤ n) : (pth (sgm m * x)).length ≤ m.length + n := by
  unfold pth
  rcases hm with e | e
  · subst e
    rw [sgm_nil, if_pos h0]
    show _ ≤ 0 + n
    omega
  · subst e
    rw [sgm_m]
    show _ ≤ 1 + n
    by_cases hx : x = 0
    · subst hx
      rw [if_pos (by decide)]
      show (pt1 0).length ≤ 1 + n
      omega
    · rw [if_neg (by omega), List.length_cons, show - -x = x by omega]
      omega
theorem es_b {es : List Int} (hf : ∀ c ∈ es, isFig c) (h3 : es.length ≤ 3) : 0 ≤ dv es * 10 ^ (3 - es.length) ∧ dv es * 10 ^ (3 - es.length) < 1000 := by
  obtain ⟨d0, d1⟩ := dv_b hf
  generalize dv es = d at *
  have hn : es.length = 0 ∨ es.length = 1 ∨ es.length = 2 ∨ es.length = 3 := by omega
  rcases hn with e | e | e | e
  · rw [e] at d1 ⊢
    rw [show (10 : Int) ^ 0 = 1 by decide] at d1
    rw [show (10 : Int) ^ (3 - 0) = 1000 by decide]
    omega
  · rw [e] at d1 ⊢
    rw [show (10 : Int) ^ 1 = 10 by decide] at d1
    rw [show (10 : Int) ^ (3 - 1) = 100 by decide]
    omega
  · rw [e] at d1 ⊢
    rw [show (10 : Int) ^ 2 = 100 by decide] at d1
    rw [show (10 : Int) ^ (3 - 2) = 10 by decide]
    omega
  · rw [e] at d1 ⊢
    rw [show (10 : Int) ^ 3 = 1000 by decide] at d1
    rw [show (10 : Int) ^ (3 - 3) = 1 by decide]
    omega
theorem sgm_vB {m : List Int} {x : Int} (hm : m = [] ∨ m = [45]) (h0 : 0 ≤ x) (h1 : x ≤ 999999999) : -999999999 ≤ sgm m * x ∧ sgm m * x ≤ 999999999 := by
  rcases hm with e | e
  · subst e; rw [sgm_nil]; omega
  · subst e; rw [sgm_m]; omega
theorem nq {m ds : List Int} (hm : m = [] ∨ m = [45]) (hd : ∀ c ∈ ds, isFig c ∨ c = 46) : ∀ c ∈ m ++ ds, c ≠ 34 ∧ c ≠ 92 := by
  intro c hc
  rcases List.mem_append.mp hc with q | q
  · rcases hm with e | e
    · subst e; exact absurd q List.not_mem_nil
    · subst e; rw [List.mem_singleton.mp q]; exact ⟨by decide, by decide⟩
  · have := hd c q
    exact ⟨by omega, by omega⟩
/-- a VALUE has its bounds -/
def vG (v : vT) : Prop := vB v ∧ ∀ k, (pvl k v).length ≤ vlU v
theorem vG_of {v : vT} (hs : shp v) (ht : v.1 = 0 ∨ v.1 = 1 ∨ v.1 = 2 ∨ v.1 = 3) (h3 : v.1 = 3 → 1 ≤ v.2.2.length) : vG v := by
  obtain ⟨s1, s2, s0⟩ := hs
  rcases ht with e | e | e | e
  · have := s0 (.inl e)
    refine ⟨⟨by omega, by omega⟩, fun k => ?_⟩
    unfold pvl
    rw [if_pos e, vlU_0 e]
    exact Nat.le_refl _
  · obtain ⟨m, ds, e1, hm, hf, l1, l6, e2⟩ := s1 e
    obtain ⟨d0, d1⟩ := dv_b hf
    have hp := p10m l6
    refine ⟨?_, fun k => ?_⟩
    · unfold vB
      rw [e2]
      exact sgm_vB hm (by omega) (by omega)
    · unfold pvl
      rw [if_neg (by omega), vlU_n (.inl e)]
      split
      · have h1 := nmL_le (ns := v.2.2)
        have h2 : esc v.2.2 = v.2.2 := by rw [e1]; exact esc_id (nq hm (fun c hc => .inl (hf c hc)))
        rw [h2] at h1
        exact h1
      · have h1 := pth_le hm (by omega : 0 ≤ 1000 * dv ds) (pt1_w d0 l1 l6 d1)
        rw [e2, e1, List.length_append]
        omega
  · obtain ⟨m, ds, es, e1, hm, hf, hf2, l1, l3, l3', e2⟩ := s2 e
    obtain ⟨d0, d1⟩ := dv_b hf
    obtain ⟨y0, y1⟩ := es_b hf2 l3'
    have hp := p10m (n := ds.length) (by omega)
    refine ⟨?_, fun k => ?_⟩
    · unfold vB
      rw [e2]
      exact sgm_vB hm (by omega) (by omega)
    · unfold pvl
      rw [if_neg (by omega), vlU_n (.inr e)]
      split
      · have h1 := nmL_le (ns := v.2.2)
        have h2 : esc v.2.2 = v.2.2 := by
          rw [e1, List.append_assoc]
          refine esc_id (nq hm (fun c hc => ?_))
          rcases List.mem_append.mp hc with q | q
          · exact .inl (hf c q)
          · rcases List.mem_cons.mp q with q | q
            · exact .inr q
            · exact .inl (hf2 c q)
        rw [h2] at h1
        exact h1
      · rw [e2, e1, List.length_append, List.length_append, List.length_cons]
        cases es with
        | nil =>
          have h1 := pth_le hm (by omega : 0 ≤ 1000 * dv ds) (pt1_w d0 l1 (by omega) d1)
          rw [show dv [] = 0 from rfl, Int.zero_mul, Int.add_zero]
          omega
        | cons x xs =>
          have h1 := pth_le hm (by omega : 0 ≤ 1000 * dv ds + dv (x :: xs) * 10 ^ (3 - (x :: xs).length)) (pt1_d d0 l1 (by omega) d1 y0 y1)
          rw [List.length_cons] at *
          omega
  · have h0 := s0 (.inr e)
    have hl := h3 e
    refine ⟨⟨by omega, by omega⟩, fun k => ?_⟩
    unfold pvl
    rw [if_neg (by omega), vlU_3 e]
    split
    · exact Nat.le_refl _
    · rw [h0]
      have := nmL_ge (ns := v.2.2)
      have h1 : (pth 0).length = 1 := by decide
      omega
end CST
