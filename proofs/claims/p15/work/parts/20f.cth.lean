section CTH
variable {S S' S'' : iS} {b : Bool}
abbrev sgm (m : List Int) : Int := if m = [] then 1 else -1
/-- how the signs of a VALUE tell its thousandths -/
def shp (v : vT) : Prop := (v.1 = 1 → ∃ m ds, v.2.2 = m ++ ds ∧ (m = [] ∨ m = [45]) ∧ (∀ c ∈ ds, isFig c) ∧ 1 ≤ ds.length ∧ ds.length ≤ 6 ∧ v.2.1 = sgm m * (1000 * dv ds)) ∧ (v.1 = 2 → ∃ m ds es, v.2.2 = m ++ ds ++ 46 :: es ∧ (m = [] ∨ m = [45]) ∧ (∀ c ∈ ds, isFig c) ∧ (∀ c ∈ es, isFig c) ∧ 1 ≤ ds.length ∧ ds.length ≤ 3 ∧ es.length ≤ 3 ∧ v.2.1 = sgm m * (1000 * dv ds + dv es * 10 ^ (3 - es.length))) ∧ (v.1 = 0 ∨ v.1 = 3 → v.2.1 = 0)
theorem fgK_1 {k : Nat} {r : List Int} {q : List Int × List Int} (hf : isFig (hd r)) (h : fgK (k + 1) r = some q) : 1 ≤ q.1.length := by
  rw [fgK_s hf] at h
  cases ho : fgK k r.tail with
  | none => rw [ho] at h; cases h
  | some p => rw [ho] at h; cases h; exact Nat.succ_pos _
theorem frS_sh {m ds r : List Int} {q : vT × List Int} (hm : m = [] ∨ m = [45]) (hf : ∀ c ∈ ds, isFig c) (h1 : 1 ≤ ds.length) (h : frS m ds r = some q) : shp q.1 := by
  unfold frS at h
  split at h
  · cases h
  · next h3 =>
    split at h
    · next hfr =>
      cases ho : fgK 3 r.tail with
      | none => rw [ho] at h; cases h
      | some p =>
        rw [ho] at h
        obtain ⟨i1, i2, _⟩ := fgK_len ho
        cases h
        refine ⟨fun e => absurd e (by show ¬ (2 : Int) = 1; decide), fun _ => ⟨m, ds, p.1, rfl, hm, hf, i2, h1, by omega, i1, rfl⟩, fun e => by
          rcases e with e | e
          · exact absurd e (by show ¬ (2 : Int) = 0; decide)
          · exact absurd e (by show ¬ (2 : Int) = 3; decide)⟩
    · cases h
theorem numS_sh {told : Int} {m r : List Int} {q : vT × List Int} (hm : m = [] ∨ m = [45]) (h : numS told m r = some q) : shp q.1 := by
  unfold numS at h
  split at h
  · cases h
  · next hf =>
    have hf' : isFig (hd r) := Decidable.not_not.mp hf
    split at h
    · cases h
    · cases ho : (if hd r = 48 then fgK 1 r else fgK 6 r) with
      | none => rw [ho] at h; cases h
      | some p =>
        have hp : p.1.length ≤ 6 ∧ (∀ c ∈ p.1, isFig c) ∧ 1 ≤ p.1.length := by
          split at ho
          · obtain ⟨i1, i2, _⟩ := fgK_len ho
            exact ⟨by omega, i2, fgK_1 hf' ho⟩
          · obtain ⟨i1, i2, _⟩ := fgK_len ho
            exact ⟨by omega, i2, fgK_1 hf' ho⟩
        rw [ho, Option.bind_some] at h
        split at h
        · exact frS_sh hm hp.2.1 hp.2.2 h
        · split at h
          · cases h
          · cases h
            exact ⟨fun _ => ⟨m, p.1, rfl, hm, hp.2.1, hp.2.2, hp.1, rfl⟩, fun e => absurd e (by show ¬ (1 : Int) = 2; decide), fun e => by
              rcases e with e | e
              · exact absurd e (by show ¬ (1 : Int) = 0; decide)
              · exact absurd e (by show ¬ (1 : Int) = 3; decide)⟩
theorem gsS_sh {r : List Int} {q : vT × List Int} (h : gsS r = some q) : shp q.1 := by
  unfold gsS at h
  split at h
  · cases h
  · next hpl =>
    have hpl' : isPln (hd r) := Decidable.not_not.mp hpl
    cases ho : plK 8 r with
    | none => rw [ho] at h; cases h
    | some p =>
      have hp1 : 1 ≤ p.1.length := by
        rw [plK_plP] at ho
        split at ho
        · cases ho
          obtain ⟨c', s', e', ec', ep⟩ := plP_hd hpl'
          show 1 ≤ (plP r).length
          rw [ep, List.length_cons]; omega
        · cases ho
      rw [ho, Option.bind_some] at h
      split at h
      · next hfp =>
        split at h
        · cases h
        · exact frS_sh (.inl rfl) hfp.1 hp1 h
      · split at h
        · next hw =>
          cases h
          refine ⟨fun _ => ⟨[], p.1, rfl, .inl rfl, hw.1, hp1, hw.2.2, by rw [sgm, if_pos rfl, Int.one_mul]⟩, fun e => absurd e (by show ¬ (1 : Int) = 2; decide), fun e => by
              rcases e with e | e
              · exact absurd e (by show ¬ (1 : Int) = 0; decide)
              · exact absurd e (by show ¬ (1 : Int) = 3; decide)⟩
        · cases h
          exact ⟨fun e => absurd e (by show ¬ (3 : Int) = 1; decide), fun e => absurd e (by show ¬ (3 : Int) = 2; decide), fun _ => rfl⟩
theorem vlS_sh {k : Int} {r : List Int} {q : vT × List Int} (h : vlS k r = some q) : shp q.1 := by
  unfold vlS at h
  split at h
  · split at h
    · cases h
      exact ⟨fun e => absurd e (by show ¬ (0 : Int) = 1; decide), fun e => absurd e (by show ¬ (0 : Int) = 2; decide), fun _ => rfl⟩
    · split at h
      · cases h
      · exact numS_sh (.inr rfl) h
  · split at h
    · cases ho : nmS r with
      | none => rw [ho] at h; cases h
      | some p =>
        rw [ho] at h
        cases h
        exact ⟨fun e => absurd e (by show ¬ (3 : Int) = 1; decide), fun e => absurd e (by show ¬ (3 : Int) = 2; decide), fun _ => rfl⟩
    · split at h
      · exact gsS_sh h
      · exact numS_sh (.inl rfl) h
theorem dvF_lin : ∀ (ds : List Int) (v : Int), dvF v ds = v * 10 ^ ds.length + dv ds := by
  intro ds
  induction ds with
  | nil => intro v; show v = v * 10 ^ 0 + 0; omega
  | cons c ds ih =>
    intro v
    show dvF (10 * v + (c - 48)) ds = v * 10 ^ (ds.length + 1) + dvF (10 * 0 + (c - 48)) ds
    rw [ih, ih (10 * 0 + (c - 48)), Int.pow_succ, Int.add_mul, Int.mul_zero, Int.zero_add, Int.mul_comm 10 v, Int.mul_assoc, Int.mul_comm 10 (10 ^ ds.length : Int), Int.add_assoc]
theorem l6_thA (w : wC b S) {pt : Int} : ∀ (ds : List Int) (n k : Nat) (v bh : Int) (rest : List Int), (sg b S).drop k = ds ++ rest → (∀ c ∈ ds, isFig c) → (pt = 0 → bh = 0) → 0 ≤ bh → bh + ds.length ≤ 8 → 0 ≤ v → (v + 1) * 10 ^ ds.length ≤ 1000000 → j_X2_thousandthsRead_12 (n + ds.length) v bh pt k S = j_X2_thousandthsRead_12 n (dvF v ds) (if pt = 0 then 0 else bh + ds.length) pt ((k + ds.length : Nat) : Int) S := by
  have hl := sg_len w
  have h600 := w.2.2.2.2.2.2
  intro ds
  induction ds with
  | nil =>
    intro n k v bh rest hd1 hf hb h0 h8 v0 v1
    rw [List.length_nil, Nat.add_zero, Nat.add_zero]
    by_cases hp : pt = 0
    · rw [if_pos hp, hb hp]; rfl
    · rw [if_neg hp, show bh + ((0 : Nat) : Int) = bh by omega]; rfl
  | cons c ds ih =>
    intro n k v bh rest hd1 hf hb h0 h8 v0 v1
    have hkl : k < (sg b S).length := by
      have := congrArg List.length hd1
      rw [List.length_drop, List.length_append, List.length_cons] at this
      omega
    have hd2 := drop_getD hkl
    rw [hd1, List.cons_append] at hd2
    obtain ⟨hc1, hc2⟩ := List.cons.inj hd2
    have hfc := hf c List.mem_cons_self
    rw [List.length_cons] at h8 v1 ⊢
    have p1 := p10 ds.length
    have v2 : v + 1 ≤ 100000 := by
      rw [Int.pow_succ, Int.mul_comm (10 ^ ds.length : Int) 10, ← Int.mul_assoc] at v1
      have : (v + 1) * 10 * 1 ≤ (v + 1) * 10 * 10 ^ ds.length := Int.mul_le_mul_of_nonneg_left p1 (by omega)
      omega
    have v3 : (10 * v + (c - 48) + 1) * 10 ^ ds.length ≤ 1000000 := by
      refine Int.le_trans ?_ v1
      rw [Int.pow_succ, Int.mul_comm (10 ^ ds.length : Int) 10, ← Int.mul_assoc]
      exact Int.mul_le_mul_of_nonneg_right (by omega) (by omega)
    have stp : ∀ (bh' : Int) X, j_X2_thousandthsRead_12 (n + ds.length) (10 * v + (c - 48)) bh' pt ((k + 1 : Nat) : Int) S = X → bh' = (if pt = 0 then 0 else bh + 1) → j_X2_thousandthsRead_12 (n + (ds.length + 1)) v bh pt k S = X := by
      intro bh' X hX hb'
      rw [← Nat.add_assoc, j_X2_thousandthsRead_12, w.2.1]
      refine ie (by omega) ?_
      rw [eR_at w.1, Option.bind_some, sg_at w (by omega) (by omega), show ((k : Int)).toNat = k by omega, ← hc1]
      refine it (by omega) ?_
      dsimp only
      rw [e6_fig, Option.bind_some]
      refine ie (bi_n hfc) ?_
      unfold j_X2_thousandthsRead_83 j_X2_thousandthsRead_84
      have e1 : v * 10 + (c - 48) = 10 * v + (c - 48) := by omega
      have e2 : (k : Int) + 1 = ((k + 1 : Nat) : Int) := by omega
      by_cases hp : pt = 0
      · rw [if_pos hp] at hb'
        rw [hb'] at hX
        refine it hp (it ⟨by omega, by omega⟩ (it ⟨by omega, by omega⟩ (it ⟨by omega, by omega⟩ (it ⟨by omega, by omega⟩ ?_))))
        rw [e1, e2]
        exact hX
      · rw [if_neg hp] at hb'
        rw [hb'] at hX
        refine ie hp (it ⟨by omega, by omega⟩ (it ⟨by omega, by omega⟩ (it ⟨by omega, by omega⟩ (it ⟨by omega, by omega⟩ (it ⟨by omega, by omega⟩ ?_)))))
        rw [e1, e2]
        exact hX
    have hrec := ih n (k + 1) (10 * v + (c - 48)) (if pt = 0 then 0 else bh + 1) rest hc2.symm (fun x hx => hf x (List.mem_cons_of_mem _ hx)) (fun hp => by rw [if_pos hp]) (by split <;> omega) (by split <;> omega) (by omega) v3
    rw [stp _ _ hrec rfl]
    congr 1
    · by_cases hp : pt = 0
      · rw [if_pos hp, if_pos hp]
      · rw [if_neg hp, if_neg hp, if_neg hp]; omega
    · omega
end CTH
