section MFI
variable {S S' S'' : iS} {G : gT}
/-- the last place of t, from i on -/
def lsI (t : List Int) : List (List Int) → Int → Int → Int
  | [], _, m => m
  | x :: xs, i, m => lsI t xs (i + 1) (if x = t then i else m)
theorem lsI_no {t : List Int} : ∀ (l : List (List Int)) (i m : Int), ¬ t ∈ l → lsI t l i m = m := by
  intro l
  induction l with
  | nil => intro i m _; rfl
  | cons x l ih =>
    intro i m h
    rw [lsI, if_neg (fun q => h (by rw [q]; exact List.mem_cons_self ..)), ih _ _ (fun q => h (List.mem_cons_of_mem _ q))]
theorem lsI_in {t : List Int} : ∀ (l : List (List Int)) (i m : Int), l.Nodup → t ∈ l → lsI t l i m = i + (ixO l t : Int) := by
  intro l
  induction l with
  | nil => intro i m _ h; exact absurd h List.not_mem_nil
  | cons x l ih =>
    intro i m hn h
    obtain ⟨h1, h2⟩ := List.nodup_cons.mp hn
    rw [lsI]
    unfold ixO
    rw [List.findIdx_cons]
    by_cases e : x = t
    · subst e
      rw [if_pos rfl, lsI_no _ _ _ h1, show (x == x) = true by simp]
      exact (Int.add_zero i).symm
    · have h' : t ∈ l := by
        rcases List.mem_cons.mp h with q | q
        · exact absurd q.symm e
        · exact q
      rw [if_neg e, ih _ _ h2 h', show (x == t) = false by simp [e]]
      show i + 1 + (ixO l t : Int) = i + ((ixO l t + 1 : Nat) : Int)
      omega
theorem l7_fi (z : zS S) {r9 : Int → Int → iS → Option (Int × iS)} {ns t : List Int} {l1 : Int} {p : Nat} (hp : p < 30) (ht : gv S 82 2 83 = t) (h0 : 0 ≤ jI S 82 2) (h1 : jI S 82 2 ≤ 600) (hns : nmAt (jA S 85) (9 * p) ns) (hl : ns.length = t.length) (h8 : ns.length ≤ 8) : ∀ (j n k : Nat), k + j = t.length → j + 1 < n → j_X7_find_44 r9 n l1 p 1 k S = r9 (if ns.drop k = t.drop k then (p : Int) else l1) ((p : Int) + 1) S := by
  have l85 : (jA S 85).length = 540 := z 85
  have l83 := z83 z
  have hlen : (t.length : Int) = jI S 82 2 := by rw [← ht]; exact gv_len h0 (by omega)
  have fin : ∀ (n : Nat) (k l3 : Int), (jI S 82 2 ≤ k ∨ l3 = 0) → j_X7_find_44 r9 (n + 1) l1 p l3 k S = r9 (if l3 = 0 then l1 else (p : Int)) ((p : Int) + 1) S := by
    intro n k l3 h
    rw [j_X7_find_44]
    unfold j_X7_find_93 j_X7_find_102
    have key : (if l3 = 0 then if rg ((p : Int) + 1) then r9 l1 ((p : Int) + 1) S else none else if rg ((p : Int) + 1) then r9 (p : Int) ((p : Int) + 1) S else none) = r9 (if l3 = 0 then l1 else (p : Int)) ((p : Int) + 1) S := by
      by_cases e : l3 = 0
      · rw [if_pos e, if_pos e]; exact it ⟨by omega, by omega⟩ rfl
      · rw [if_neg e, if_neg e]; exact it ⟨by omega, by omega⟩ rfl
    by_cases hk : jI S 82 2 ≤ k
    · exact it hk key
    · exact ie hk (it (h.resolve_left hk) key)
  intro j
  induction j with
  | zero =>
    intro n k hk hn
    obtain ⟨n, rfl⟩ : ∃ q, n = q + 1 := ⟨n - 1, by omega⟩
    rw [fin n k 1 (.inl (by omega)), List.drop_eq_nil_of_le (by omega), List.drop_eq_nil_of_le (by omega), if_pos rfl, if_neg (by decide)]
  | succ j ih =>
    intro n k hk hn
    obtain ⟨n, rfl⟩ : ∃ q, n = q + 2 := ⟨n - 2, by omega⟩
    have e1 : (jA S 85).getD ((9 : Int) * p + 1 + k).toNat 0 = ns.getD k 0 := by
      rw [show ((9 : Int) * p + 1 + k).toNat = 9 * p + 1 + k by omega]; exact hns.2 k (by omega)
    have e2 : (jA S 83).getD ((k : Int)).toNat 0 = t.getD k 0 := by
      rw [show ((k : Int)).toNat = k by omega, ← ht, gv_get (by omega)]
    have d1 := drop_getD (l := ns) (k := k) (by omega)
    have d2 := drop_getD (l := t) (k := k) (by omega)
    have ek : (k : Int) + 1 = ((k + 1 : Nat) : Int) := by omega
    rw [j_X7_find_44, e1, e2, d1, d2]
    unfold j_X7_find_86
    refine ie (by omega) (ie (by decide) (it ⟨by omega, by omega⟩ (it ⟨by omega, by omega⟩ (it ⟨by omega, by omega⟩ (it ⟨by omega, by omega⟩ (it ⟨by omega, by omega⟩ ?_))))))
    by_cases he : ns.getD k 0 = t.getD k 0
    · refine ie (nn he) (it ⟨by omega, by omega⟩ ?_)
      rw [ek]
      refine (ih (n + 1) (k + 1) (by omega) (by omega)).trans ?_
      rw [he]
      by_cases hd : ns.drop (k + 1) = t.drop (k + 1)
      · rw [if_pos hd, if_pos (by rw [hd])]
      · rw [if_neg hd, if_neg (fun q => hd (List.cons.inj q).2)]
    · refine it he (it ⟨by omega, by omega⟩ ?_)
      refine (fin n ((k : Int) + 1) 0 (.inr rfl)).trans ?_
      rw [if_pos rfl, if_neg (fun q => he (List.cons.inj q).1)]
theorem l7_fo (z : zS S) {l : List (List Int)} {t : List Int} (ht : gv S 82 2 83 = t) (h0 : 0 ≤ jI S 82 2) (h1 : jI S 82 2 ≤ 600) (h : lNo S l) : ∀ (j n k : Nat) (m : Int), k + j = l.length → j < n → j_X7_find_9 n m k S = some (lsI t (l.drop k) k m, kI S 82 2 0) := by
  obtain ⟨c0, c1, c2⟩ := h
  have l84 : (jA S 84).length = 2 := z 84
  have l85 : (jA S 85).length = 540 := z 85
  have l83 := z83 z
  have hlen : (t.length : Int) = jI S 82 2 := by rw [← ht]; exact gv_len h0 (by omega)
  intro j
  induction j with
  | zero =>
    intro n k m hk hn
    obtain ⟨n, rfl⟩ : ∃ q, n = q + 1 := ⟨n - 1, by omega⟩
    rw [j_X7_find_9, c0, List.drop_eq_nil_of_le (by omega)]
    exact it (by omega) (it (by omega) rfl)
  | succ j ih =>
    intro n k m hk hn
    obtain ⟨n, rfl⟩ : ∃ q, n = q + 1 := ⟨n - 1, by omega⟩
    obtain ⟨hns, h8⟩ := c2 k (by omega)
    have e1 : (jA S 85).getD ((9 : Int) * k).toNat 0 = (l.getD k []).length := by
      rw [show ((9 : Int) * k).toNat = 9 * k by omega]; exact hns.1
    have ek : (k : Int) + 1 = ((k + 1 : Nat) : Int) := by omega
    rw [j_X7_find_9, c0, e1, drop_getDG (d := []) (show k < l.length by omega), lsI]
    unfold j_X7_find_40
    refine it (by omega) (ie (by omega) (it ⟨by omega, by omega⟩ (it ⟨by omega, by omega⟩ ?_)))
    by_cases hl : (l.getD k []).length = t.length
    · refine ie (nn (by omega)) ?_
      refine (l7_fi z (by omega) ht h0 h1 hns hl h8 t.length fuel 0 (by omega) (by unfold fuel; omega)).trans ?_
      rw [List.drop_zero, List.drop_zero, ek]
      exact ih n (k + 1) _ (by omega) (by omega)
    · refine it (by omega) ?_
      rw [if_neg (fun q => hl (by rw [q]))]
      have hf : j_X7_find_44 (fun l1' l2' S' => j_X7_find_9 n l1' l2' S') fuel m k 0 0 S = j_X7_find_9 n m ((k : Int) + 1) S := by
        show j_X7_find_44 _ (19999 + 1) m k 0 0 S = _
        rw [j_X7_find_44]
        unfold j_X7_find_93 j_X7_find_102
        by_cases hs : jI S 82 2 ≤ 0
        · exact it hs (it rfl (it ⟨by omega, by omega⟩ rfl))
        · exact ie hs (it rfl (it rfl (it ⟨by omega, by omega⟩ rfl)))
      refine hf.trans ?_
      rw [ek]
      exact ih n (k + 1) m (by omega) (by omega)
theorem m7_find (z : zS S) (h : lG S G) (hn : (gNo G).Nodup) (h0 : 0 ≤ jI S 82 2) (h1 : jI S 82 2 ≤ 600) : j_X7_find S = some (if gv S 82 2 83 ∈ gNo G then (ixO (gNo G) (gv S 82 2 83) : Int) else -1, kI (kI S 82 0 0) 82 2 0) := by
  have h30 := h.1.2.1
  unfold j_X7_find j_X7_find_0
  have := l7_fo (S := kI S 82 0 0) (t := gv S 82 2 83) z rfl h0 h1 h.1 (gNo G).length fuel 0 (-1) (by omega) (by unfold fuel; omega)
  refine this.trans ?_
  rw [List.drop_zero]
  congr 2
  by_cases hin : gv S 82 2 83 ∈ gNo G
  · rw [if_pos hin, lsI_in _ _ _ hn hin]
    omega
  · rw [if_neg hin, lsI_no _ _ _ hin]
end MFI
