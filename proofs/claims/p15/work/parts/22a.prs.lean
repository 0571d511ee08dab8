section PRS
variable {S S' S'' : iS} {G : gT} {xs ys : List Int}
/-- a NAME's signs, \ ahead of \ and of quotes -/
def esc : List Int → List Int
  | [] => []
  | c :: r => if c = 34 ∨ c = 92 then 92 :: c :: esc r else c :: esc r
/-- a NAME as it is WRITTEN -/
def pnm (ns : List Int) : List Int := if ∀ c ∈ ns, isPln c then esc ns else 34 :: (esc ns ++ [34])
def dg (v u : Int) : List Int := if u ≤ v ∨ u = 1 then [48 + v / u % 10] else []
/-- a number below a million -/
def pwh (v : Int) : List Int := dg v 100000 ++ (dg v 10000 ++ (dg v 1000 ++ (dg v 100 ++ (dg v 10 ++ dg v 1))))
def pfK : Nat → Int → List Int
  | 0, _ => []
  | k + 1, r => if r ≤ 0 then [] else (48 + r / 100) :: pfK k (r % 100 * 10)
/-- thousandths -/
def pt1 (v : Int) : List Int := pwh (v / 1000) ++ (if v % 1000 ≤ 0 then pfK 3 (v % 1000) else 46 :: pfK 3 (v % 1000))
def pth (t : Int) : List Int := if 0 ≤ t then pt1 t else 45 :: pt1 (-t)
def pvl (k : Int) (v : vT) : List Int := if v.1 = 0 then [45] else if k = 2 then pnm v.2.2 else pth v.2.1
def pcs : List Int → List vT → List Int
  | k :: ks, v :: vs => 32 :: (pvl k v ++ pcs ks vs)
  | _, _ => []
def ndG (G : gT) (f : Int) : List Int := (gNo G).getD f.toNat []
def par (G : gT) (x : Int × Int × Int × List vT) : List Int := pnm (ndG G x.1) ++ 32 :: (pnm (ndG G x.2.1) ++ pcs ((gHe G).map (fun h => h.2)) x.2.2.2)
def ktS (k : Int) : Int := if k = 0 then 119 else if k = 1 then 100 else 116
def ctG (G : gT) : Int × Int := match gCt G with
  | some c => c
  | none => (0, 0)
/-- a LINE as it is WRITTEN -/
def pl1 (G : gT) (s : Int) (c h a : Nat) : List Int := if s = 0 then 35 :: (gCo G).getD c [] else if s = 1 then 33 :: 32 :: (pwh (ctG G).1 ++ 32 :: pwh (ctG G).2) else if s = 2 then 37 :: 32 :: (pnm ((gHe G).getD h ([], 0)).1 ++ [32, ktS ((gHe G).getD h ([], 0)).2]) else par G ((gAr G).getD a (0, 0, 0, []))
def pli (G : gT) : List Int → Nat → Nat → Nat → List Int
  | [], _, _, _ => []
  | s :: ss, c, h, a => pl1 G s c h a ++ 10 :: pli G ss (if s = 0 then c + 1 else c) (if s = 2 then h + 1 else h) (if s = 0 ∨ s = 1 ∨ s = 2 then a else a + 1)
/-- what is WRITTEN -/
def prS (G : gT) : List Int := pli G (gLi G) 0 0 0
theorem esc_nil : esc [] = [] := rfl
/-- room for n bytes more of the class -/
def cw (S : iS) (n : Nat) : Prop := zS S ∧ 0 ≤ jI S 3 1 ∧ jI S 3 1 + n ≤ 841
abbrev eC (S : iS) (xs : List Int) : iS := gaL S 3 1 4 xs
theorem cw_e {n : Nat} (h : cw S (xs.length + n)) : cw (eC S xs) n := by
  obtain ⟨h1, h2, h3⟩ := h
  refine ⟨gaL_zS h1, ?_, ?_⟩
  · rw [gaL_len]; omega
  · rw [gaL_len]; omega
theorem cw_m {n m : Nat} (h : cw S n) (hm : m ≤ n) : cw S m := ⟨h.1, h.2.1, by have := h.2.2; omega⟩
theorem p6_add {x : Int} (h : cw S 1) : j_X3_add 3 x S = some (eC S [x]) := by
  have l4 : (jA S 4).length = 841 := h.1 4
  exact eR_add h.1 h.2.1 (by have := h.2.2; show jI S 3 1 < ((jA S 4).length : Int); omega)
theorem eC_app : eC (eC S xs) ys = eC S (xs ++ ys) := gaL_app
theorem p6_ww {v u : Int} {n : Nat} (hv : 0 ≤ v) (hv2 : v ≤ 999999) (hu : 0 < u) (hu2 : u ≤ 100000) (h : cw S (dg v u).length) : j_X5_writeWhole_3 (n + 1) v u S = j_X5_writeWhole_3 n v (u / 10) (eC S (dg v u)) := by
  have hq : 0 ≤ v / u := Int.ediv_nonneg hv (by omega)
  have hr1 : 0 ≤ v / u % 10 := Int.emod_nonneg _ (by decide)
  have hr2 : v / u % 10 < 10 := Int.emod_lt_of_pos _ (by decide)
  have key : u ≤ v ∨ u = 1 → j_X5_writeWhole_17 (fun l1' l2' S' => j_X5_writeWhole_3 n l1' l2' S') v u S = j_X5_writeWhole_3 n v (u / 10) (eC S (dg v u)) := by
    intro hc
    have hd : dg v u = [48 + v / u % 10] := if_pos hc
    rw [hd] at h ⊢
    unfold j_X5_writeWhole_17 j_X5_writeWhole_33
    refine it (by omega) (it ⟨hv, hu⟩ (it ⟨hq, by decide⟩ (it ⟨by omega, by omega⟩ ?_)))
    rw [p6_add h, Option.bind_some]
    exact it ⟨by omega, by decide⟩ rfl
  rw [j_X5_writeWhole_3]
  refine ie (by omega) ?_
  by_cases h1 : u ≤ v
  · exact it h1 (key (.inl h1))
  · refine ie h1 ?_
    by_cases h2 : u = 1
    · exact ie (nn h2) (key (.inr h2))
    · refine it h2 ?_
      have hd : dg v u = [] := if_neg (fun q => by omega)
      rw [hd]
      unfold j_X5_writeWhole_33
      exact it ⟨by omega, by decide⟩ rfl
theorem p6_wh {v : Int} (hv : 0 ≤ v) (hv2 : v ≤ 999999) (h : cw S (pwh v).length) : j_X5_writeWhole v S = some (eC S (pwh v)) := by
  unfold pwh at h ⊢
  simp only [List.length_append] at h
  unfold j_X5_writeWhole j_X5_writeWhole_0
  show j_X5_writeWhole_3 (19993 + 1 + 1 + 1 + 1 + 1 + 1 + 1) v 100000 S = _
  rw [p6_ww hv hv2 (by decide) (by decide) (cw_m h (by omega)), show (100000 : Int) / 10 = 10000 by decide]
  have h1 := cw_e h
  rw [p6_ww hv hv2 (by decide) (by decide) (cw_m h1 (by omega)), show (10000 : Int) / 10 = 1000 by decide, eC_app]
  have h2 := cw_e h1
  rw [eC_app] at h2
  rw [p6_ww hv hv2 (by decide) (by decide) (cw_m h2 (by omega)), show (1000 : Int) / 10 = 100 by decide, eC_app]
  have h3 := cw_e h2
  rw [eC_app] at h3
  rw [p6_ww hv hv2 (by decide) (by decide) (cw_m h3 (by omega)), show (100 : Int) / 10 = 10 by decide, eC_app]
  have h4 := cw_e h3
  rw [eC_app] at h4
  rw [p6_ww hv hv2 (by decide) (by decide) (cw_m h4 (by omega)), show (10 : Int) / 10 = 1 by decide, eC_app]
  have h5 := cw_e h4
  rw [eC_app] at h5
  rw [p6_ww hv hv2 (by decide) (by decide) h5, show (1 : Int) / 10 = 0 by decide, eC_app, j_X5_writeWhole_3]
  refine it (by decide) ?_
  simp only [List.append_assoc]
theorem p6_fr {l1 l2 : Int} : ∀ (k n : Nat) (r c : Int) (S : iS), c + k = 3 → 0 ≤ c → 0 ≤ r → r < 1000 → k < n → cw S (pfK k r).length → j_X5_writeThousandths_55 n l1 l2 r c S = some (eC S (pfK k r)) := by
  intro k
  induction k with
  | zero =>
    intro n r c S hc _ _ _ hn _
    obtain ⟨n, rfl⟩ : ∃ p, n = p + 1 := ⟨n - 1, by omega⟩
    rw [j_X5_writeThousandths_55]
    exact it (by omega) rfl
  | succ k ih =>
    intro n r c S hc h0 hr hr2 hn h
    obtain ⟨n, rfl⟩ : ∃ p, n = p + 1 := ⟨n - 1, by omega⟩
    rw [j_X5_writeThousandths_55]
    rw [pfK] at h ⊢
    refine ie (by omega) ?_
    by_cases h1 : r ≤ 0
    · rw [if_pos h1, if_pos h1]; rfl
    · rw [if_neg h1] at h ⊢
      rw [if_neg h1]
      refine it ⟨hr, by decide⟩ (it ⟨by omega, by omega⟩ ?_)
      rw [List.length_cons] at h
      rw [p6_add (cw_m h (by omega)), Option.bind_some]
      refine it ⟨by omega, by omega⟩ (it ⟨by omega, by omega⟩ ?_)
      rw [ih n (r % 100 * 10) (c + 1) _ (by omega) (by omega) (by omega) (by omega) (by omega) (cw_e (by rw [List.length_singleton, Nat.add_comm]; exact h)), eC_app]
      rfl
theorem p6_t1 {l1 v : Int} (hv : 0 ≤ v) (hv2 : v ≤ 999999999) (h : cw S (pt1 v).length) : j_X5_writeThousandths_24 l1 v S = some (eC S (pt1 v)) := by
  unfold pt1 at h ⊢
  rw [List.length_append] at h
  unfold j_X5_writeThousandths_24 j_X5_writeThousandths_52
  refine it ⟨hv, by decide⟩ ?_
  rw [p6_wh (by omega) (by omega) (cw_m h (by omega)), Option.bind_some]
  have h1 := cw_e h
  by_cases hr : v % 1000 ≤ 0
  · rw [if_pos hr] at h1 ⊢
    rw [if_pos hr, p6_fr 3 fuel (v % 1000) 0 _ (by decide) (by decide) (by omega) (by omega) (by unfold fuel; decide) h1, eC_app]
  · rw [if_neg hr] at h1 ⊢
    rw [List.length_cons] at h1
    rw [if_neg hr, p6_add (cw_m h1 (by omega)), Option.bind_some, p6_fr 3 fuel (v % 1000) 0 _ (by decide) (by decide) (by omega) (by omega) (by unfold fuel; decide) (cw_e (by rw [List.length_singleton, Nat.add_comm]; exact h1)), eC_app, eC_app]
    simp only [List.append_assoc, List.singleton_append]
theorem p6_th {t : Int} (h0 : -999999999 ≤ t) (h1 : t ≤ 999999999) (h : cw S (pth t).length) : j_X5_writeThousandths t S = some (eC S (pth t)) := by
  unfold pth at h ⊢
  unfold j_X5_writeThousandths j_X5_writeThousandths_0 j_X5_writeThousandths_10
  by_cases ht : 0 ≤ t
  · rw [if_pos ht] at h ⊢
    rw [if_pos ht, if_pos ht]
    exact p6_t1 ht h1 h
  · rw [if_neg ht] at h ⊢
    rw [List.length_cons] at h
    rw [if_neg ht, if_pos (show rg (-t) from ⟨by omega, by omega⟩), if_neg ht, p6_add (cw_m h (by omega)), Option.bind_some, p6_t1 (by omega) (by omega) (cw_e (by rw [List.length_singleton, Nat.add_comm]; exact h)), eC_app]
    rfl
/-- piece i of the Spans a, however much is written -/
def nmC (S : iS) (a : Nat) (i : Int) (ns : List Int) : Prop := ∀ xs, j_X4_lengthOf a i (eC S xs) = some ((ns.length : Int), eC S xs) ∧ ∀ j : Nat, j < ns.length → j_X4_signAt a i j (eC S xs) = some (ns.getD j 0, eC S xs)
theorem nmC_e {a : Nat} {i : Int} {ns : List Int} (h : nmC S a i ns) : nmC (eC S xs) a i ns := fun ys => by
  have := h (xs ++ ys)
  rw [← eC_app] at this
  exact this
theorem p6_ipn {a : Nat} {i : Int} {ns : List Int} (h : nmC S a i ns) (hl : ns.length ≤ 1000) : ∀ (j n k : Nat), k + j = ns.length → j < n → j_X4_isPlainName_2 a n i k S = some (bi (∀ c ∈ ns.drop k, isPln c), S) := by
  obtain ⟨e1, e2⟩ := h []
  have e1' : j_X4_lengthOf a i S = some ((ns.length : Int), S) := e1
  intro j
  induction j with
  | zero =>
    intro n k hk hn
    obtain ⟨n, rfl⟩ : ∃ p, n = p + 1 := ⟨n - 1, by omega⟩
    rw [j_X4_isPlainName_2, e1', Option.bind_some, bi_t (by rw [List.drop_eq_nil_of_le (by omega)]; exact fun c hc => absurd hc List.not_mem_nil)]
    exact it (by show (ns.length : Int) ≤ k; omega) rfl
  | succ j ih =>
    intro n k hk hn
    obtain ⟨n, rfl⟩ : ∃ p, n = p + 1 := ⟨n - 1, by omega⟩
    have e2' : j_X4_signAt a i k S = some (ns.getD k 0, S) := e2 k (by omega)
    have d := drop_getD (l := ns) (k := k) (by omega)
    rw [j_X4_isPlainName_2, e1', Option.bind_some]
    refine ie (by show ¬ (ns.length : Int) ≤ k; omega) ?_
    dsimp only
    rw [e2', Option.bind_some, e6_pln, Option.bind_some, d]
    dsimp only
    by_cases hp : isPln (ns.getD k 0)
    · refine it (bi_n hp) (it ⟨by omega, by omega⟩ ?_)
      rw [show (k : Int) + 1 = ((k + 1 : Nat) : Int) by omega, ih n (k + 1) (by omega) (by omega)]
      congr 2
      by_cases hr : ∀ c ∈ ns.drop (k + 1), isPln c
      · rw [bi_t hr, bi_t (fun c hc => by
          rcases List.mem_cons.mp hc with q | q
          · rw [q]; exact hp
          · exact hr c q)]
      · rw [bi_f hr, bi_f (fun q => hr (fun c hc => q c (List.mem_cons_of_mem _ hc)))]
    · refine ie (nn (bi_0.mpr hp)) ?_
      rw [bi_f (fun q => hp (q _ (List.mem_cons_self ..)))]
theorem p6_nl {a : Nat} {i q : Int} {ns : List Int} (hl : ns.length ≤ 1000) : ∀ (j n k : Nat) (S : iS), nmC S a i ns → k + j = ns.length → j < n → cw S (esc (ns.drop k) ++ (if q = 0 then [] else [34])).length → j_X5_writeName_30 a n i q k S = some (eC S (esc (ns.drop k) ++ (if q = 0 then [] else [34]))) := by
  intro j
  induction j with
  | zero =>
    intro n k S h hk hn hc
    obtain ⟨n, rfl⟩ : ∃ p, n = p + 1 := ⟨n - 1, by omega⟩
    have e1' : j_X4_lengthOf a i S = some ((ns.length : Int), S) := (h []).1
    rw [List.drop_eq_nil_of_le (by omega), esc_nil, List.nil_append] at hc ⊢
    rw [j_X5_writeName_30, e1', Option.bind_some]
    unfold j_X5_writeName_100
    refine it (by show (ns.length : Int) ≤ k; omega) ?_
    by_cases hq : q = 0
    · rw [if_pos hq, if_pos hq]; rfl
    · rw [if_neg hq] at hc ⊢
      rw [if_neg hq]
      dsimp only
      rw [p6_add hc, Option.bind_some]
  | succ j ih =>
    intro n k S h hk hn hc
    obtain ⟨n, rfl⟩ : ∃ p, n = p + 1 := ⟨n - 1, by omega⟩
    have e1' : j_X4_lengthOf a i S = some ((ns.length : Int), S) := (h []).1
    have e2' : j_X4_signAt a i k S = some (ns.getD k 0, S) := (h []).2 k (by omega)
    have d := drop_getD (l := ns) (k := k) (by omega)
    rw [d, esc] at hc ⊢
    rw [j_X5_writeName_30, e1', Option.bind_some]
    refine ie (by show ¬ (ns.length : Int) ≤ k; omega) ?_
    dsimp only
    rw [e2', Option.bind_some]
    dsimp only
    unfold j_X5_writeName_63 j_X5_writeName_72
    have tl : ∀ T, nmC T a i ns → cw T ((esc (ns.drop (k + 1)) ++ (if q = 0 then [] else [34])).length + 1) → ((j_X3_add 3 (ns.getD k 0) T).bind fun qx1 => (if rg ((k : Int) + (1 : Int)) then (j_X5_writeName_30 a n i q ((k : Int) + (1 : Int)) qx1) else none)) = some (eC T (ns.getD k 0 :: (esc (ns.drop (k + 1)) ++ (if q = 0 then [] else [34])))) := by
      intro T hT hcT
      rw [p6_add (cw_m hcT (by omega)), Option.bind_some]
      refine it ⟨by omega, by omega⟩ ?_
      rw [show (k : Int) + 1 = ((k + 1 : Nat) : Int) by omega, ih n (k + 1) _ (nmC_e hT) (by omega) (by omega) (cw_e (by rw [List.length_singleton, Nat.add_comm]; exact hcT)), eC_app]
      rfl
    by_cases hs : ns.getD k 0 = 34 ∨ ns.getD k 0 = 92
    · rw [if_pos hs, List.cons_append, List.cons_append, List.length_cons, List.length_cons] at hc
      rw [if_pos hs, List.cons_append, List.cons_append]
      have key : ((j_X3_add 3 92 S).bind fun qx1 => ((j_X3_add 3 (ns.getD k 0) qx1).bind fun qx1 => (if rg ((k : Int) + (1 : Int)) then (j_X5_writeName_30 a n i q ((k : Int) + (1 : Int)) qx1) else none))) = some (eC S (92 :: ns.getD k 0 :: (esc (ns.drop (k + 1)) ++ (if q = 0 then [] else [34])))) := by
        rw [p6_add (cw_m hc (by omega)), Option.bind_some, tl _ (nmC_e h) (cw_e (by rw [List.length_singleton, Nat.add_comm]; exact hc)), eC_app]
        rfl
      by_cases h34 : ns.getD k 0 = 34
      · exact it h34 key
      · exact ie h34 (ie (nn (hs.resolve_left h34)) key)
    · rw [if_neg hs, List.cons_append, List.length_cons] at hc
      rw [if_neg hs, List.cons_append]
      exact ie (fun q => hs (.inl q)) (it (fun q => hs (.inr q)) (tl S h hc))
/-- writeName -/
theorem p6_nm {a : Nat} {i : Int} {ns : List Int} (h : nmC S a i ns) (hl : ns.length ≤ 1000) (hc : cw S (pnm ns).length) : j_X5_writeName a i S = some (eC S (pnm ns)) := by
  unfold j_X5_writeName j_X5_writeName_0 j_X5_writeName_13 j_X5_writeName_27 j_X4_isPlainName j_X4_isPlainName_0
  have e := p6_ipn h hl ns.length fuel 0 (by omega) (by unfold fuel; omega)
  have e' : j_X4_isPlainName_2 a fuel i 0 S = some (bi (∀ c ∈ ns.drop 0, isPln c), S) := e
  rw [List.drop_zero] at e'
  rw [e', Option.bind_some]
  dsimp only
  unfold pnm at hc ⊢
  by_cases hp : ∀ c ∈ ns, isPln c
  · rw [if_pos hp] at hc ⊢
    refine it (bi_n hp) (it rfl ?_)
    have := p6_nl (a := a) (i := i) (q := 0) hl ns.length fuel 0 S h (by omega) (by unfold fuel; omega) (by rw [List.drop_zero, if_pos rfl, List.append_nil]; exact hc)
    rw [List.drop_zero, if_pos rfl, List.append_nil] at this
    exact this
  · rw [if_neg hp] at hc ⊢
    rw [List.length_cons] at hc
    refine ie (nn (bi_0.mpr hp)) (ie (by decide) ?_)
    rw [p6_add (cw_m hc (by omega)), Option.bind_some]
    have := p6_nl (a := a) (i := i) (q := 1) hl ns.length fuel 0 (eC S [34]) (nmC_e h) (by omega) (by unfold fuel; omega) (by rw [List.drop_zero, if_neg (by decide)]; exact cw_e (by rw [List.length_singleton, Nat.add_comm]; exact hc))
    rw [List.drop_zero, if_neg (by decide), eC_app] at this
    exact this
end PRS
