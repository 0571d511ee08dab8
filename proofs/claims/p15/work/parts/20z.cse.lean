section CSE
variable {S S' S'' : iS} {b : Bool} {G : gT}
theorem flV_getD : ∀ {l : List (Int × Int × Int × List vT)} {n i c : Nat}, (∀ x ∈ l, x.2.2.2.length = n) → i < l.length → c < n → (flV l).getD (i * n + c) (0, 0, []) = (l.getD i (0, 0, 0, [])).2.2.2.getD c (0, 0, []) := by
  intro l
  induction l with
  | nil => intro n i c _ hi _; exact absurd hi (Nat.not_lt_zero _)
  | cons x l ih =>
    intro n i c h hi hc
    have h1 := h x (List.mem_cons_self ..)
    have hf : flV (x :: l) = x.2.2.2 ++ flV l := rfl
    rw [hf, List.getD_eq_getElem?_getD]
    cases i with
    | zero =>
      rw [Nat.zero_mul, Nat.zero_add, List.getElem?_append_left (by omega), ← List.getD_eq_getElem?_getD]
      rfl
    | succ i =>
      rw [List.getElem?_append_right (by rw [h1, Nat.add_mul]; omega), ← List.getD_eq_getElem?_getD, h1, show (i + 1) * n + c - n = i * n + c by rw [Nat.add_mul]; omega]
      rw [ih (fun y hy => h y (List.mem_cons_of_mem _ hy)) (by rw [List.length_cons] at hi; omega) hc]
      rfl
theorem map_getD {α β : Type} {l : List α} {f : α → β} {d : α} {d' : β} (hd : f d = d') {i : Nat} : (l.map f).getD i d' = f (l.getD i d) := by
  rw [List.getD_eq_getElem?_getD, List.getD_eq_getElem?_getD, List.getElem?_map]
  cases l[i]? with
  | none => exact hd.symm
  | some x => rfl
def gkF (m : Int) (vs : List Int) : Int := if 3 ∈ vs then 2 else if 2 ∈ vs then 1 else m
theorem gkF_nil {m : Int} : gkF m [] = m := by simp [gkF]
theorem gkF_3 {m : Int} {vs : List Int} : gkF m (3 :: vs) = 2 := by simp [gkF]
theorem gkF_2 {m : Int} {vs : List Int} : gkF m (2 :: vs) = gkF 1 vs := by
  unfold gkF
  by_cases h : 3 ∈ vs
  · rw [if_pos (List.mem_cons_of_mem _ h), if_pos h]
  · rw [if_neg (fun q => by rcases List.mem_cons.mp q with q | q; exact absurd q (by decide); exact h q), if_neg h, if_pos (List.mem_cons_self ..)]
    split <;> rfl
theorem gkF_o {m v : Int} {vs : List Int} (h3 : ¬ v = 3) (h2 : ¬ v = 2) : gkF m (v :: vs) = gkF m vs := by
  unfold gkF
  by_cases h : 3 ∈ vs
  · rw [if_pos (List.mem_cons_of_mem _ h), if_pos h]
  · rw [if_neg (fun q => by rcases List.mem_cons.mp q with q | q; exact h3 q.symm; exact h q), if_neg h]
    by_cases h' : 2 ∈ vs
    · rw [if_pos (List.mem_cons_of_mem _ h'), if_pos h']
    · rw [if_neg (fun q => by rcases List.mem_cons.mp q with q | q; exact h2 q.symm; exact h' q), if_neg h']
/-- the room of a VALUE -/
theorem c_room {nh i c : Nat} (h8 : jI S (gadr b + 8) 3 = nh) (hi : i ≤ 1000) (hn : nh ≤ 3) (hc : c ≤ 1000) : j_X1_roomOf b i c S = some (((i * nh + c : Nat) : Int), S) := by
  have : i * nh ≤ 1000 * 3 := Nat.mul_le_mul hi hn
  unfold j_X1_roomOf j_X1_roomOf_0
  rw [h8, ← Int.natCast_mul, ← Int.natCast_add]
  exact it ⟨by omega, by omega⟩ (it ⟨by omega, by omega⟩ rfl)
theorem room_lt {i n c k : Nat} (hi : i < k) (hc : c < n) : i * n + c < k * n := by
  have : (i + 1) * n ≤ k * n := Nat.mul_le_mul_right n hi
  rw [Nat.add_mul] at this
  omega
theorem rT_at (z : zS S) {a : Nat} {l : List Int} (h : rT S a l) {i : Nat} (hi : i < l.length) : j_X3_at a i S = some (l.getD i 0, S) := by
  rw [eR_at z, rv_at h.1 (by rw [h.2]; exact hi), h.2]
theorem rT_len {a : Nat} {l : List Int} (h : rT S a l) : jI S a 1 = l.length := by
  have := rv_len h.1
  rw [h.2] at this
  exact this.symm
theorem l6_gk (z : zS S) {l : List (Int × Int × Int × List vT)} {nh c : Nat} (h31 : rT S (gadr b + 31) ((flV l).map (fun v => v.1))) (h20 : jI S (gadr b + 20) 1 = l.length) (h8 : jI S (gadr b + 8) 3 = nh) (hl : l.length ≤ 40) (hn : nh ≤ 3) (hc : c < nh) (hlen : ∀ x ∈ l, x.2.2.2.length = nh) : ∀ (j n k : Nat) (m : Int), k + j = l.length → j < n → j_X1_guessKind_4 b n c m k S = some (gkF m (colS (l.drop k) c), S) := by
  intro j
  induction j with
  | zero =>
    intro n k m hk hn
    obtain ⟨n, rfl⟩ : ∃ p, n = p + 1 := ⟨n - 1, by omega⟩
    rw [j_X1_guessKind_4, h20, List.drop_eq_nil_of_le (by omega)]
    refine it (by omega) ?_
    rw [show colS [] c = [] from rfl, gkF_nil]
  | succ j ih =>
    intro n k m hk hn'
    obtain ⟨n, rfl⟩ : ∃ p, n = p + 1 := ⟨n - 1, by omega⟩
    have hlt : k < l.length := by omega
    have hfl := flV_len hlen
    have hx : ((flV l).map (fun v => v.1)).getD (k * nh + c) 0 = (l[k].2.2.2.getD c (0, 0, [])).1 := by
      rw [map_getD (d := (0, 0, [])) rfl, flV_getD hlen hlt hc, List.getD_eq_getElem?_getD (l := l), List.getElem?_eq_getElem hlt]
      rfl
    rw [j_X1_guessKind_4, h20, List.drop_eq_getElem_cons hlt]
    refine ie (by omega) ?_
    rw [c_room h8 (by omega) hn (by omega), Option.bind_some]
    dsimp only
    rw [rT_at z h31 (by rw [List.length_map, hfl]; exact room_lt hlt hc), Option.bind_some, hx]
    dsimp only
    rw [show colS (l[k] :: l.drop (k + 1)) c = (l[k].2.2.2.getD c (0, 0, [])).1 :: colS (l.drop (k + 1)) c from rfl]
    generalize (l[k].2.2.2.getD c (0, 0, [])).1 = v
    have e : (k : Int) + 1 = ((k + 1 : Nat) : Int) := by omega
    unfold j_X1_guessKind_46
    rw [e]
    by_cases h3 : v = 3
    · refine ie (nn h3) ?_
      rw [h3, gkF_3]
    · refine it h3 ?_
      by_cases h2 : v = 2
      · refine ie (nn h2) (it ⟨by omega, by omega⟩ ?_)
        rw [h2, gkF_2]
        exact ih n (k + 1) 1 (by omega) (by omega)
      · refine it h2 (it ⟨by omega, by omega⟩ ?_)
        rw [gkF_o h3 h2]
        exact ih n (k + 1) m (by omega) (by omega)
theorem c_gk (z : zS S) {l : List (Int × Int × Int × List vT)} {nh c : Nat} (h31 : rT S (gadr b + 31) ((flV l).map (fun v => v.1))) (h20 : jI S (gadr b + 20) 1 = l.length) (h8 : jI S (gadr b + 8) 3 = nh) (hl : l.length ≤ 40) (hn : nh ≤ 3) (hc : c < nh) (hlen : ∀ x ∈ l, x.2.2.2.length = nh) : j_X1_guessKind b c S = some (gsK (colS l c), S) := by
  unfold j_X1_guessKind j_X1_guessKind_0
  have := l6_gk z h31 h20 h8 hl hn hc hlen l.length fuel 0 0 (by omega) (by unfold fuel; omega)
  rw [List.drop_zero] at this
  exact this
theorem rT_put (z : zS S) {a : Nat} {l : List Int} {x : Int} (h : rT S a l) {i : Nat} (hi : i < l.length) : j_X3_put a i x S = some (kA S (a + 1) ((jA S (a + 1)).set i x)) ∧ rT (kA S (a + 1) ((jA S (a + 1)).set i x)) a (l.set i x) := by
  have hl := rT_len h
  have h2 := h.1.2
  have hz := zS_le z (a + 1)
  refine ⟨?_, ⟨h.1.1, ?_⟩, ?_⟩
  · unfold j_X3_put j_X3_put_0 j_X3_put_28
    refine ie (by omega) (ie (by omega) (it (by omega) (ie (by omega) (it ⟨by omega, by omega⟩ ?_))))
    rw [show ((i : Int)).toNat = i by omega]
  · rw [jI_kA, jA_eq, List.length_set]; exact h2
  · rw [← h.2]
    unfold rv gv
    rw [jI_kA, jA_eq, List.take_set]
/-- settleKinds -/
theorem l6_st (hw : wfG G) : ∀ (j n i : Nat) (S : iS) (K : List Int), i + j = (gHe G).length → j < n → zS S → K.length = (gHe G).length → rT S (gadr b + 18) K → rT S (gadr b + 31) ((flV (gAr G)).map (fun v => v.1)) → jI S (gadr b + 20) 1 = (gAr G).length → jI S (gadr b + 8) 3 = (gHe G).length → ∃ S' K', j_X1_settleKinds_2 b n i S = some S' ∧ frC (fun _ _ => False) (RR b 18) S S' ∧ zS S' ∧ rT S' (gadr b + 18) K' ∧ K'.length = (gHe G).length ∧ ∀ p, p < (gHe G).length → K'.getD p 0 = if i ≤ p then stK G p (K.getD p 0) else K.getD p 0 := by
  have hg := g_or b
  intro j
  induction j with
  | zero =>
    intro n i S K hi hn z hK h18 h31 h20 h8
    obtain ⟨n, rfl⟩ : ∃ p, n = p + 1 := ⟨n - 1, by omega⟩
    refine ⟨S, K, ?_, frC_refl, z, h18, hK, fun p hp => by rw [if_neg (by omega)]⟩
    rw [j_X1_settleKinds_2, rT_len h18]
    exact it (by omega) rfl
  | succ j ih =>
    intro n i S K hi hn z hK h18 h31 h20 h8
    obtain ⟨n, rfl⟩ : ∃ p, n = p + 1 := ⟨n - 1, by omega⟩
    have h3 := hw.2.1
    rw [j_X1_settleKinds_2, rT_len h18]
    unfold j_X1_settleKinds_38
    have e : (i : Int) + 1 = ((i + 1 : Nat) : Int) := by omega
    rw [if_neg (show ¬ (K.length : Int) ≤ i by omega), rT_at z h18 (by omega), Option.bind_some, e]
    dsimp only
    by_cases hk : K.getD i 0 = 3
    · rw [if_neg (nn hk), c_gk z h31 h20 h8 hw.2.2.1 h3 (by omega) (fun x hx => (hw.2.2.2.1 x hx).1), Option.bind_some]
      dsimp only
      obtain ⟨e1, t1⟩ := rT_put (x := gsK (colS (gAr G) i)) z h18 (i := i) (by omega)
      rw [e1, Option.bind_some, if_pos (show rg ((i + 1 : Nat) : Int) from ⟨by omega, by omega⟩)]
      have f1 : frC (fun _ _ => False) (RR b 18) S (kA S (gadr b + 18 + 1) ((jA S (gadr b + 18 + 1)).set i (gsK (colS (gAr G) i)))) := ⟨fun _ _ _ => rfl, fun a q => jA_ne q, rfl⟩
      have z1 : zS (kA S (gadr b + 18 + 1) ((jA S (gadr b + 18 + 1)).set i (gsK (colS (gAr G) i)))) := zS_set z
      generalize kA S (gadr b + 18 + 1) ((jA S (gadr b + 18 + 1)).set i (gsK (colS (gAr G) i))) = T at *
      obtain ⟨S', K', e2, f2, z2', t2, l2, p2⟩ := ih n (i + 1) T _ (by omega) (by omega) z1 (by rw [List.length_set]; exact hK) t1 (rT_eq h31 (f1.1 _ _ (fun q => q)) (f1.2.1 _ (by omega))) (by rw [f1.1 _ _ (fun q => q)]; exact h20) (by rw [f1.1 _ _ (fun q => q)]; exact h8)
      refine ⟨S', K', e2, frC_trans f1 f2, z2', t2, l2, fun p hp => ?_⟩
      rw [p2 p hp, getD_set]
      by_cases ep : p = i
      · subst ep
        rw [if_neg (by omega), if_pos ⟨rfl, by omega⟩, if_pos (by omega), hk]
        unfold stK
        rw [if_pos rfl]
      · rw [if_neg (show ¬ (p = i ∧ i < K.length) from fun q => ep q.1)]
        by_cases h1 : i ≤ p
        · rw [if_pos h1, if_pos (by omega)]
        · rw [if_neg h1, if_neg (by omega)]
    · rw [if_pos hk, if_pos (show rg ((i + 1 : Nat) : Int) from ⟨by omega, by omega⟩)]
      obtain ⟨S', K', e2, f2, z2', t2, l2, p2⟩ := ih n (i + 1) S K (by omega) (by omega) z hK h18 h31 h20 h8
      refine ⟨S', K', e2, f2, z2', t2, l2, fun p hp => ?_⟩
      rw [p2 p hp]
      by_cases ep : p = i
      · subst ep
        rw [if_neg (by omega), if_pos (by omega)]
        unfold stK
        rw [if_neg hk]
      · by_cases h1 : i ≤ p
        · rw [if_pos h1, if_pos (by omega)]
        · rw [if_neg h1, if_neg (by omega)]
theorem getD_ext {l l' : List Int} (h : l.length = l'.length) (e : ∀ p, p < l.length → l.getD p 0 = l'.getD p 0) : l = l' := by
  refine List.ext_getElem? fun p => ?_
  by_cases hp : p < l.length
  · have := e p hp
    rw [List.getD_eq_getElem?_getD, List.getD_eq_getElem?_getD, List.getElem?_eq_getElem hp, List.getElem?_eq_getElem (by omega)] at this
    rw [List.getElem?_eq_getElem hp, List.getElem?_eq_getElem (by omega)]
    exact congrArg some this
  · rw [List.getElem?_eq_none (by omega), List.getElem?_eq_none (by omega)]
/-- what a graph of the class tells those who ask -/
def cO (b : Bool) (S : iS) (G : gT) : Prop := rk S (gadr b + 1) ∧ (spn S (gadr b + 3) (sg b S) (gNo G) ∧ spn S (gadr b + 8) (sg b S) ((gHe G).map (fun h => h.1)) ∧ spn S (gadr b + 13) (sg b S) (gCo G)) ∧ rT S (gadr b + 18) ((gHe G).map (fun h => h.2)) ∧ (rT S (gadr b + 20) ((gAr G).map (fun x => x.1)) ∧ rT S (gadr b + 22) ((gAr G).map (fun x => x.2.1)) ∧ rT S (gadr b + 24) ((gAr G).map (fun x => x.2.2.1))) ∧ (spn S (gadr b + 26) (sg b S) ((flV (gAr G)).map vsg) ∧ rT S (gadr b + 31) ((flV (gAr G)).map (fun v => v.1)) ∧ rT S (gadr b + 33) ((flV (gAr G)).map (fun v => v.2.1))) ∧ rT S (gadr b + 35) (gLi G) ∧ jI S (gadr b) 12 = gLo G ∧ ∀ c, gCt G = some c → jI S (gadr b) 13 = c.1 ∧ jI S (gadr b) 14 = c.2
theorem cO_far (h : cO b S G) (e : ∀ a q, gadr b ≤ a → a ≤ gadr b + 36 → jI S' a q = jI S a q ∧ jA S' a = jA S a) : cO b S' G := by
  obtain ⟨h0, ⟨h1, h2, h3⟩, h4, ⟨h5, h6, h7⟩, ⟨h8, h9, h10⟩, h11, h12, h13⟩ := h
  have hs : sg b S' = sg b S := by
    unfold sg gv
    rw [(e (gadr b + 1) 1 (by omega) (by omega)).1, (e (gadr b + 2) 1 (by omega) (by omega)).2]
  unfold cO
  rw [hs]
  exact ⟨rk_eq h0 (e (gadr b + 1) 1 (by omega) (by omega)).1 (e (gadr b + 1 + 1) 1 (by omega) (by omega)).2, ⟨sp_k h1 (fun a q p1 p2 => e a q (by omega) (by omega)), sp_k h2 (fun a q p1 p2 => e a q (by omega) (by omega)), sp_k h3 (fun a q p1 p2 => e a q (by omega) (by omega))⟩, rt_k h4 (fun a q p1 p2 => e a q (by omega) (by omega)), ⟨rt_k h5 (fun a q p1 p2 => e a q (by omega) (by omega)), rt_k h6 (fun a q p1 p2 => e a q (by omega) (by omega)), rt_k h7 (fun a q p1 p2 => e a q (by omega) (by omega))⟩, ⟨sp_k h8 (fun a q p1 p2 => e a q (by omega) (by omega)), rt_k h9 (fun a q p1 p2 => e a q (by omega) (by omega)), rt_k h10 (fun a q p1 p2 => e a q (by omega) (by omega))⟩, rt_k h11 (fun a q p1 p2 => e a q (by omega) (by omega)), (e (gadr b) 12 (by omega) (by omega)).1.trans h12, fun c hc => ⟨(e (gadr b) 13 (by omega) (by omega)).1.trans (h13 c hc).1, (e (gadr b) 14 (by omega) (by omega)).1.trans (h13 c hc).2⟩⟩
theorem stG_map1 : (gHe (stG G)).map (fun h => h.1) = (gHe G).map (fun h => h.1) := by
  show ((gHe G).mapIdx _).map _ = _
  refine List.ext_getElem? fun p => ?_
  rw [List.getElem?_map, List.getElem?_mapIdx, List.getElem?_map]
  cases (gHe G)[p]? <;> rfl
theorem c_settle (z : zS S) (hk : rk S (gadr b + 1)) (h : cG b S G) (hw : wfG G) : ∃ S', j_X1_settleKinds b S = some S' ∧ frC (fun _ _ => False) (RR b 18) S S' ∧ zS S' ∧ cO b S' (stG G) := by
  have hg := g_or b
  have hH := cG_cH.mp h
  obtain ⟨h1, h2, h3, h4, ⟨h5, h6, h7⟩, ⟨h8, h9, h10⟩, h11, h12, h13, h14⟩ := hH
  have a20 : jI S (gadr b + 20) 1 = (gAr G).length := by rw [rT_len h5, List.length_map]
  have a8 : jI S (gadr b + 8) 3 = (gHe G).length := by rw [h2.2.2.2.2.1, List.length_map]
  obtain ⟨S', K', e, f, z', t, l, p⟩ := l6_st (b := b) hw (gHe G).length fuel 0 S _ (by omega) (by have := hw.2.1; unfold fuel; omega) z (by rw [List.length_map]) h4 h9 a20 a8
  have hK : K' = (gHe (stG G)).map (fun h => h.2) := by
    refine getD_ext (by rw [List.length_map, stG_len, l]) fun i hi => ?_
    rw [l] at hi
    rw [p i hi, if_pos (Nat.zero_le _), map_getD (d := ([], 0)) rfl, map_getD (d := ([], 0)) rfl, stG_he hi]
  have hs : sg b S' = sg b S := by
    unfold sg gv
    rw [f.1 (gadr b + 1) 1 (fun q => q), f.2.1 (gadr b + 2) (by omega)]
  refine ⟨S', e, f, z', ?_⟩
  unfold cO
  rw [hs, stG_map1, ← hK]
  refine ⟨rk_eq hk (f.1 _ _ (fun q => q)) (f.2.1 _ (by omega)), ⟨sp_k h1 (fun a q p1 p2 => ⟨f.1 a q (fun q => q), f.2.1 a (by omega)⟩), sp_k h2 (fun a q p1 p2 => ⟨f.1 a q (fun q => q), f.2.1 a (by omega)⟩), sp_k h3 (fun a q p1 p2 => ⟨f.1 a q (fun q => q), f.2.1 a (by omega)⟩)⟩, t, ⟨rt_k h5 (fun a q p1 p2 => ⟨f.1 a q (fun q => q), f.2.1 a (by omega)⟩), rt_k h6 (fun a q p1 p2 => ⟨f.1 a q (fun q => q), f.2.1 a (by omega)⟩), rt_k h7 (fun a q p1 p2 => ⟨f.1 a q (fun q => q), f.2.1 a (by omega)⟩)⟩, ⟨sp_k h8 (fun a q p1 p2 => ⟨f.1 a q (fun q => q), f.2.1 a (by omega)⟩), rt_k h9 (fun a q p1 p2 => ⟨f.1 a q (fun q => q), f.2.1 a (by omega)⟩), rt_k h10 (fun a q p1 p2 => ⟨f.1 a q (fun q => q), f.2.1 a (by omega)⟩)⟩, rt_k h11 (fun a q p1 p2 => ⟨f.1 a q (fun q => q), f.2.1 a (by omega)⟩), (f.1 (gadr b) 12 (fun q => q)).trans h12, fun c hc => ?_⟩
  have hc' : gCt G = some c := hc
  rw [hc'] at h13
  exact ⟨(f.1 (gadr b) 13 (fun q => q)).trans h13.2.1, (f.1 (gadr b) 14 (fun q => q)).trans h13.2.2⟩
end CSE
