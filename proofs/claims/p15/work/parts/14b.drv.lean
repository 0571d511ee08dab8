section DRV
/-- a call of both that answers -/
def pI (c : Bool) (J : iS → Prop) (g6 g7 : iS → Option (Int × iS)) (S : iS) : Prop := ∃ x S1 y S2, g6 S = some (x, S1) ∧ g7 S1 = some (y, S2) ∧ J S2 ∧ (c = true → x = y)
/-- a call of both that may throw -/
def pX (c : Bool) (hs : List (String × Int)) (J : iS → Prop) (g6 : iS → Option ((Int ⊕ String) × iS)) (g7 : iS → Option (Int × iS)) (S : iS) : Prop := ∃ r S1, g6 S = some (r, S1) ∧ zS S1 ∧ ∀ o, ∃ y S2, g7 (kO S1 o) = some (y, S2) ∧ jO S2 = o ∧ J S2 ∧
  (match r with
  | .inl v => True ∧ (c = true → jI S2 82 0 = 0 ∧ v = y)
  | .inr E => ∃ k, hs.lookup E = some k ∧ (c = true → jI S2 82 0 = k ∧ k ≠ 0))
def fJ (J : iS → Prop) (s : fS) : Prop := ∃ S, sr S s ∧ zS S ∧ J S
theorem fI_of {c : Bool} {J : iS → Prop} {g6 g7 : iS → Option (Int × iS)} {f6 f7 : fS → Option (Int32 × fS)} {S : iS} {s : fS} (hs : sr S s) (h6 : ∀ {S s}, sr S s → rf rI (g6 S) (f6 s)) (h7 : ∀ {S s}, sr S s → rf rI (g7 S) (f7 s)) (hz : ∀ S, J S → zS S) (h : pI c J g6 g7 S) : ∃ X s1 Y s2, f6 s = some (X, s1) ∧ f7 s1 = some (Y, s2) ∧ fJ J s2 ∧ (c = true → X = Y) := by
  obtain ⟨x, S1, y, S2, e1, e2, hJ, he⟩ := h
  obtain ⟨⟨X, s1⟩, q1, r1⟩ := h6 hs _ e1
  obtain ⟨⟨Y, s2⟩, q2, r2⟩ := h7 r1.2 _ e2
  refine ⟨X, s1, Y, s2, q1, q2, ⟨S2, r2.2, hz _ hJ, hJ⟩, fun hc => ?_⟩
  have := he hc
  have a1 : X.toInt = x := r1.1
  have a2 : Y.toInt = y := r2.1
  exact Int32.toInt_inj.mp (by omega)
theorem lg_cmp_self (x : Int64) : lg_cmp x x = 0 := by
  unfold lg_cmp
  rw [if_neg (fun h => by have := Int64.lt_iff_toInt_lt.mp h; omega), if_pos rfl]
theorem kO_jO {S : iS} : kO S (jO S) = S := rfl
theorem fX_of {c : Bool} {hs : List (String × Int)} {Hs : List (String × Int32)} {J : iS → Prop} {g6 : iS → Option ((Int ⊕ String) × iS)} {g7 : iS → Option (Int × iS)} {f6 : fS → Option ((Int32 ⊕ String) × fS)} {f7 : fS → Option (Int32 × fS)} {S : iS} {s : fS} (hsr : sr S s) (h6 : ∀ {S s}, sr S s → rf rX (g6 S) (f6 s)) (h7 : ∀ {S s}, sr S s → rf rI (g7 S) (f7 s)) (hz : ∀ S, J S → zS S)
    (hH : ∀ E k, hs.lookup E = some k → ∃ K, Hs.lookup E = some K ∧ K.toInt = k) (h : pX c hs J g6 g7 S) : ∃ K s1 Y s2 T, (fbh Hs (f6 s) fun q => some ((0 : Int32), sO q.2 q.1.toInt64)) = some (K, s1) ∧ zok s1 = true ∧ f7 s1 = some (Y, s2) ∧ f_X7_thrown s2 = some (T, s2) ∧ fJ J s2 ∧ (c = true → T = K ∧ (K = 0 → lg_cmp (gO s2) Y.toInt64 = 0)) := by
  obtain ⟨r, S1, e1, z1, hk⟩ := h
  obtain ⟨⟨R, s1⟩, q1, r1, t1⟩ := h6 hsr _ e1
  cases R with
  | inl V =>
    have hr : r = .inl V.toInt := r1
    subst hr
    obtain ⟨y, S2, e2, ho, hJ, hm⟩ := hk V.toInt64
    obtain ⟨⟨Y, s2⟩, q2, r2⟩ := h7 (sr_O t1) _ e2
    refine ⟨0, sO s1 V.toInt64, Y, s2, gI s2 82 0, ?_, zok_sr (sr_O t1) z1, q2, rfl, ⟨S2, r2.2, hz _ hJ, hJ⟩, fun hc => ?_⟩
    · unfold fbh; rw [q1, Option.bind_some]
    · obtain ⟨m1, m2⟩ := hm.2 hc
      refine ⟨Int32.toInt_inj.mp ((r2.2.1 82 0).trans m1), fun _ => ?_⟩
      have a2 : Y.toInt = y := r2.1
      have a3 : V = Y := Int32.toInt_inj.mp (by omega)
      rw [show gO s2 = V.toInt64 from (sr_gO r2.2).trans ho, a3]
      exact lg_cmp_self _
  | inr E =>
    have hr : r = .inr E := r1
    subst hr
    obtain ⟨y, S2, e2, ho, hJ, k, hl, hm⟩ := hk (jO S1)
    obtain ⟨K, hL, hK⟩ := hH E k hl
    rw [kO_jO] at e2
    obtain ⟨⟨Y, s2⟩, q2, r2⟩ := h7 t1 _ e2
    refine ⟨K, s1, Y, s2, gI s2 82 0, ?_, zok_sr t1 z1, q2, rfl, ⟨S2, r2.2, hz _ hJ, hJ⟩, fun hc => ?_⟩
    · unfold fbh; rw [q1, Option.bind_some]; show (match Hs.lookup E with | some n => some (n, s1) | none => none) = _; rw [hL]
    · obtain ⟨m1, m2⟩ := hm hc
      refine ⟨Int32.toInt_inj.mp ((r2.2.1 82 0).trans (m1.trans hK.symm)), fun h0 => ?_⟩
      rw [h0] at hK
      exact absurd hK.symm m2
end DRV
