section DRV2
theorem ex_cond {α : Type} {c : Bool} {a b : Option α} (h : c = true → ∃ r, a = some r) (h' : c = false → ∃ r, b = some r) : ∃ r, (bif c then a else b) = some r := by
  cases c with
  | true => exact h rfl
  | false => exact h' rfl
theorem ex_true {α : Type} {c : Bool} {a b : Option α} (hc : c = true) (h : ∃ r, a = some r) : ∃ r, (bif c then a else b) = some r := by
  subst hc; exact h
theorem ex_chk {α : Type} {c : Bool} {a : Option α} (hc : c = true) (h : ∃ r, a = some r) : ∃ r, fchk c a = some r := by
  subst hc; exact h
theorem ex_bind {α β : Type} {o : Option α} {K : α → Option β} {q : α} (e : o = some q) (h : ∃ r, K q = some r) : ∃ r, o.bind K = some r := by
  rw [e]; exact h
theorem k_inN {X : Int32} {x : Int} {n : Nat} (h : X.toInt = x) (r : 0 ≤ x ∧ x < n) : mi_in X n = true := by
  subst h
  unfold mi_in
  rw [Bool.and_eq_true]
  refine ⟨decide_eq_true (Int32.le_iff_toInt_le.mpr r.1), decide_eq_true ?_⟩
  have : X.toNatClampNeg = X.toInt.toNat := rfl
  omega
theorem rg_toInt (X : Int32) : rg X.toInt := ⟨by have := Int32.le_toInt X; omega, by have := Int32.toInt_lt X; omega⟩
def hA : List (String × Int) := [("java/lang/ArrayIndexOutOfBoundsException", 1)]
def hV : List (String × Int) := [("java/lang/NullPointerException", 1), ("java/lang/ClassCastException", 2)]
def hG : List (String × Int) := [("java/lang/NullPointerException", 1), ("java/lang/ClassCastException", 2), ("java/lang/ArrayIndexOutOfBoundsException", 3)]
theorem hA_ok (E : String) (k : Int) (h : hA.lookup E = some k) : ∃ K, ([("java/lang/ArrayIndexOutOfBoundsException", 1)] : List (String × Int32)).lookup E = some K ∧ K.toInt = k := by
  unfold hA at h
  rw [List.lookup_cons] at h ⊢
  split at h
  · next e => cases h; exact ⟨1, rfl, by decide⟩
  · cases h
theorem hV_ok (E : String) (k : Int) (h : hV.lookup E = some k) : ∃ K, ([("java/lang/NullPointerException", 1), ("java/lang/ClassCastException", 2)] : List (String × Int32)).lookup E = some K ∧ K.toInt = k := by
  unfold hV at h
  rw [List.lookup_cons] at h ⊢
  split at h
  · next e => cases h; exact ⟨1, rfl, by decide⟩
  · next e =>
    rw [List.lookup_cons] at h ⊢
    split at h
    · next e => cases h; exact ⟨2, rfl, by decide⟩
    · cases h
theorem hG_ok (E : String) (k : Int) (h : hG.lookup E = some k) : ∃ K, ([("java/lang/NullPointerException", 1), ("java/lang/ClassCastException", 2), ("java/lang/ArrayIndexOutOfBoundsException", 3)] : List (String × Int32)).lookup E = some K ∧ K.toInt = k := by
  unfold hG at h
  rw [List.lookup_cons] at h ⊢
  split at h
  · next e => cases h; exact ⟨1, rfl, by decide⟩
  · next e =>
    rw [List.lookup_cons] at h ⊢
    split at h
    · next e => cases h; exact ⟨2, rfl, by decide⟩
    · next e =>
      rw [List.lookup_cons] at h ⊢
      split at h
      · next e => cases h; exact ⟨3, rfl, by decide⟩
      · cases h
/-- are the answers of the k-th method held against each other -/
def cF (k : Nat) : Bool := Nat.beq k 13
/-- what each call must do for the law to go on -/
def LF (c : Nat → Bool) (J : Nat → iS → Prop) (LS : Nat) : Prop := (∀ m S, J m S → zS S) ∧ ∀ m S, 4 * m + 4 ≤ LS → J m S →
  (∀ n w, rg n → pI (c 0) (J (m + 1)) (j_X6_feed n w) (j_X7_feed n w) S) ∧
  (pI (c 1) (J (m + 1)) j_X6_read j_X7_read S) ∧
  (∀ a, rg a → pI (c 2) (J (m + 1)) (j_X6_fault a) (j_X7_fault a) S) ∧
  (∀ a, rg a → pI (c 3) (J (m + 1)) (j_X6_manner a) (j_X7_manner a) S) ∧
  (pI (c 4) (J (m + 1)) j_X6_find j_X7_find S) ∧
  (∀ a b, rg a → rg b → pX (c 5) hA (J (m + 1)) (j_X6_node a b) (j_X7_node a b) S) ∧
  (∀ a b, rg a → rg b → pI (c 6) (J (m + 1)) (j_X6_arc a b) (j_X7_arc a b) S) ∧
  (∀ a, rg a → pI (c 7) (J (m + 1)) (j_X6_kind a) (j_X7_kind a) S) ∧
  (∀ a b, rg a → rg b → pX (c 8) hA (J (m + 1)) (j_X6_head a b) (j_X7_head a b) S) ∧
  (∀ a b, rg a → rg b → pX (c 9) hV (J (m + 1)) (j_X6_value a b) (j_X7_value a b) S) ∧
  (∀ a b d, rg a → rg b → rg d → pX (c 10) hG (J (m + 1)) (j_X6_sign a b d) (j_X7_sign_ a b d) S) ∧
  (∀ a b, rg a → rg b → pX (c 11) hA (J (m + 1)) (j_X6_comment a b) (j_X7_comment a b) S) ∧
  (pI (c 12) (J (m + 1)) j_X6_print j_X7_print S) ∧
  (∀ a, rg a → pX (c 13) hA (J (m + 1)) (j_X6_out a) (j_X7_out a) S) ∧
  (∀ a, rg a → pI (c 14) (J (m + 1)) (j_X6_about a) (j_X7_about a) S) ∧
  J (m + 1) S
set_option maxHeartbeats 4000000 in
set_option maxRecDepth 100000 in
theorem law_run {J : Nat → iS → Prop} {LS : Nat} (hF : LF cF J LS) (xs : Nat → Int32) (hLS : LS ≤ 2048) : ∀ (n m : Nat) (i : Int32) (s : fS), fJ (J m) s → i.toInt = 4 * m → 4 * m ≤ LS → LS < 4 * m + 4 * n → ∃ r, f_L_law_23 LS xs n i s = some r := by
  intro n
  induction n with
  | zero => intro m i s _ _ h1 h2; omega
  | succ n ih =>
    intro m i s hs hi h1 h2
    have zs : zok s = true := by obtain ⟨S, a, b, _⟩ := hs; exact zok_sr a b
    have hl : (Int32.ofNat LS).toInt = (LS : Int) := Int32.toInt_ofNat_of_lt (by omega)
    have nxt : ∀ s', fJ (J (m + 1)) s' → 4 * m + 4 ≤ LS → ∃ r, f_L_law_625 LS xs (fun l4' s' => f_L_law_23 LS xs n l4' s') i s' = some r := by
      intro s' hs' hk
      unfold f_L_law_625
      refine ih (m + 1) _ s' hs' ?_ (by omega) (by omega)
      have := i_add (y := 4) hi (by decide : (Int32.ofInt 4).toInt = 4) ⟨by omega, by omega⟩
      rw [this]; omega
    rw [f_L_law_23]
    refine ex_cond (fun _ => ex_chk zs ⟨_, rfl⟩) (fun hc => ?_)
    have hk : 4 * m + 4 ≤ LS := by
      have e := of_decide_eq_false hc
      have q := c_lt (i_sub hl (by decide : (4 : Int32).toInt = 4) ⟨by omega, by omega⟩) hi
      have := mt q.mp e
      omega
    have m0 : mi_in i LS = true := k_inN hi ⟨by omega, by omega⟩
    have m1 : mi_in (i + (1 : Int32)) LS = true := k_inN (i_add hi (by decide : (1 : Int32).toInt = 1) ⟨by omega, by omega⟩) ⟨by omega, by omega⟩
    have m2 : mi_in (i + (2 : Int32)) LS = true := k_inN (i_add hi (by decide : (2 : Int32).toInt = 2) ⟨by omega, by omega⟩) ⟨by omega, by omega⟩
    have m3 : mi_in (i + (3 : Int32)) LS = true := k_inN (i_add hi (by decide : (3 : Int32).toInt = 3) ⟨by omega, by omega⟩) ⟨by omega, by omega⟩
    refine ex_chk m0 ?_
    obtain ⟨S, sS, zS', hJ⟩ := hs
    obtain ⟨F0, F1, F2, F3, F4, F5, F6, F7, F8, F9, F10, F11, F12, F13, F14, F15⟩ := hF.2 m S hk hJ
    have hz := hF.1 (m + 1)
    refine ex_cond (fun _ => ?_) (fun _ => ?_)
    · obtain ⟨X, s1, Y, s2, e1, e2, hJ', he⟩ := fI_of (f6 := f_X6_feed (xs (i + (1 : Int32)).toNatClampNeg) ((mi_sshl (((xs (i + (2 : Int32)).toNatClampNeg)).toInt64) (32 : Int32)) ||| ((((xs (i + (3 : Int32)).toNatClampNeg)).toInt64) &&& (4294967295 : Int64)))) (f7 := f_X7_feed (xs (i + (1 : Int32)).toNatClampNeg) ((mi_sshl (((xs (i + (2 : Int32)).toNatClampNeg)).toInt64) (32 : Int32)) ||| ((((xs (i + (3 : Int32)).toNatClampNeg)).toInt64) &&& (4294967295 : Int64)))) sS (fun h => jr_X6_feed rfl rfl h) (fun h => jr_X7_feed rfl rfl h) hz (F0 _ _ (rg_toInt _))
      repeat (first | (with_reducible refine ex_chk (by assumption) ?_) | (with_reducible refine ex_bind (by assumption) ?_) | (with_reducible refine ex_true (by assumption) ?_))
      exact nxt _ hJ' hk
    refine ex_cond (fun _ => ?_) (fun _ => ?_)
    · obtain ⟨X, s1, Y, s2, e1, e2, hJ', he⟩ := fI_of (f6 := f_X6_read) (f7 := f_X7_read) sS (fun h => jr_X6_read h) (fun h => jr_X7_read h) hz F1
      repeat (first | (with_reducible refine ex_chk (by assumption) ?_) | (with_reducible refine ex_bind (by assumption) ?_) | (with_reducible refine ex_true (by assumption) ?_))
      exact nxt _ hJ' hk
    refine ex_cond (fun _ => ?_) (fun _ => ?_)
    · obtain ⟨X, s1, Y, s2, e1, e2, hJ', he⟩ := fI_of (f6 := f_X6_fault (xs (i + (1 : Int32)).toNatClampNeg)) (f7 := f_X7_fault (xs (i + (1 : Int32)).toNatClampNeg)) sS (fun h => jr_X6_fault rfl h) (fun h => jr_X7_fault rfl h) hz (F2 _ (rg_toInt _))
      repeat (first | (with_reducible refine ex_chk (by assumption) ?_) | (with_reducible refine ex_bind (by assumption) ?_) | (with_reducible refine ex_true (by assumption) ?_))
      exact nxt _ hJ' hk
    refine ex_cond (fun _ => ?_) (fun _ => ?_)
    · obtain ⟨X, s1, Y, s2, e1, e2, hJ', he⟩ := fI_of (f6 := f_X6_manner (xs (i + (1 : Int32)).toNatClampNeg)) (f7 := f_X7_manner (xs (i + (1 : Int32)).toNatClampNeg)) sS (fun h => jr_X6_manner rfl h) (fun h => jr_X7_manner rfl h) hz (F3 _ (rg_toInt _))
      repeat (first | (with_reducible refine ex_chk (by assumption) ?_) | (with_reducible refine ex_bind (by assumption) ?_) | (with_reducible refine ex_true (by assumption) ?_))
      exact nxt _ hJ' hk
    refine ex_cond (fun _ => ?_) (fun _ => ?_)
    · obtain ⟨X, s1, Y, s2, e1, e2, hJ', he⟩ := fI_of (f6 := f_X6_find) (f7 := f_X7_find) sS (fun h => jr_X6_find h) (fun h => jr_X7_find h) hz F4
      repeat (first | (with_reducible refine ex_chk (by assumption) ?_) | (with_reducible refine ex_bind (by assumption) ?_) | (with_reducible refine ex_true (by assumption) ?_))
      exact nxt _ hJ' hk
    refine ex_cond (fun _ => ?_) (fun _ => ?_)
    · obtain ⟨K, s1, Y, s2, T, e1, z1, e2, e3, hJ', he⟩ := fX_of (f6 := f_X6_node (xs (i + (1 : Int32)).toNatClampNeg) (xs (i + (2 : Int32)).toNatClampNeg)) (f7 := f_X7_node (xs (i + (1 : Int32)).toNatClampNeg) (xs (i + (2 : Int32)).toNatClampNeg)) sS (fun h => jr_X6_node rfl rfl h) (fun h => jr_X7_node rfl rfl h) hz hA_ok (F5 _ _ (rg_toInt _) (rg_toInt _))
      change f_L_node _ _ s = some (K, s1) at e1
      repeat (first | (with_reducible refine ex_chk (by assumption) ?_) | (with_reducible refine ex_bind (by assumption) ?_) | (with_reducible refine ex_true (by assumption) ?_))
      exact nxt _ hJ' hk
    refine ex_cond (fun _ => ?_) (fun _ => ?_)
    · obtain ⟨X, s1, Y, s2, e1, e2, hJ', he⟩ := fI_of (f6 := f_X6_arc (xs (i + (1 : Int32)).toNatClampNeg) (xs (i + (2 : Int32)).toNatClampNeg)) (f7 := f_X7_arc (xs (i + (1 : Int32)).toNatClampNeg) (xs (i + (2 : Int32)).toNatClampNeg)) sS (fun h => jr_X6_arc rfl rfl h) (fun h => jr_X7_arc rfl rfl h) hz (F6 _ _ (rg_toInt _) (rg_toInt _))
      repeat (first | (with_reducible refine ex_chk (by assumption) ?_) | (with_reducible refine ex_bind (by assumption) ?_) | (with_reducible refine ex_true (by assumption) ?_))
      exact nxt _ hJ' hk
    refine ex_cond (fun _ => ?_) (fun _ => ?_)
    · obtain ⟨X, s1, Y, s2, e1, e2, hJ', he⟩ := fI_of (f6 := f_X6_kind (xs (i + (1 : Int32)).toNatClampNeg)) (f7 := f_X7_kind (xs (i + (1 : Int32)).toNatClampNeg)) sS (fun h => jr_X6_kind rfl h) (fun h => jr_X7_kind rfl h) hz (F7 _ (rg_toInt _))
      repeat (first | (with_reducible refine ex_chk (by assumption) ?_) | (with_reducible refine ex_bind (by assumption) ?_) | (with_reducible refine ex_true (by assumption) ?_))
      exact nxt _ hJ' hk
    refine ex_cond (fun _ => ?_) (fun _ => ?_)
    · obtain ⟨K, s1, Y, s2, T, e1, z1, e2, e3, hJ', he⟩ := fX_of (f6 := f_X6_head (xs (i + (1 : Int32)).toNatClampNeg) (xs (i + (2 : Int32)).toNatClampNeg)) (f7 := f_X7_head (xs (i + (1 : Int32)).toNatClampNeg) (xs (i + (2 : Int32)).toNatClampNeg)) sS (fun h => jr_X6_head rfl rfl h) (fun h => jr_X7_head rfl rfl h) hz hA_ok (F8 _ _ (rg_toInt _) (rg_toInt _))
      change f_L_head _ _ s = some (K, s1) at e1
      repeat (first | (with_reducible refine ex_chk (by assumption) ?_) | (with_reducible refine ex_bind (by assumption) ?_) | (with_reducible refine ex_true (by assumption) ?_))
      exact nxt _ hJ' hk
    refine ex_cond (fun _ => ?_) (fun _ => ?_)
    · obtain ⟨K, s1, Y, s2, T, e1, z1, e2, e3, hJ', he⟩ := fX_of (f6 := f_X6_value (xs (i + (1 : Int32)).toNatClampNeg) (xs (i + (2 : Int32)).toNatClampNeg)) (f7 := f_X7_value (xs (i + (1 : Int32)).toNatClampNeg) (xs (i + (2 : Int32)).toNatClampNeg)) sS (fun h => jr_X6_value rfl rfl h) (fun h => jr_X7_value rfl rfl h) hz hV_ok (F9 _ _ (rg_toInt _) (rg_toInt _))
      change f_L_value _ _ s = some (K, s1) at e1
      repeat (first | (with_reducible refine ex_chk (by assumption) ?_) | (with_reducible refine ex_bind (by assumption) ?_) | (with_reducible refine ex_true (by assumption) ?_))
      exact nxt _ hJ' hk
    refine ex_cond (fun _ => ?_) (fun _ => ?_)
    · obtain ⟨K, s1, Y, s2, T, e1, z1, e2, e3, hJ', he⟩ := fX_of (f6 := f_X6_sign (xs (i + (1 : Int32)).toNatClampNeg) (xs (i + (2 : Int32)).toNatClampNeg) (xs (i + (3 : Int32)).toNatClampNeg)) (f7 := f_X7_sign_ (xs (i + (1 : Int32)).toNatClampNeg) (xs (i + (2 : Int32)).toNatClampNeg) (xs (i + (3 : Int32)).toNatClampNeg)) sS (fun h => jr_X6_sign rfl rfl rfl h) (fun h => jr_X7_sign_ rfl rfl rfl h) hz hG_ok (F10 _ _ _ (rg_toInt _) (rg_toInt _) (rg_toInt _))
      change f_L_sign _ _ _ s = some (K, s1) at e1
      repeat (first | (with_reducible refine ex_chk (by assumption) ?_) | (with_reducible refine ex_bind (by assumption) ?_) | (with_reducible refine ex_true (by assumption) ?_))
      exact nxt _ hJ' hk
    refine ex_cond (fun _ => ?_) (fun _ => ?_)
    · obtain ⟨K, s1, Y, s2, T, e1, z1, e2, e3, hJ', he⟩ := fX_of (f6 := f_X6_comment (xs (i + (1 : Int32)).toNatClampNeg) (xs (i + (2 : Int32)).toNatClampNeg)) (f7 := f_X7_comment (xs (i + (1 : Int32)).toNatClampNeg) (xs (i + (2 : Int32)).toNatClampNeg)) sS (fun h => jr_X6_comment rfl rfl h) (fun h => jr_X7_comment rfl rfl h) hz hA_ok (F11 _ _ (rg_toInt _) (rg_toInt _))
      change f_L_comment _ _ s = some (K, s1) at e1
      repeat (first | (with_reducible refine ex_chk (by assumption) ?_) | (with_reducible refine ex_bind (by assumption) ?_) | (with_reducible refine ex_true (by assumption) ?_))
      exact nxt _ hJ' hk
    refine ex_cond (fun _ => ?_) (fun _ => ?_)
    · obtain ⟨X, s1, Y, s2, e1, e2, hJ', he⟩ := fI_of (f6 := f_X6_print) (f7 := f_X7_print) sS (fun h => jr_X6_print h) (fun h => jr_X7_print h) hz F12
      repeat (first | (with_reducible refine ex_chk (by assumption) ?_) | (with_reducible refine ex_bind (by assumption) ?_) | (with_reducible refine ex_true (by assumption) ?_))
      exact nxt _ hJ' hk
    refine ex_cond (fun _ => ?_) (fun _ => ?_)
    · obtain ⟨K, s1, Y, s2, T, e1, z1, e2, e3, hJ', he⟩ := fX_of (f6 := f_X6_out (xs (i + (1 : Int32)).toNatClampNeg)) (f7 := f_X7_out (xs (i + (1 : Int32)).toNatClampNeg)) sS (fun h => jr_X6_out rfl h) (fun h => jr_X7_out rfl h) hz hA_ok (F13 _ (rg_toInt _))
      have he' := decide_eq_true (he rfl).1
      have he2 := (he rfl).2
      change f_L_out _ s = some (K, s1) at e1
      repeat (first | (with_reducible refine ex_chk (by assumption) ?_) | (with_reducible refine ex_bind (by assumption) ?_) | (with_reducible refine ex_true (by assumption) ?_))
      refine ex_cond (fun _ => ?_) (fun hK => ?_)
      · exact nxt _ hJ' hk
      · exact ex_true (decide_eq_true (he2 (Decidable.not_not.mp (of_decide_eq_false hK)))) (nxt _ hJ' hk)
    refine ex_cond (fun _ => ?_) (fun _ => nxt _ ⟨S, sS, zS', F15⟩ hk)
    · obtain ⟨X, s1, Y, s2, e1, e2, hJ', he⟩ := fI_of (f6 := f_X6_about (xs (i + (1 : Int32)).toNatClampNeg)) (f7 := f_X7_about (xs (i + (1 : Int32)).toNatClampNeg)) sS (fun h => jr_X6_about rfl h) (fun h => jr_X7_about rfl h) hz (F14 _ (rg_toInt _))
      repeat (first | (with_reducible refine ex_chk (by assumption) ?_) | (with_reducible refine ex_bind (by assumption) ?_) | (with_reducible refine ex_true (by assumption) ?_))
      exact nxt _ hJ' hk
end DRV2
