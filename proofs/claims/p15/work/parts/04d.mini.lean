/-! STEPS ON THE HEAP. -/
section MI3
variable {own : String} {cc : ByteArray} {nL : Nat} {ini : Bool} {pc nx tgt : Nat}
def mi_okT (ty : FieldType) : Bool := match ty with
  | .int => true
  | .boolean => true
  | .long => true
  | .object _ => true
  | .array _ => true
  | _ => false
theorem mi_fit {b bs : Nat} {ty : FieldType} {v : Value} (hT : mi_okT ty = true) (h : fits ty v = true) : fits ty (mi_v b bs v) = true ∧ narrow ty (mi_v b bs v) = mi_v b bs v := by
  cases ty <;> first | (cases hT; done) | skip
  case boolean =>
    cases v <;> first | (simp [fits] at h; done) | skip
    next x =>
      simp only [fits, Bool.or_eq_true, beq_iff_eq] at h
      rcases h with rfl | rfl
      · show fits .boolean (.int 0) = true ∧ narrow .boolean (.int 0) = .int 0
        decide
      · show fits .boolean (.int 1) = true ∧ narrow .boolean (.int 1) = .int 1
        decide
  all_goals cases v <;> first | (simp [fits] at h; done) | exact ⟨rfl, rfl⟩
theorem mi_at {b bs : Nat} {cI cL : ClassId} {h : mH} {a : Nat} {c : mC} (ha : h[a]? = some c) : (mi_w b bs cI cL 0 h)[a]? = some (b + a, mi_e b bs cI cL c) := by
  rw [mi_w_get, ha]
  simp
theorem mi_set {b bs : Nat} {cI cL : ClassId} (h : mH) (a : Nat) (c : mC) : (mi_w b bs cI cL 0 h).set a (b + a, mi_e b bs cI cL c) = mi_w b bs cI cL 0 (h.set a c) := by
  have := mi_w_set (b := b) (bs := bs) (cI := cI) (cL := cL) h 0 a c
  rwa [Nat.zero_add] at this
def mi_get (ci k nx : Nat) : mF := fun _ _ _ lo st h => match st with
  | .ref a :: r => (match h[a]? with
    | some (.inl (c, fs)) => if c = ci then (match fs[k]? with
      | some v => some (nx, lo, v :: r, h)
      | none => none) else none
    | _ => none)
  | _ => none
def mi_put (ci k : Nat) (ty : FieldType) (nx : Nat) : mF := fun _ _ _ lo st h => match st with
  | v :: .ref a :: r => (match h[a]? with
    | some (.inl (c, fs)) => if c = ci ∧ fits ty v = true ∧ k < fs.length then some (nx, lo, r, h.set a (.inl (c, fs.set k v))) else none
    | _ => none)
  | _ => none
theorem mi_get_ok {index ci k : Nat} {fty : FieldType} {fin : Bool} (d : decode cc pc = .ok (.getfield index, 3)) (hF : mi_FL own index ci k fty fin) (hn : pc + 3 = nx) : mi_Ok own cc nL ini pc (mi_get ci k nx) := by
  intro al LS xs lo st h x hf
  subst hn
  unfold mi_get at hf
  split at hf
  · next a r =>
    split at hf
    · next c1 fs ha =>
      split at hf
      · next hc =>
        subst hc
        split at hf
        · next v hv =>
          cases hf
          refine ⟨⟨Nat.le_refl _, Nat.le_refl _⟩, fun b bs cI cL D p l e R s m args below meth c Q kc ks n0 z0 X hal _ _ _ _ hW H locs ls hR hh hS => ?_⟩
          obtain ⟨C, T, N, ty, ⟨hcl, hin, hty, hnm⟩, hk, -, -, -, hlk⟩ := hF
          have hv1 : (fs.map (mi_v b bs))[k]? = some (mi_v b bs v) := by rw [List.getElem?_map, hv]; rfl
          rcases hlk with hlk | ⟨host, hlk⟩
          · exact va_get (D := D) X.1 X.2.1 X.2.2.2.2.1 hin X.2.2.2.1 X.2.2.2.2.2.1.1 hR a (mi_at ha) hcl k hk (X.2.2.2.2.1 _ hlk) (fun _ h9 => h9) hv1 d (hW H locs ls hR hh hS)
          · exact va_getN (D := D) X.1 X.2.1 X.2.2.2.2.1 hin X.2.2.2.1 X.2.2.2.2.2.1.1 hR a (mi_at ha) hcl k hk (va_Nw.use rfl (X.2.2.2.2.2.1.2.1 _ hlk)) (fun _ h9 => h9) hv1 d (hW H locs ls hR hh hS)
        · cases hf
      · cases hf
    · cases hf
  · cases hf
theorem mi_put_ok {index ci k : Nat} {fty : FieldType} (d : decode cc pc = .ok (.putfield index, 3)) (hF : mi_FL own index ci k fty false) (hT : mi_okT fty = true) (hn : pc + 3 = nx) : mi_Ok own cc nL ini pc (mi_put ci k fty nx) := by
  intro al LS xs lo st h x hf
  subst hn
  unfold mi_put at hf
  split at hf
  · next v a r =>
    split at hf
    · next c1 fs ha =>
      split at hf
      · next hc =>
        obtain ⟨hc, hfv, hkl⟩ := hc
        subst hc
        cases hf
        have hz : mi_z (h.set a (.inl (c1, fs.set k v))) = mi_z h := mi_z_set h a _ _ ha (by simp [mi_zc])
        have hl : (h.set a (.inl (c1, fs.set k v) : mC)).length = h.length := List.length_set
        refine ⟨⟨by dsimp only; rw [hl]; exact Nat.le_refl _, by dsimp only; rw [hz]; exact Nat.le_refl _⟩, fun b bs cI cL D p l e R s m args below meth c Q kc ks n0 z0 X hal _ _ _ _ hW H locs ls hR hh hS => ?_⟩
        obtain ⟨C, T, N, ty, ⟨hcl, hin, hty, hnm⟩, hk, hft, hfi, hdc, hlk⟩ := hF
        have hfit := mi_fit (b := b) (bs := bs) hT hfv
        have hd : parseFieldDescriptor (T k).2.2.1 = some fty := by rw [hty k hk, hft]
        have hkk : ∀ (H1 : Heap) (locs1 : List Loc), va_P D mi_cl ((mi_w b bs cI cL 0 h).set a (b + a, .inr (c1, (fs.map (mi_v b bs)).set k (mi_v b bs v)))) H1 → va_S (fun q => b ≤ q) s.heap H1 locs1 → W p l e R s m args below meth c H1 locs1 (h.length + kc - n0) (mi_z h + ks - z0) Q (F0 m (pc + 3) ls (r.map (mi_v b bs))) := by
          intro H1 locs1 hP1 hS1
          have e1 : (mi_w b bs cI cL 0 h).set a (b + a, .inr (c1, (fs.map (mi_v b bs)).set k (mi_v b bs v))) = mi_w b bs cI cL 0 (h.set a (.inl (c1, fs.set k v))) := by
            rw [← mi_set]
            simp [mi_e, List.map_set]
          rw [e1] at hP1
          have := hW H1 locs1 ls hP1 hh hS1
          dsimp only at this
          rw [hl, hz] at this
          exact this
        have hkl1 : k < (fs.map (mi_v b bs)).length := by simpa using hkl
        rcases hlk with hlk | ⟨host, hlk⟩
        · exact va_put (D := D) X.1 X.2.1 X.2.2.2.2.1 hin ty hty hnm X.2.2.2.1 X.2.2.2.2.2.1.1 hR (mi_w_D h) hS a (mi_at ha) hcl k hk (X.2.2.2.2.1 _ hlk) (fun _ h9 => h9) hfi hd hfit.2 hfit.1 hkl1 d (fun H1 locs1 hP1 _ hS1 => hkk H1 locs1 hP1 hS1)
        · exact va_putN (D := D) X.1 X.2.1 X.2.2.2.2.1 hin ty hty hnm X.2.2.2.1 X.2.2.2.2.2.1.1 hR (mi_w_D h) hS a (mi_at ha) hcl k hk (va_Nw.use rfl (X.2.2.2.2.2.1.2.1 _ hlk)) (fun _ h9 => h9) hfi hd hfit.2 hfit.1 hkl1 d (fun H1 locs1 hP1 _ hS1 => hkk H1 locs1 hP1 hS1)
      · cases hf
    · cases hf
  · cases hf
theorem mi_putF_ok {index ci k : Nat} {fty : FieldType} (d : decode cc pc = .ok (.putfield index, 3)) (hF : mi_FL own index ci k fty true) (hT : mi_okT fty = true) (hi : ini = true) (ho : ∀ C T N, mi_cl[ci]? = some (C, T, N) → C = own) (hg : ∀ C T N, mi_cl[ci]? = some (C, T, N) → Cond.fieldLink own index (T k).1 (T k).2.1 (T k).2.2.1 ∈ mi_good) (hn : pc + 3 = nx) : mi_Ok own cc nL ini pc (mi_put ci k fty nx) := by
  intro al LS xs lo st h x hf
  subst hn
  unfold mi_put at hf
  split at hf
  · next v a r =>
    split at hf
    · next c1 fs ha =>
      split at hf
      · next hc =>
        obtain ⟨hc, hfv, hkl⟩ := hc
        subst hc
        cases hf
        have hz : mi_z (h.set a (.inl (c1, fs.set k v))) = mi_z h := mi_z_set h a _ _ ha (by simp [mi_zc])
        have hl : (h.set a (.inl (c1, fs.set k v) : mC)).length = h.length := List.length_set
        refine ⟨⟨by dsimp only; rw [hl]; exact Nat.le_refl _, by dsimp only; rw [hz]; exact Nat.le_refl _⟩, fun b bs cI cL D p l e R s m args below meth c Q kc ks n0 z0 X hal _ _ _ _ hW H locs ls hR hh hS => ?_⟩
        obtain ⟨C, T, N, ty, ⟨hcl, hin, hty, hnm⟩, hk, hft, hfi, hdc, hlk⟩ := hF
        have hfit := mi_fit (b := b) (bs := bs) hT hfv
        have hd : parseFieldDescriptor (T k).2.2.1 = some fty := by rw [hty k hk, hft]
        have hkk : ∀ (H1 : Heap) (locs1 : List Loc), va_P D mi_cl ((mi_w b bs cI cL 0 h).set a (b + a, .inr (c1, (fs.map (mi_v b bs)).set k (mi_v b bs v)))) H1 → va_S (fun q => b ≤ q) s.heap H1 locs1 → W p l e R s m args below meth c H1 locs1 (h.length + kc - n0) (mi_z h + ks - z0) Q (F0 m (pc + 3) ls (r.map (mi_v b bs))) := by
          intro H1 locs1 hP1 hS1
          have e1 : (mi_w b bs cI cL 0 h).set a (b + a, .inr (c1, (fs.map (mi_v b bs)).set k (mi_v b bs v))) = mi_w b bs cI cL 0 (h.set a (.inl (c1, fs.set k v))) := by
            rw [← mi_set]
            simp [mi_e, List.map_set]
          rw [e1] at hP1
          have := hW H1 locs1 ls hP1 hh hS1
          dsimp only at this
          rw [hl, hz] at this
          exact this
        have hkl1 : k < (fs.map (mi_v b bs)).length := by simpa using hkl
        exact va_putF (D := D) X.1 X.2.1 X.2.2.2.2.1 hin ty hty hnm X.2.2.2.1 X.2.2.2.2.2.1.1 hR (mi_w_D h) hS a (mi_at ha) hcl k hk (X.2.2.2.2.1 _ (hg C T N hcl)) (fun _ h9 => h9) hfi (X.2.2.2.2.2.2.2.1 hi) (by rw [hdc]; exact ho C T N hcl) hd hfit.2 hfit.1 hkl1 d (fun H1 locs1 hP1 _ hS1 => hkk H1 locs1 hP1 hS1)
      · cases hf
    · cases hf
  · cases hf
def mi_in (i : Int32) (n : Nat) : Bool := decide (0 ≤ i) && decide (i.toNatClampNeg < n)
theorem mi_in_vp {i : Int32} {n : Nat} (h : mi_in i n = true) : vp_in i n := by
  unfold mi_in at h
  simp only [Bool.and_eq_true, decide_eq_true_eq] at h
  intro q
  rcases q with q | q
  · exact absurd h.1 (Int32.not_le.mpr q)
  · omega
def mi_iald (nx : Nat) : mF := fun _ LS xs lo st h => match st with
  | .int i :: .ref a :: r => (match h[a]? with
    | some (.inr (.inl ys)) => if mi_in i ys.length = true then some (nx, lo, .int (ys.getD i.toNatClampNeg 0) :: r, h) else none
    | _ => none)
  | .int i :: .float _ :: r => if mi_in i LS = true then some (nx, lo, .int (xs i.toNatClampNeg) :: r, h) else none
  | _ => none
def mi_lald (nx : Nat) : mF := fun _ _ _ lo st h => match st with
  | .int i :: .ref a :: r => (match h[a]? with
    | some (.inr (.inr ys)) => if mi_in i ys.length = true then some (nx, lo, .long (ys.getD i.toNatClampNeg 0) :: r, h) else none
    | _ => none)
  | _ => none
def mi_iast (nx : Nat) : mF := fun _ _ _ lo st h => match st with
  | .int x :: .int i :: .ref a :: r => (match h[a]? with
    | some (.inr (.inl ys)) => if mi_in i ys.length = true then some (nx, lo, r, h.set a (.inr (.inl (ys.set i.toNatClampNeg x)))) else none
    | _ => none)
  | _ => none
def mi_last (nx : Nat) : mF := fun _ _ _ lo st h => match st with
  | .long x :: .int i :: .ref a :: r => (match h[a]? with
    | some (.inr (.inr ys)) => if mi_in i ys.length = true then some (nx, lo, r, h.set a (.inr (.inr (ys.set i.toNatClampNeg x)))) else none
    | _ => none)
  | _ => none
def mi_alen (nx : Nat) : mF := fun _ LS _ lo st h => match st with
  | .ref a :: r => (match h[a]? with
    | some (.inr (.inl ys)) => some (nx, lo, .int (Int32.ofNat ys.length) :: r, h)
    | _ => none)
  | .float _ :: r => some (nx, lo, .int (Int32.ofNat LS) :: r, h)
  | _ => none
theorem mi_iald_ok (d : decode cc pc = .ok (.iaload, 1)) (hn : pc + 1 = nx) : mi_Ok own cc nL ini pc (mi_iald nx) := by
  intro al LS xs lo st h x hf
  subst hn
  unfold mi_iald at hf
  split at hf
  · next i a r =>
    split at hf
    · next ys ha =>
      split at hf
      · next hi =>
        cases hf
        refine ⟨⟨Nat.le_refl _, Nat.le_refl _⟩, fun b bs cI cL D p l e R s m args below meth c Q kc ks n0 z0 X hal _ _ _ _ hW H locs ls hR hh hS => ?_⟩
        exact va_iald (D := D) X.1 X.2.1 X.2.2.2.2.2.1.1 hR a 0 (mi_at ha) rfl (mi_in_vp hi) d (hW H locs ls hR hh hS)
      · cases hf
    · cases hf
  · next i u r =>
    split at hf
    · next hi =>
      cases hf
      refine ⟨⟨Nat.le_refl _, Nat.le_refl _⟩, fun b bs cI cL D p l e R s m args below meth c Q kc ks n0 z0 X hal _ _ _ _ hW H locs ls hR hh hS => ?_⟩
      exact va_sld X.1 X.2.1 X.2.2.2.2.2.1.2.2.1 X.2.2.2.2.2.1.2.2.2.2.1 (Nat.not_le.mpr X.2.2.2.2.2.1.2.2.2.1) hS (mi_in_vp hi) d (hW H locs ls hR hh hS)
    · cases hf
  · cases hf
theorem mi_lald_ok (d : decode cc pc = .ok (.laload, 1)) (hn : pc + 1 = nx) : mi_Ok own cc nL ini pc (mi_lald nx) := by
  intro al LS xs lo st h x hf
  subst hn
  unfold mi_lald at hf
  split at hf
  · next i a r =>
    split at hf
    · next ys ha =>
      split at hf
      · next hi =>
        cases hf
        refine ⟨⟨Nat.le_refl _, Nat.le_refl _⟩, fun b bs cI cL D p l e R s m args below meth c Q kc ks n0 z0 X hal _ _ _ _ hW H locs ls hR hh hS => ?_⟩
        exact va_lald (D := D) X.1 X.2.1 X.2.2.2.2.2.1.1 hR a 1 (mi_at ha) rfl (mi_in_vp hi) d (hW H locs ls hR hh hS)
      · cases hf
    · cases hf
  · cases hf
theorem mi_alen_ok (d : decode cc pc = .ok (.arraylength, 1)) (hn : pc + 1 = nx) : mi_Ok own cc nL ini pc (mi_alen nx) := by
  intro al LS xs lo st h x hf
  subst hn
  unfold mi_alen at hf
  split at hf
  · next a r =>
    split at hf
    · next ys ha =>
      cases hf
      refine ⟨⟨Nat.le_refl _, Nat.le_refl _⟩, fun b bs cI cL D p l e R s m args below meth c Q kc ks n0 z0 X hal _ _ _ _ hW H locs ls hR hh hS => ?_⟩
      exact va_alen (D := D) X.1 X.2.1 X.2.2.2.2.2.1.1 hR a 0 (mi_at ha) rfl rfl d (hW H locs ls hR hh hS)
    · cases hf
  · next u r =>
    cases hf
    refine ⟨⟨Nat.le_refl _, Nat.le_refl _⟩, fun b bs cI cL D p l e R s m args below meth c Q kc ks n0 z0 X hal _ _ _ _ hW H locs ls hR hh hS => ?_⟩
    exact va_slen X.1 X.2.1 X.2.2.2.2.2.1.2.2.1 X.2.2.2.2.2.1.2.2.2.2.1 (Nat.not_le.mpr X.2.2.2.2.2.1.2.2.2.1) hS d (hW H locs ls hR hh hS)
  · cases hf
theorem mi_iast_ok (d : decode cc pc = .ok (.iastore, 1)) (hn : pc + 1 = nx) : mi_Ok own cc nL ini pc (mi_iast nx) := by
  intro al LS xs lo st h x hf
  subst hn
  unfold mi_iast at hf
  split at hf
  · next x0 i a r =>
    split at hf
    · next ys ha =>
      split at hf
      · next hi =>
        cases hf
        have hz : mi_z (h.set a (.inr (.inl (ys.set i.toNatClampNeg x0)))) = mi_z h := mi_z_set h a _ _ ha (by simp [mi_zc])
        have hl : (h.set a (.inr (.inl (ys.set i.toNatClampNeg x0)) : mC)).length = h.length := List.length_set
        refine ⟨⟨by dsimp only; rw [hl]; exact Nat.le_refl _, by dsimp only; rw [hz]; exact Nat.le_refl _⟩, fun b bs cI cL D p l e R s m args below meth c Q kc ks n0 z0 X hal _ _ _ _ hW H locs ls hR hh hS => ?_⟩
        refine va_iast (D := D) X.1 X.2.1 X.2.2.2.2.2.1.1 hR (mi_w_D h) hS a 0 (mi_at ha) rfl (mi_in_vp hi) d (fun H1 locs1 hP1 _ hS1 => ?_)
        have e1 : (mi_w b bs cI cL 0 h).set a (b + a, .inl (cI, ys.length, .inl (upd (fun j => ys.getD j 0) i.toNatClampNeg x0))) = mi_w b bs cI cL 0 (h.set a (.inr (.inl (ys.set i.toNatClampNeg x0)))) := by
          rw [← mi_set]
          have hlt : i.toNatClampNeg < ys.length := by
            unfold mi_in at hi
            simp only [Bool.and_eq_true, decide_eq_true_eq] at hi
            exact hi.2
          have hfn : (fun j => (ys.set i.toNatClampNeg x0).getD j 0) = upd (fun j => ys.getD j 0) i.toNatClampNeg x0 := by
            funext j
            unfold upd
            by_cases hj : j = i.toNatClampNeg
            · subst hj
              simp [List.getD, hlt]
            · rw [if_neg hj]
              simp [List.getD, List.getElem?_set_ne (Ne.symm hj)]
          simp only [mi_e, List.length_set, hfn]
        rw [e1] at hP1
        have := hW H1 locs1 ls hP1 hh hS1
        dsimp only at this
        rw [hl, hz] at this
        exact this
      · cases hf
    · cases hf
  · cases hf
theorem mi_last_ok (d : decode cc pc = .ok (.lastore, 1)) (hn : pc + 1 = nx) : mi_Ok own cc nL ini pc (mi_last nx) := by
  intro al LS xs lo st h x hf
  subst hn
  unfold mi_last at hf
  split at hf
  · next x0 i a r =>
    split at hf
    · next ys ha =>
      split at hf
      · next hi =>
        cases hf
        have hz : mi_z (h.set a (.inr (.inr (ys.set i.toNatClampNeg x0)))) = mi_z h := mi_z_set h a _ _ ha (by simp [mi_zc])
        have hl : (h.set a (.inr (.inr (ys.set i.toNatClampNeg x0)) : mC)).length = h.length := List.length_set
        refine ⟨⟨by dsimp only; rw [hl]; exact Nat.le_refl _, by dsimp only; rw [hz]; exact Nat.le_refl _⟩, fun b bs cI cL D p l e R s m args below meth c Q kc ks n0 z0 X hal _ _ _ _ hW H locs ls hR hh hS => ?_⟩
        refine va_last (D := D) X.1 X.2.1 X.2.2.2.2.2.1.1 hR (mi_w_D h) hS a 1 (mi_at ha) rfl (mi_in_vp hi) d (fun H1 locs1 hP1 _ hS1 => ?_)
        have e1 : (mi_w b bs cI cL 0 h).set a (b + a, .inl (cL, ys.length, .inr (.inl (vp_updL (fun j => ys.getD j 0) i.toNatClampNeg x0)))) = mi_w b bs cI cL 0 (h.set a (.inr (.inr (ys.set i.toNatClampNeg x0)))) := by
          rw [← mi_set]
          have hlt : i.toNatClampNeg < ys.length := by
            unfold mi_in at hi
            simp only [Bool.and_eq_true, decide_eq_true_eq] at hi
            exact hi.2
          have hfn : (fun j => (ys.set i.toNatClampNeg x0).getD j 0) = vp_updL (fun j => ys.getD j 0) i.toNatClampNeg x0 := by
            funext j
            unfold vp_updL
            by_cases hj : j = i.toNatClampNeg
            · subst hj
              simp [List.getD, hlt]
            · rw [if_neg hj]
              simp [List.getD, List.getElem?_set_ne (Ne.symm hj)]
          simp only [mi_e, List.length_set, hfn]
        rw [e1] at hP1
        have := hW H1 locs1 ls hP1 hh hS1
        dsimp only at this
        rw [hl, hz] at this
        exact this
      · cases hf
    · cases hf
  · cases hf
end MI3
