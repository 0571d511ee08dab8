/-! THE STEPS, and that each is the machine's. -/
section MI2
variable {own : String} {cc : ByteArray} {nL : Nat} {ini : Bool} {pc nx tgt : Nat}
def mi_push (v : Value) (nx : Nat) : mF := fun _ _ _ lo st h => some (nx, lo, v :: st, h)
theorem mi_iconst_ok {n : Int} {v : Int32} (hv : Int32.ofInt n = v) (d : decode cc pc = .ok (.iconst n, 1)) (hn : pc + 1 = nx) : mi_Ok own cc nL ini pc (mi_push (.int v) nx) := by
  intro al LS xs lo st h x hf
  cases hf
  subst hn
  refine ⟨⟨Nat.le_refl _, Nat.le_refl _⟩, fun b bs cI cL D p l e R s m args below meth c Q kc ks n0 z0 X hal _ _ _ _ hW H locs ls hR hh hS => ?_⟩
  exact lv_iconst X.1 X.2.1 d hv (hW H locs ls hR hh hS)
theorem mi_bipush_ok {n : Int} {v : Int32} (hv : (Int8.ofInt n).toInt32 = v) (d : decode cc pc = .ok (.bipush n, 2)) (hn : pc + 2 = nx) : mi_Ok own cc nL ini pc (mi_push (.int v) nx) := by
  intro al LS xs lo st h x hf
  cases hf
  subst hn
  refine ⟨⟨Nat.le_refl _, Nat.le_refl _⟩, fun b bs cI cL D p l e R s m args below meth c Q kc ks n0 z0 X hal _ _ _ _ hW H locs ls hR hh hS => ?_⟩
  exact lv_bipush X.1 X.2.1 d hv (hW H locs ls hR hh hS)
theorem mi_sipush_ok {n : Int} {v : Int32} (hv : (Int16.ofInt n).toInt32 = v) (d : decode cc pc = .ok (.sipush n, 3)) (hn : pc + 3 = nx) : mi_Ok own cc nL ini pc (mi_push (.int v) nx) := by
  intro al LS xs lo st h x hf
  cases hf
  subst hn
  refine ⟨⟨Nat.le_refl _, Nat.le_refl _⟩, fun b bs cI cL D p l e R s m args below meth c Q kc ks n0 z0 X hal _ _ _ _ hW H locs ls hR hh hS => ?_⟩
  exact lv_sipush X.1 X.2.1 d hv (hW H locs ls hR hh hS)
theorem mi_ldc_ok {index : Nat} {v : Int32} (d : decode cc pc = .ok (.ldc index, 2)) (hc : Cond.constant own index v ∈ mi_good) (hn : pc + 2 = nx) : mi_Ok own cc nL ini pc (mi_push (.int v) nx) := by
  intro al LS xs lo st h x hf
  cases hf
  subst hn
  refine ⟨⟨Nat.le_refl _, Nat.le_refl _⟩, fun b bs cI cL D p l e R s m args below meth c Q kc ks n0 z0 X hal _ _ _ _ hW H locs ls hR hh hS => ?_⟩
  exact lv_ldc X.1 X.2.1 X.2.2.2.1 (X.2.2.2.2.1 _ hc) d (hW H locs ls hR hh hS)
theorem mi_ldc2_ok {index : Nat} {v : Int64} (d : decode cc pc = .ok (.ldc2_w index, 3)) (hc : Cond.constantLong own index v ∈ mi_good) (hn : pc + 3 = nx) : mi_Ok own cc nL ini pc (mi_push (.long v) nx) := by
  intro al LS xs lo st h x hf
  cases hf
  subst hn
  refine ⟨⟨Nat.le_refl _, Nat.le_refl _⟩, fun b bs cI cL D p l e R s m args below meth c Q kc ks n0 z0 X hal _ _ _ _ hW H locs ls hR hh hS => ?_⟩
  exact lv_ldc2 X.1 X.2.1 X.2.2.2.1 (X.2.2.2.2.1 _ hc) d (hW H locs ls hR hh hS)
def mi_ild (i nx : Nat) : mF := fun _ _ _ lo st h => match lo[i]? with
  | some (some (.int x)) => some (nx, lo, .int x :: st, h)
  | _ => none
def mi_lld (i nx : Nat) : mF := fun _ _ _ lo st h => match lo[i]? with
  | some (some (.long x)) => some (nx, lo, .long x :: st, h)
  | _ => none
def mi_ald (i nx : Nat) : mF := fun _ _ _ lo st h => match lo[i]? with
  | some (some (.ref x)) => some (nx, lo, .ref x :: st, h)
  | some (some (.float x)) => some (nx, lo, .float x :: st, h)
  | _ => none
theorem mi_iload_n_ok {k : Fin 4} {i : Nat} (d : decode cc pc = .ok (.iload_n k, 1)) (hk : (k : Nat) = i) (hn : pc + 1 = nx) : mi_Ok own cc nL ini pc (mi_ild i nx) := by
  intro al LS xs lo st h x hf
  subst hn
  unfold mi_ild at hf
  split at hf
  · next x0 h0 =>
    cases hf
    refine ⟨⟨Nat.le_refl _, Nat.le_refl _⟩, fun b bs cI cL D p l e R s m args below meth c Q kc ks n0 z0 X hal _ _ _ _ hW H locs ls hR hh hS => ?_⟩
    exact lv_iload_n X.1 X.2.1 d hk (hh.2.2 i _ h0) (hW H locs ls hR hh hS)
  · cases hf
theorem mi_iload_ok {i : Nat} (d : decode cc pc = .ok (.iload i, 2)) (hn : pc + 2 = nx) : mi_Ok own cc nL ini pc (mi_ild i nx) := by
  intro al LS xs lo st h x hf
  subst hn
  unfold mi_ild at hf
  split at hf
  · next x0 h0 =>
    cases hf
    refine ⟨⟨Nat.le_refl _, Nat.le_refl _⟩, fun b bs cI cL D p l e R s m args below meth c Q kc ks n0 z0 X hal _ _ _ _ hW H locs ls hR hh hS => ?_⟩
    exact lv_iload X.1 X.2.1 d (hh.2.2 i _ h0) (hW H locs ls hR hh hS)
  · cases hf
theorem mi_lload_n_ok {k : Fin 4} {i : Nat} (d : decode cc pc = .ok (.lload_n k, 1)) (hk : (k : Nat) = i) (hn : pc + 1 = nx) : mi_Ok own cc nL ini pc (mi_lld i nx) := by
  intro al LS xs lo st h x hf
  subst hn
  unfold mi_lld at hf
  split at hf
  · next x0 h0 =>
    cases hf
    refine ⟨⟨Nat.le_refl _, Nat.le_refl _⟩, fun b bs cI cL D p l e R s m args below meth c Q kc ks n0 z0 X hal _ _ _ _ hW H locs ls hR hh hS => ?_⟩
    exact lv_lload_n X.1 X.2.1 d hk (hh.2.2 i _ h0) (hW H locs ls hR hh hS)
  · cases hf
theorem mi_aload_n_ok {k : Fin 4} {i : Nat} (d : decode cc pc = .ok (.aload_n k, 1)) (hk : (k : Nat) = i) (hn : pc + 1 = nx) : mi_Ok own cc nL ini pc (mi_ald i nx) := by
  intro al LS xs lo st h x hf
  subst hn
  unfold mi_ald at hf
  split at hf
  · next x0 h0 =>
    cases hf
    refine ⟨⟨Nat.le_refl _, Nat.le_refl _⟩, fun b bs cI cL D p l e R s m args below meth c Q kc ks n0 z0 X hal _ _ _ _ hW H locs ls hR hh hS => ?_⟩
    exact lv_aload_n X.1 X.2.1 d hk (hh.2.2 i _ h0) (hW H locs ls hR hh hS)
  · next x0 h0 =>
    cases hf
    refine ⟨⟨Nat.le_refl _, Nat.le_refl _⟩, fun b bs cI cL D p l e R s m args below meth c Q kc ks n0 z0 X hal _ _ _ _ hW H locs ls hR hh hS => ?_⟩
    exact lv_aload_n X.1 X.2.1 d hk (hh.2.2 i _ h0) (hW H locs ls hR hh hS)
  · cases hf
theorem mi_aload_ok {i : Nat} (d : decode cc pc = .ok (.aload i, 2)) (hn : pc + 2 = nx) : mi_Ok own cc nL ini pc (mi_ald i nx) := by
  intro al LS xs lo st h x hf
  subst hn
  unfold mi_ald at hf
  split at hf
  · next x0 h0 =>
    cases hf
    refine ⟨⟨Nat.le_refl _, Nat.le_refl _⟩, fun b bs cI cL D p l e R s m args below meth c Q kc ks n0 z0 X hal _ _ _ _ hW H locs ls hR hh hS => ?_⟩
    exact lv_aload X.1 X.2.1 d (hh.2.2 i _ h0) (hW H locs ls hR hh hS)
  · next x0 h0 =>
    cases hf
    refine ⟨⟨Nat.le_refl _, Nat.le_refl _⟩, fun b bs cI cL D p l e R s m args below meth c Q kc ks n0 z0 X hal _ _ _ _ hW H locs ls hR hh hS => ?_⟩
    exact lv_aload X.1 X.2.1 d (hh.2.2 i _ h0) (hW H locs ls hR hh hS)
  · cases hf
def mi_ist (i nx : Nat) : mF := fun _ _ _ lo st h => match st with
  | .int x :: r => (match mi_st lo i (.int x) with
    | some lo' => some (nx, lo', r, h)
    | none => none)
  | _ => none
def mi_ast (i nx : Nat) : mF := fun _ _ _ lo st h => match st with
  | .ref x :: r => (match mi_st lo i (.ref x) with
    | some lo' => some (nx, lo', r, h)
    | none => none)
  | _ => none
def mi_inc (i : Nat) (n : Int) (nx : Nat) : mF := fun _ _ _ lo st h => match lo[i]? with
  | some (some (.int x)) => some (nx, lo.set i (some (.int (x + Int32.ofInt n))), st, h)
  | _ => none
theorem mi_istore_n_ok {k : Fin 4} {i : Nat} (d : decode cc pc = .ok (.istore_n k, 1)) (hk : (k : Nat) = i) (hi : i < nL) (hn : pc + 1 = nx) : mi_Ok own cc nL ini pc (mi_ist i nx) := by
  intro al LS xs lo st h x hf
  subst hn
  unfold mi_ist at hf
  split at hf
  · next x0 r =>
    split at hf
    · next lo1 h1 =>
      cases hf
      refine ⟨⟨Nat.le_refl _, Nat.le_refl _⟩, fun b bs cI cL D p l e R s m args below meth c Q kc ks n0 z0 X hal _ _ _ _ hW H locs ls hR hh hS => ?_⟩
      exact lv_istore_n X.1 X.2.1 d hk (mi_has_lv hh) hi rfl (fun ls1 hl1 => hW H locs ls1 hR (mi_st_has hh h1 hl1) hS)
    · cases hf
  · cases hf
theorem mi_istore_ok {i : Nat} (d : decode cc pc = .ok (.istore i, 2)) (hi : i < nL) (hn : pc + 2 = nx) : mi_Ok own cc nL ini pc (mi_ist i nx) := by
  intro al LS xs lo st h x hf
  subst hn
  unfold mi_ist at hf
  split at hf
  · next x0 r =>
    split at hf
    · next lo1 h1 =>
      cases hf
      refine ⟨⟨Nat.le_refl _, Nat.le_refl _⟩, fun b bs cI cL D p l e R s m args below meth c Q kc ks n0 z0 X hal _ _ _ _ hW H locs ls hR hh hS => ?_⟩
      exact lv_istore X.1 X.2.1 d (mi_has_lv hh) hi rfl (fun ls1 hl1 => hW H locs ls1 hR (mi_st_has hh h1 hl1) hS)
    · cases hf
  · cases hf
theorem mi_astore_n_ok {k : Fin 4} {i : Nat} (d : decode cc pc = .ok (.astore_n k, 1)) (hk : (k : Nat) = i) (hi : i < nL) (hn : pc + 1 = nx) : mi_Ok own cc nL ini pc (mi_ast i nx) := by
  intro al LS xs lo st h x hf
  subst hn
  unfold mi_ast at hf
  split at hf
  · next x0 r =>
    split at hf
    · next lo1 h1 =>
      cases hf
      refine ⟨⟨Nat.le_refl _, Nat.le_refl _⟩, fun b bs cI cL D p l e R s m args below meth c Q kc ks n0 z0 X hal _ _ _ _ hW H locs ls hR hh hS => ?_⟩
      exact lv_astore_n X.1 X.2.1 d hk (mi_has_lv hh) hi rfl (fun ls1 hl1 => hW H locs ls1 hR (mi_st_has hh h1 hl1) hS)
    · cases hf
  · cases hf
theorem mi_astore_ok {i : Nat} (d : decode cc pc = .ok (.astore i, 2)) (hi : i < nL) (hn : pc + 2 = nx) : mi_Ok own cc nL ini pc (mi_ast i nx) := by
  intro al LS xs lo st h x hf
  subst hn
  unfold mi_ast at hf
  split at hf
  · next x0 r =>
    split at hf
    · next lo1 h1 =>
      cases hf
      refine ⟨⟨Nat.le_refl _, Nat.le_refl _⟩, fun b bs cI cL D p l e R s m args below meth c Q kc ks n0 z0 X hal _ _ _ _ hW H locs ls hR hh hS => ?_⟩
      exact lv_astore X.1 X.2.1 d (mi_has_lv hh) hi rfl (fun ls1 hl1 => hW H locs ls1 hR (mi_st_has hh h1 hl1) hS)
    · cases hf
  · cases hf
theorem mi_inc_ok {i : Nat} {n : Int} (d : decode cc pc = .ok (.iinc i n, 3)) (hi : i < nL) (hn : pc + 3 = nx) : mi_Ok own cc nL ini pc (mi_inc i n nx) := by
  intro al LS xs lo st h x hf
  subst hn
  unfold mi_inc at hf
  split at hf
  · next x0 h0 =>
    cases hf
    refine ⟨⟨Nat.le_refl _, Nat.le_refl _⟩, fun b bs cI cL D p l e R s m args below meth c Q kc ks n0 z0 X hal _ _ _ _ hW H locs ls hR hh hS => ?_⟩
    obtain ⟨k, hk⟩ := List.getElem?_of_mem (mi_lv_mem.mpr ⟨_, h0, rfl⟩ : (i, mi_v b bs (.int x0)) ∈ mi_lv b bs lo)
    refine lv_iinc X.1 X.2.1 d (mi_has_lv hh) (k := k) hk rfl hi rfl (fun ls1 hl1 => hW H locs ls1 hR (mi_st_has (i := i) (v := .int (x0 + Int32.ofInt n)) hh ?_ hl1) hS)
    unfold mi_st
    rw [h0]
  · cases hf
def mi_i2 (op : Int32 → Int32 → Int32) (nx : Nat) : mF := fun _ _ _ lo st h => match st with
  | .int y :: .int x :: r => some (nx, lo, .int (op x y) :: r, h)
  | _ => none
def mi_d2 (op : Int32 → Int32 → Int32) (nx : Nat) : mF := fun _ _ _ lo st h => match st with
  | .int y :: .int x :: r => if y = 0 then none else some (nx, lo, .int (op x y) :: r, h)
  | _ => none
def mi_l2 (op : Int64 → Int64 → Int64) (nx : Nat) : mF := fun _ _ _ lo st h => match st with
  | .long y :: .long x :: r => some (nx, lo, .long (op x y) :: r, h)
  | _ => none
def mi_ls (op : Int64 → Int32 → Int64) (nx : Nat) : mF := fun _ _ _ lo st h => match st with
  | .int y :: .long x :: r => some (nx, lo, .long (op x y) :: r, h)
  | _ => none
def mi_lc (nx : Nat) : mF := fun _ _ _ lo st h => match st with
  | .long y :: .long x :: r => some (nx, lo, .int (lg_cmp x y) :: r, h)
  | _ => none
def mi_i1 (op : Int32 → Int32) (nx : Nat) : mF := fun _ _ _ lo st h => match st with
  | .int x :: r => some (nx, lo, .int (op x) :: r, h)
  | _ => none
def mi_il (nx : Nat) : mF := fun _ _ _ lo st h => match st with
  | .int x :: r => some (nx, lo, .long x.toInt64 :: r, h)
  | _ => none
def mi_li (nx : Nat) : mF := fun _ _ _ lo st h => match st with
  | .long x :: r => some (nx, lo, .int x.toInt32 :: r, h)
  | _ => none
abbrev mi_ushr (x : Int64) (y : Int32) : Int64 := (x.toUInt64 >>> (y.toInt64.toUInt64 &&& Int64.toUInt64 63)).toInt64
abbrev mi_sshr (x : Int64) (y : Int32) : Int64 := x >>> (y.toInt64 &&& 63)
abbrev mi_sshl (x : Int64) (y : Int32) : Int64 := x <<< (y.toInt64 &&& 63)
abbrev mi_irem (x y : Int32) : Int32 := x - x / y * y
theorem mi_iadd_ok (d : decode cc pc = .ok (.iadd, 1)) (hn : pc + 1 = nx) : mi_Ok own cc nL ini pc (mi_i2 (fun x y => x + y) nx) := by
  intro al LS xs lo st h x hf
  subst hn
  unfold mi_i2 at hf
  split at hf
  · next y0 x0 r =>
    cases hf
    refine ⟨⟨Nat.le_refl _, Nat.le_refl _⟩, fun b bs cI cL D p l e R s m args below meth c Q kc ks n0 z0 X hal _ _ _ _ hW H locs ls hR hh hS => ?_⟩
    exact lv_iadd X.1 X.2.1 d (hW H locs ls hR hh hS)
  · cases hf
theorem mi_isub_ok (d : decode cc pc = .ok (.isub, 1)) (hn : pc + 1 = nx) : mi_Ok own cc nL ini pc (mi_i2 (fun x y => x - y) nx) := by
  intro al LS xs lo st h x hf
  subst hn
  unfold mi_i2 at hf
  split at hf
  · next y0 x0 r =>
    cases hf
    refine ⟨⟨Nat.le_refl _, Nat.le_refl _⟩, fun b bs cI cL D p l e R s m args below meth c Q kc ks n0 z0 X hal _ _ _ _ hW H locs ls hR hh hS => ?_⟩
    exact lv_isub X.1 X.2.1 d (hW H locs ls hR hh hS)
  · cases hf
theorem mi_imul_ok (d : decode cc pc = .ok (.imul, 1)) (hn : pc + 1 = nx) : mi_Ok own cc nL ini pc (mi_i2 (fun x y => x * y) nx) := by
  intro al LS xs lo st h x hf
  subst hn
  unfold mi_i2 at hf
  split at hf
  · next y0 x0 r =>
    cases hf
    refine ⟨⟨Nat.le_refl _, Nat.le_refl _⟩, fun b bs cI cL D p l e R s m args below meth c Q kc ks n0 z0 X hal _ _ _ _ hW H locs ls hR hh hS => ?_⟩
    exact lv_imul X.1 X.2.1 d (hW H locs ls hR hh hS)
  · cases hf
theorem mi_iand_ok (d : decode cc pc = .ok (.iand, 1)) (hn : pc + 1 = nx) : mi_Ok own cc nL ini pc (mi_i2 (fun x y => x &&& y) nx) := by
  intro al LS xs lo st h x hf
  subst hn
  unfold mi_i2 at hf
  split at hf
  · next y0 x0 r =>
    cases hf
    refine ⟨⟨Nat.le_refl _, Nat.le_refl _⟩, fun b bs cI cL D p l e R s m args below meth c Q kc ks n0 z0 X hal _ _ _ _ hW H locs ls hR hh hS => ?_⟩
    exact lv_iand X.1 X.2.1 d (hW H locs ls hR hh hS)
  · cases hf
theorem mi_land_ok (d : decode cc pc = .ok (.land, 1)) (hn : pc + 1 = nx) : mi_Ok own cc nL ini pc (mi_l2 (fun x y => x &&& y) nx) := by
  intro al LS xs lo st h x hf
  subst hn
  unfold mi_l2 at hf
  split at hf
  · next y0 x0 r =>
    cases hf
    refine ⟨⟨Nat.le_refl _, Nat.le_refl _⟩, fun b bs cI cL D p l e R s m args below meth c Q kc ks n0 z0 X hal _ _ _ _ hW H locs ls hR hh hS => ?_⟩
    exact lv_land X.1 X.2.1 d (hW H locs ls hR hh hS)
  · cases hf
theorem mi_lor_ok (d : decode cc pc = .ok (.lor, 1)) (hn : pc + 1 = nx) : mi_Ok own cc nL ini pc (mi_l2 (fun x y => x ||| y) nx) := by
  intro al LS xs lo st h x hf
  subst hn
  unfold mi_l2 at hf
  split at hf
  · next y0 x0 r =>
    cases hf
    refine ⟨⟨Nat.le_refl _, Nat.le_refl _⟩, fun b bs cI cL D p l e R s m args below meth c Q kc ks n0 z0 X hal _ _ _ _ hW H locs ls hR hh hS => ?_⟩
    exact lv_lor X.1 X.2.1 d (hW H locs ls hR hh hS)
  · cases hf
theorem mi_lushr_ok (d : decode cc pc = .ok (.lushr, 1)) (hn : pc + 1 = nx) : mi_Ok own cc nL ini pc (mi_ls mi_ushr nx) := by
  intro al LS xs lo st h x hf
  subst hn
  unfold mi_ls at hf
  split at hf
  · next y0 x0 r =>
    cases hf
    refine ⟨⟨Nat.le_refl _, Nat.le_refl _⟩, fun b bs cI cL D p l e R s m args below meth c Q kc ks n0 z0 X hal _ _ _ _ hW H locs ls hR hh hS => ?_⟩
    exact lv_lushr X.1 X.2.1 d rfl (hW H locs ls hR hh hS)
  · cases hf
theorem mi_lshr_ok (d : decode cc pc = .ok (.lshr, 1)) (hn : pc + 1 = nx) : mi_Ok own cc nL ini pc (mi_ls mi_sshr nx) := by
  intro al LS xs lo st h x hf
  subst hn
  unfold mi_ls at hf
  split at hf
  · next y0 x0 r =>
    cases hf
    refine ⟨⟨Nat.le_refl _, Nat.le_refl _⟩, fun b bs cI cL D p l e R s m args below meth c Q kc ks n0 z0 X hal _ _ _ _ hW H locs ls hR hh hS => ?_⟩
    exact lv_lshr X.1 X.2.1 d rfl (hW H locs ls hR hh hS)
  · cases hf
theorem mi_lshl_ok (d : decode cc pc = .ok (.lshl, 1)) (hn : pc + 1 = nx) : mi_Ok own cc nL ini pc (mi_ls mi_sshl nx) := by
  intro al LS xs lo st h x hf
  subst hn
  unfold mi_ls at hf
  split at hf
  · next y0 x0 r =>
    cases hf
    refine ⟨⟨Nat.le_refl _, Nat.le_refl _⟩, fun b bs cI cL D p l e R s m args below meth c Q kc ks n0 z0 X hal _ _ _ _ hW H locs ls hR hh hS => ?_⟩
    exact lv_lshl X.1 X.2.1 d rfl (hW H locs ls hR hh hS)
  · cases hf
theorem mi_ineg_ok (d : decode cc pc = .ok (.ineg, 1)) (hn : pc + 1 = nx) : mi_Ok own cc nL ini pc (mi_i1 (fun x => -x) nx) := by
  intro al LS xs lo st h x hf
  subst hn
  unfold mi_i1 at hf
  split at hf
  · next x0 r =>
    cases hf
    refine ⟨⟨Nat.le_refl _, Nat.le_refl _⟩, fun b bs cI cL D p l e R s m args below meth c Q kc ks n0 z0 X hal _ _ _ _ hW H locs ls hR hh hS => ?_⟩
    exact lv_ineg X.1 X.2.1 d (hW H locs ls hR hh hS)
  · cases hf
theorem mi_i2l_ok (d : decode cc pc = .ok (.i2l, 1)) (hn : pc + 1 = nx) : mi_Ok own cc nL ini pc (mi_il nx) := by
  intro al LS xs lo st h x hf
  subst hn
  unfold mi_il at hf
  split at hf
  · next x0 r =>
    cases hf
    refine ⟨⟨Nat.le_refl _, Nat.le_refl _⟩, fun b bs cI cL D p l e R s m args below meth c Q kc ks n0 z0 X hal _ _ _ _ hW H locs ls hR hh hS => ?_⟩
    exact lv_i2l X.1 X.2.1 d rfl (hW H locs ls hR hh hS)
  · cases hf
theorem mi_l2i_ok (d : decode cc pc = .ok (.l2i, 1)) (hn : pc + 1 = nx) : mi_Ok own cc nL ini pc (mi_li nx) := by
  intro al LS xs lo st h x hf
  subst hn
  unfold mi_li at hf
  split at hf
  · next x0 r =>
    cases hf
    refine ⟨⟨Nat.le_refl _, Nat.le_refl _⟩, fun b bs cI cL D p l e R s m args below meth c Q kc ks n0 z0 X hal _ _ _ _ hW H locs ls hR hh hS => ?_⟩
    exact lv_l2i X.1 X.2.1 d rfl (hW H locs ls hR hh hS)
  · cases hf
theorem mi_lcmp_ok (d : decode cc pc = .ok (.lcmp, 1)) (hn : pc + 1 = nx) : mi_Ok own cc nL ini pc (mi_lc nx) := by
  intro al LS xs lo st h x hf
  subst hn
  unfold mi_lc at hf
  split at hf
  · next y0 x0 r =>
    cases hf
    refine ⟨⟨Nat.le_refl _, Nat.le_refl _⟩, fun b bs cI cL D p l e R s m args below meth c Q kc ks n0 z0 X hal _ _ _ _ hW H locs ls hR hh hS => ?_⟩
    exact W.lcmp X.1 X.2.1 d (hW H locs ls hR hh hS)
  · cases hf
theorem mi_idiv_ok (d : decode cc pc = .ok (.idiv, 1)) (hn : pc + 1 = nx) : mi_Ok own cc nL ini pc (mi_d2 (fun x y => x / y) nx) := by
  intro al LS xs lo st h x hf
  subst hn
  unfold mi_d2 at hf
  split at hf
  · next y0 x0 r =>
    split at hf
    · cases hf
    · next hy =>
      cases hf
      refine ⟨⟨Nat.le_refl _, Nat.le_refl _⟩, fun b bs cI cL D p l e R s m args below meth c Q kc ks n0 z0 X hal _ _ _ _ hW H locs ls hR hh hS => ?_⟩
      exact lv_idiv X.1 X.2.1 d hy (hW H locs ls hR hh hS)
  · cases hf
theorem mi_irem_ok (d : decode cc pc = .ok (.irem, 1)) (hn : pc + 1 = nx) : mi_Ok own cc nL ini pc (mi_d2 mi_irem nx) := by
  intro al LS xs lo st h x hf
  subst hn
  unfold mi_d2 at hf
  split at hf
  · next y0 x0 r =>
    split at hf
    · cases hf
    · next hy =>
      cases hf
      refine ⟨⟨Nat.le_refl _, Nat.le_refl _⟩, fun b bs cI cL D p l e R s m args below meth c Q kc ks n0 z0 X hal _ _ _ _ hW H locs ls hR hh hS => ?_⟩
      exact lv_irem X.1 X.2.1 d hy (hW H locs ls hR hh hS)
  · cases hf
def mi_dup (nx : Nat) : mF := fun _ _ _ lo st h => match st with
  | v :: r => if v.category = 1 then some (nx, lo, v :: v :: r, h) else none
  | _ => none
def mi_dup2 (nx : Nat) : mF := fun _ _ _ lo st h => match st with
  | v :: u :: r => if v.category = 1 ∧ u.category = 1 then some (nx, lo, v :: u :: v :: u :: r, h) else none
  | _ => none
def mi_pop (nx : Nat) : mF := fun _ _ _ lo st h => match st with
  | v :: r => if v.category = 1 then some (nx, lo, r, h) else none
  | _ => none
theorem mi_dup_ok (d : decode cc pc = .ok (.dup, 1)) (hn : pc + 1 = nx) : mi_Ok own cc nL ini pc (mi_dup nx) := by
  intro al LS xs lo st h x hf
  subst hn
  unfold mi_dup at hf
  split at hf
  · next v r =>
    split at hf
    · next hc =>
      cases hf
      refine ⟨⟨Nat.le_refl _, Nat.le_refl _⟩, fun b bs cI cL D p l e R s m args below meth c Q kc ks n0 z0 X hal _ _ _ _ hW H locs ls hR hh hS => ?_⟩
      exact lv_dup X.1 X.2.1 d (by rw [mi_v_cat]; exact hc) (hW H locs ls hR hh hS)
    · cases hf
  · cases hf
theorem mi_pop_ok (d : decode cc pc = .ok (.pop, 1)) (hn : pc + 1 = nx) : mi_Ok own cc nL ini pc (mi_pop nx) := by
  intro al LS xs lo st h x hf
  subst hn
  unfold mi_pop at hf
  split at hf
  · next v r =>
    split at hf
    · next hc =>
      cases hf
      refine ⟨⟨Nat.le_refl _, Nat.le_refl _⟩, fun b bs cI cL D p l e R s m args below meth c Q kc ks n0 z0 X hal _ _ _ _ hW H locs ls hR hh hS => ?_⟩
      exact lv_pop X.1 X.2.1 d (by rw [mi_v_cat]; exact hc) (hW H locs ls hR hh hS)
    · cases hf
  · cases hf
theorem mi_dup2_ok (d : decode cc pc = .ok (.dup2, 1)) (hn : pc + 1 = nx) : mi_Ok own cc nL ini pc (mi_dup2 nx) := by
  intro al LS xs lo st h x hf
  subst hn
  unfold mi_dup2 at hf
  split at hf
  · next v u r =>
    split at hf
    · next hc =>
      cases hf
      refine ⟨⟨Nat.le_refl _, Nat.le_refl _⟩, fun b bs cI cL D p l e R s m args below meth c Q kc ks n0 z0 X hal _ _ _ _ hW H locs ls hR hh hS => ?_⟩
      exact lv_dup2_11 X.1 X.2.1 d (by rw [mi_v_cat]; exact hc.1) (by rw [mi_v_cat]; exact hc.2) (hW H locs ls hR hh hS)
    · cases hf
  · cases hf
def mi_b1 (t : Int32 → Bool) (tgt nx : Nat) : mF := fun _ _ _ lo st h => match st with
  | .int x :: r => some (if t x = true then tgt else nx, lo, r, h)
  | _ => none
def mi_b2 (t : Int32 → Int32 → Bool) (tgt nx : Nat) : mF := fun _ _ _ lo st h => match st with
  | .int y :: .int x :: r => some (if t x y = true then tgt else nx, lo, r, h)
  | _ => none
def mi_go (tgt : Nat) : mF := fun _ _ _ lo st h => some (tgt, lo, st, h)
theorem mi_if_eq_ok {off : Int} (d : decode cc pc = .ok (.ifCond .eq off, 3)) (ht : (pc : Int) + off = (tgt : Int)) (hn : pc + 3 = nx) : mi_Ok own cc nL ini pc (mi_b1 (fun x => decide (x = 0)) tgt nx) := by
  intro al LS xs lo st h x hf
  subst hn
  unfold mi_b1 at hf
  split at hf
  · next x0 r =>
    cases hf
    refine ⟨⟨Nat.le_refl _, Nat.le_refl _⟩, fun b bs cI cL D p l e R s m args below meth c Q kc ks n0 z0 X hal _ _ _ _ hW H locs ls hR hh hS => ?_⟩
    have hW1 := hW H locs ls hR hh hS
    dsimp only at hW1
    refine lv_if_eq X.1 X.2.1 d ht (fun hc0 => ?_) (fun hc0 => ?_)
    · rw [if_pos (by simp [hc0])] at hW1; exact hW1
    · rw [if_neg (by simp [hc0])] at hW1; exact hW1
  · cases hf
theorem mi_icmp_eq_ok {off : Int} (d : decode cc pc = .ok (.if_icmp .eq off, 3)) (ht : (pc : Int) + off = (tgt : Int)) (hn : pc + 3 = nx) : mi_Ok own cc nL ini pc (mi_b2 (fun x y => decide (x = y)) tgt nx) := by
  intro al LS xs lo st h x hf
  subst hn
  unfold mi_b2 at hf
  split at hf
  · next y0 x0 r =>
    cases hf
    refine ⟨⟨Nat.le_refl _, Nat.le_refl _⟩, fun b bs cI cL D p l e R s m args below meth c Q kc ks n0 z0 X hal _ _ _ _ hW H locs ls hR hh hS => ?_⟩
    have hW1 := hW H locs ls hR hh hS
    dsimp only at hW1
    refine lv_icmp_eq X.1 X.2.1 d ht (fun hc0 => ?_) (fun hc0 => ?_)
    · rw [if_pos (by simp [hc0])] at hW1; exact hW1
    · rw [if_neg (by simp [hc0])] at hW1; exact hW1
  · cases hf
theorem mi_if_ne_ok {off : Int} (d : decode cc pc = .ok (.ifCond .ne off, 3)) (ht : (pc : Int) + off = (tgt : Int)) (hn : pc + 3 = nx) : mi_Ok own cc nL ini pc (mi_b1 (fun x => decide (¬ x = 0)) tgt nx) := by
  intro al LS xs lo st h x hf
  subst hn
  unfold mi_b1 at hf
  split at hf
  · next x0 r =>
    cases hf
    refine ⟨⟨Nat.le_refl _, Nat.le_refl _⟩, fun b bs cI cL D p l e R s m args below meth c Q kc ks n0 z0 X hal _ _ _ _ hW H locs ls hR hh hS => ?_⟩
    have hW1 := hW H locs ls hR hh hS
    dsimp only at hW1
    refine lv_if_ne X.1 X.2.1 d ht (fun hc0 => ?_) (fun hc0 => ?_)
    · rw [if_pos (by simp [hc0])] at hW1; exact hW1
    · rw [if_neg (by simp [hc0])] at hW1; exact hW1
  · cases hf
theorem mi_icmp_ne_ok {off : Int} (d : decode cc pc = .ok (.if_icmp .ne off, 3)) (ht : (pc : Int) + off = (tgt : Int)) (hn : pc + 3 = nx) : mi_Ok own cc nL ini pc (mi_b2 (fun x y => decide (¬ x = y)) tgt nx) := by
  intro al LS xs lo st h x hf
  subst hn
  unfold mi_b2 at hf
  split at hf
  · next y0 x0 r =>
    cases hf
    refine ⟨⟨Nat.le_refl _, Nat.le_refl _⟩, fun b bs cI cL D p l e R s m args below meth c Q kc ks n0 z0 X hal _ _ _ _ hW H locs ls hR hh hS => ?_⟩
    have hW1 := hW H locs ls hR hh hS
    dsimp only at hW1
    refine lv_icmp_ne X.1 X.2.1 d ht (fun hc0 => ?_) (fun hc0 => ?_)
    · rw [if_pos (by simp [hc0])] at hW1; exact hW1
    · rw [if_neg (by simp [hc0])] at hW1; exact hW1
  · cases hf
theorem mi_if_lt_ok {off : Int} (d : decode cc pc = .ok (.ifCond .lt off, 3)) (ht : (pc : Int) + off = (tgt : Int)) (hn : pc + 3 = nx) : mi_Ok own cc nL ini pc (mi_b1 (fun x => decide (x < 0)) tgt nx) := by
  intro al LS xs lo st h x hf
  subst hn
  unfold mi_b1 at hf
  split at hf
  · next x0 r =>
    cases hf
    refine ⟨⟨Nat.le_refl _, Nat.le_refl _⟩, fun b bs cI cL D p l e R s m args below meth c Q kc ks n0 z0 X hal _ _ _ _ hW H locs ls hR hh hS => ?_⟩
    have hW1 := hW H locs ls hR hh hS
    dsimp only at hW1
    refine lv_if_lt X.1 X.2.1 d ht (fun hc0 => ?_) (fun hc0 => ?_)
    · rw [if_pos (by simp [hc0])] at hW1; exact hW1
    · rw [if_neg (by simp [hc0])] at hW1; exact hW1
  · cases hf
theorem mi_icmp_lt_ok {off : Int} (d : decode cc pc = .ok (.if_icmp .lt off, 3)) (ht : (pc : Int) + off = (tgt : Int)) (hn : pc + 3 = nx) : mi_Ok own cc nL ini pc (mi_b2 (fun x y => decide (x < y)) tgt nx) := by
  intro al LS xs lo st h x hf
  subst hn
  unfold mi_b2 at hf
  split at hf
  · next y0 x0 r =>
    cases hf
    refine ⟨⟨Nat.le_refl _, Nat.le_refl _⟩, fun b bs cI cL D p l e R s m args below meth c Q kc ks n0 z0 X hal _ _ _ _ hW H locs ls hR hh hS => ?_⟩
    have hW1 := hW H locs ls hR hh hS
    dsimp only at hW1
    refine lv_icmp_lt X.1 X.2.1 d ht (fun hc0 => ?_) (fun hc0 => ?_)
    · rw [if_pos (by simp [hc0])] at hW1; exact hW1
    · rw [if_neg (by simp [hc0])] at hW1; exact hW1
  · cases hf
theorem mi_if_ge_ok {off : Int} (d : decode cc pc = .ok (.ifCond .ge off, 3)) (ht : (pc : Int) + off = (tgt : Int)) (hn : pc + 3 = nx) : mi_Ok own cc nL ini pc (mi_b1 (fun x => decide (0 ≤ x)) tgt nx) := by
  intro al LS xs lo st h x hf
  subst hn
  unfold mi_b1 at hf
  split at hf
  · next x0 r =>
    cases hf
    refine ⟨⟨Nat.le_refl _, Nat.le_refl _⟩, fun b bs cI cL D p l e R s m args below meth c Q kc ks n0 z0 X hal _ _ _ _ hW H locs ls hR hh hS => ?_⟩
    have hW1 := hW H locs ls hR hh hS
    dsimp only at hW1
    refine lv_if_ge X.1 X.2.1 d ht (fun hc0 => ?_) (fun hc0 => ?_)
    · rw [if_pos (by simp [hc0])] at hW1; exact hW1
    · rw [if_neg (by simp [hc0])] at hW1; exact hW1
  · cases hf
theorem mi_icmp_ge_ok {off : Int} (d : decode cc pc = .ok (.if_icmp .ge off, 3)) (ht : (pc : Int) + off = (tgt : Int)) (hn : pc + 3 = nx) : mi_Ok own cc nL ini pc (mi_b2 (fun x y => decide (y ≤ x)) tgt nx) := by
  intro al LS xs lo st h x hf
  subst hn
  unfold mi_b2 at hf
  split at hf
  · next y0 x0 r =>
    cases hf
    refine ⟨⟨Nat.le_refl _, Nat.le_refl _⟩, fun b bs cI cL D p l e R s m args below meth c Q kc ks n0 z0 X hal _ _ _ _ hW H locs ls hR hh hS => ?_⟩
    have hW1 := hW H locs ls hR hh hS
    dsimp only at hW1
    refine lv_icmp_ge X.1 X.2.1 d ht (fun hc0 => ?_) (fun hc0 => ?_)
    · rw [if_pos (by simp [hc0])] at hW1; exact hW1
    · rw [if_neg (by simp [hc0])] at hW1; exact hW1
  · cases hf
theorem mi_if_gt_ok {off : Int} (d : decode cc pc = .ok (.ifCond .gt off, 3)) (ht : (pc : Int) + off = (tgt : Int)) (hn : pc + 3 = nx) : mi_Ok own cc nL ini pc (mi_b1 (fun x => decide (0 < x)) tgt nx) := by
  intro al LS xs lo st h x hf
  subst hn
  unfold mi_b1 at hf
  split at hf
  · next x0 r =>
    cases hf
    refine ⟨⟨Nat.le_refl _, Nat.le_refl _⟩, fun b bs cI cL D p l e R s m args below meth c Q kc ks n0 z0 X hal _ _ _ _ hW H locs ls hR hh hS => ?_⟩
    have hW1 := hW H locs ls hR hh hS
    dsimp only at hW1
    refine lv_if_gt X.1 X.2.1 d ht (fun hc0 => ?_) (fun hc0 => ?_)
    · rw [if_pos (by simp [hc0])] at hW1; exact hW1
    · rw [if_neg (by simp [hc0])] at hW1; exact hW1
  · cases hf
theorem mi_icmp_gt_ok {off : Int} (d : decode cc pc = .ok (.if_icmp .gt off, 3)) (ht : (pc : Int) + off = (tgt : Int)) (hn : pc + 3 = nx) : mi_Ok own cc nL ini pc (mi_b2 (fun x y => decide (y < x)) tgt nx) := by
  intro al LS xs lo st h x hf
  subst hn
  unfold mi_b2 at hf
  split at hf
  · next y0 x0 r =>
    cases hf
    refine ⟨⟨Nat.le_refl _, Nat.le_refl _⟩, fun b bs cI cL D p l e R s m args below meth c Q kc ks n0 z0 X hal _ _ _ _ hW H locs ls hR hh hS => ?_⟩
    have hW1 := hW H locs ls hR hh hS
    dsimp only at hW1
    refine lv_icmp_gt X.1 X.2.1 d ht (fun hc0 => ?_) (fun hc0 => ?_)
    · rw [if_pos (by simp [hc0])] at hW1; exact hW1
    · rw [if_neg (by simp [hc0])] at hW1; exact hW1
  · cases hf
theorem mi_if_le_ok {off : Int} (d : decode cc pc = .ok (.ifCond .le off, 3)) (ht : (pc : Int) + off = (tgt : Int)) (hn : pc + 3 = nx) : mi_Ok own cc nL ini pc (mi_b1 (fun x => decide (x ≤ 0)) tgt nx) := by
  intro al LS xs lo st h x hf
  subst hn
  unfold mi_b1 at hf
  split at hf
  · next x0 r =>
    cases hf
    refine ⟨⟨Nat.le_refl _, Nat.le_refl _⟩, fun b bs cI cL D p l e R s m args below meth c Q kc ks n0 z0 X hal _ _ _ _ hW H locs ls hR hh hS => ?_⟩
    have hW1 := hW H locs ls hR hh hS
    dsimp only at hW1
    refine lv_if_le X.1 X.2.1 d ht (fun hc0 => ?_) (fun hc0 => ?_)
    · rw [if_pos (by simp [hc0])] at hW1; exact hW1
    · rw [if_neg (by simp [hc0])] at hW1; exact hW1
  · cases hf
theorem mi_icmp_le_ok {off : Int} (d : decode cc pc = .ok (.if_icmp .le off, 3)) (ht : (pc : Int) + off = (tgt : Int)) (hn : pc + 3 = nx) : mi_Ok own cc nL ini pc (mi_b2 (fun x y => decide (x ≤ y)) tgt nx) := by
  intro al LS xs lo st h x hf
  subst hn
  unfold mi_b2 at hf
  split at hf
  · next y0 x0 r =>
    cases hf
    refine ⟨⟨Nat.le_refl _, Nat.le_refl _⟩, fun b bs cI cL D p l e R s m args below meth c Q kc ks n0 z0 X hal _ _ _ _ hW H locs ls hR hh hS => ?_⟩
    have hW1 := hW H locs ls hR hh hS
    dsimp only at hW1
    refine lv_icmp_le X.1 X.2.1 d ht (fun hc0 => ?_) (fun hc0 => ?_)
    · rw [if_pos (by simp [hc0])] at hW1; exact hW1
    · rw [if_neg (by simp [hc0])] at hW1; exact hW1
  · cases hf
theorem mi_goto_ok {off : Int} (d : decode cc pc = .ok (.goto off, 3)) (ht : (pc : Int) + off = (tgt : Int)) : mi_Ok own cc nL ini pc (mi_go tgt) := by
  intro al LS xs lo st h x hf
  cases hf
  refine ⟨⟨Nat.le_refl _, Nat.le_refl _⟩, fun b bs cI cL D p l e R s m args below meth c Q kc ks n0 z0 X hal _ _ _ _ hW H locs ls hR hh hS => ?_⟩
  exact lv_goto X.1 X.2.1 d ht (hW H locs ls hR hh hS)
end MI2
