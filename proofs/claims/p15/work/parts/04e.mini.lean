/-! NEW CELLS; SWITCHES; the few JDK methods that are steps. -/
section MI4
variable {own : String} {cc : ByteArray} {nL : Nat} {ini : Bool} {pc nx tgt : Nat}
/-- where cells may still be made, the heap ends with the small one -/
theorem mi_exact {al : Bool} {b bs : Nat} {cI cL : ClassId} {D : va_G} {p : Program} {l : Launch} {e : Env} {R : Room} {s : State} {m : MethodId} {args : Array Value} {below : List Frame} {meth : Method} {c : Code} {T : State} {locs : List Loc} {h : mH} {n0 k z kc : Nat}
    (X : Stand p l e R s m args below meth c T locs k z) (hk : k = h.length + kc - n0) (hn : n0 ≤ h.length) (ha : al = true) (hal : al = true → s.heap.size = b + n0 ∧ kc = 0) (hR : mi_R b bs cI cL D h T.heap) (hS : s.heap.size ≤ T.heap.size) : T.heap.size = b + h.length := by
  have h1 := X.heapSize
  obtain ⟨hal1, hal2⟩ := hal ha
  have h2 := hR.size (by rw [hal1] at hS; omega)
  rw [hal1] at h1
  omega
def mi_new (ci : Nat) (fs : List Value) (nx : Nat) : mF := fun al _ _ lo st h => if al = true then some (nx, lo, .ref h.length :: st, h ++ [.inl (ci, fs)]) else none
def mi_defs (N : Nat) (ty : Nat → FieldType) (fs : List Value) : Bool := decide (fs.length = N) && (List.range N).all (fun j => decide (fs[j]? = some (defaultValue (ty j))))
theorem mi_dv (b bs : Nat) (ty : FieldType) (h : mi_okT ty = true) : mi_v b bs (defaultValue ty) = defaultValue ty := by
  cases ty <;> first | (cases h; done) | rfl
theorem mi_new_ok {index ci : Nat} {C : String} {T : u_T} {N : Nat} {ty : Nat → FieldType} {fs : List Value} (d : decode cc pc = .ok (.new index, 3)) (hC : mi_CF ci C T N ty) (hcl : Cond.classLink own index C ∈ mi_good) (hin : Cond.instantiable C N ∈ mi_good) (hini : Cond.initialized C ∈ mi_good)
    (hfs : mi_defs N ty fs = true) (hT : (List.range N).all (fun j => mi_okT (ty j)) = true) (hn : pc + 3 = nx) : mi_Ok own cc nL ini pc (mi_new ci fs nx) := by
  intro al LS xs lo st h x hf
  subst hn
  unfold mi_new at hf
  split at hf
  · next ha =>
    cases hf
    have hlen : fs.length = N := by
      unfold mi_defs at hfs
      simp only [Bool.and_eq_true, decide_eq_true_eq] at hfs
      exact hfs.1
    have hz : mi_z (h ++ [.inl (ci, fs)]) = mi_z h + N := by rw [mi_z_push]; simp [mi_zc, hlen]
    have hl : (h ++ [(.inl (ci, fs) : mC)]).length = h.length + 1 := by simp
    refine ⟨⟨by dsimp only; rw [hl]; omega, by dsimp only; rw [hz]; omega⟩, fun b bs cI cL D p l e R s m args below meth c Q kc ks n0 z0 X hal hn0 hz0 hc hs hW H locs ls hR hh hS => ?_⟩
    dsimp only at hc hs
    rw [hl] at hc
    rw [hz] at hs
    obtain ⟨hcl0, hws, hty, hnm⟩ := hC
    have hKn := X.2.2.2.2.2.1.1.1 ci _ hcl0
    intro T0 hT0 X0
    have hex : H.size = b + h.length := by
      rw [← hT0]
      exact mi_exact (D := D) X0 rfl hn0 ha hal (by rw [hT0]; exact hR) (by rw [hT0]; exact hS.1)
    refine (?_ : W p l e R s m args below meth c H locs (h.length + kc - n0) (mi_z h + ks - z0) Q (F0 m pc ls (st.map (mi_v b bs)))) T0 hT0 X0
    refine W.newcK (n := N) (g := F0 m pc ls (st.map (mi_v b bs))) X.1 X.2.1 X.2.2.2.1 (X.2.2.2.2.1 _ hcl) (X.2.2.2.2.1 _ hin) (X.2.2.2.2.1 _ hini) rfl d (by omega) (by omega) hKn.2.1 hex (fun H1 kC hkC e1 z1 o1 => ?_)
    have hP1 : mi_R b bs cI cL D (h ++ [.inl (ci, fs)]) H1 := by
      unfold mi_R
      rw [mi_w_push]
      have hk : ∀ (k : Nat) (x : Nat × va_E), (mi_w b bs cI cL 0 h)[k]? = some x → H1[x.1]? = H[x.1]? := fun k x hx => o1 x.1 (by have := (hR k x hx).lt; omega)
      refine (va_P.kept hR hk).app (fun k x hx => ?_)
      have hz : k < 1 := (List.getElem?_eq_some_iff.mp hx).1
      rw [show k = 0 by omega] at hx
      cases hx
      refine ⟨_, hcl0, ?_⟩
      have e0 : b + (0 + h.length) = b + h.length := by omega
      show t_OB (b + (0 + h.length)) _ _ _ _ _
      rw [e0]
      refine (u_born ty X.2.2.2.2.1 hws hKn hkC e1 hty).to (fun j hj => ?_)
      unfold mi_defs at hfs
      simp only [Bool.and_eq_true, decide_eq_true_eq, List.all_eq_true, List.mem_range] at hfs hT
      have h1 := hfs.2 j hj
      show defaultValue (ty j) = (fs.map (mi_v b bs)).getD j .null
      have h2 : (fs.map (mi_v b bs))[j]? = some (defaultValue (ty j)) := by
        rw [List.getElem?_map, h1]
        simp only [Option.map_some]
        rw [mi_dv b bs (ty j) (hT j hj)]
      rw [List.getD, h2]
      rfl
    have hS1 : va_S (fun q => b ≤ q) s.heap H1 locs := ⟨by have := hS.1; omega, fun q h1 h2 => (o1 q (by have := hS.1; omega)).trans (hS.2.1 q h1 h2), hS.2.2⟩
    have := hW H1 locs ls hP1 hh hS1
    dsimp only at this
    rw [hl, hz] at this
    have e1 : h.length + 1 + kc - n0 = h.length + kc - n0 + 1 := by omega
    have e2 : mi_z h + N + ks - z0 = mi_z h + ks - z0 + N := by omega
    rw [e1, e2] at this
    exact this
  · cases hf
def mi_newI (nx : Nat) : mF := fun al _ _ lo st h => match st with
  | .int n :: r => if al = true ∧ 0 ≤ n ∧ n.toNatClampNeg ≤ 1000000 then some (nx, lo, .ref h.length :: r, h ++ [.inr (.inl (List.replicate n.toNatClampNeg 0))]) else none
  | _ => none
theorem mi_newI_ok (d : decode cc pc = .ok (.newarray .int, 2)) (hA : Cond.arrayClass .int ∈ mi_good) (hn : pc + 2 = nx) : mi_Ok own cc nL ini pc (mi_newI nx) := by
  intro al LS xs lo st h x hf
  subst hn
  unfold mi_newI at hf
  split at hf
  · next n r =>
    split at hf
    · next hc0 =>
      obtain ⟨ha, hn0', hbig⟩ := hc0
      cases hf
      have hz : mi_z (h ++ [.inr (.inl (List.replicate n.toNatClampNeg 0))]) = mi_z h + n.toNatClampNeg := by rw [mi_z_push]; simp [mi_zc]
      have hl : (h ++ [(.inr (.inl (List.replicate n.toNatClampNeg 0)) : mC)]).length = h.length + 1 := by simp
      refine ⟨⟨by dsimp only; rw [hl]; omega, by dsimp only; rw [hz]; omega⟩, fun b bs cI cL D p l e R s m args below meth c Q kc ks n0 z0 X hal hn0 hz0 hc hs hW H locs ls hR hh hS => ?_⟩
      dsimp only at hc hs
      rw [hl] at hc
      rw [hz] at hs
      intro T0 hT0 X0
      have hex : H.size = b + h.length := by
        rw [← hT0]
        exact mi_exact (D := D) X0 rfl hn0 ha hal (by rw [hT0]; exact hR) (by rw [hT0]; exact hS.1)
      refine (?_ : W p l e R s m args below meth c H locs (h.length + kc - n0) (mi_z h + ks - z0) Q (F0 m pc ls (.int n :: r.map (mi_v b bs)))) T0 hT0 X0
      refine va_newaK (atype := .int) (N := n.toNatClampNeg) (g := F0 m pc ls (.int n :: r.map (mi_v b bs))) (rest := r.map (mi_v b bs)) X.1 X.2.1 (X.2.2.2.2.1 _ hA) rfl d rfl (Int32.not_lt.mpr hn0') rfl (by show n.toNatClampNeg * _ ≤ _; simp only [newarray.typeOf, componentBytes]; omega) (by omega) (by omega) hex (fun H1 cA e1 z1 o1 hAr hNm => ?_)
      have hcA : cA = cI := by
        have h1 := (X.2.2.2.2.2.1.1.2 0 _ rfl).2
        have h2 : s.vm.findClass ("[" ++ (.int : FieldType).toString) = some cI := h1
        exact Option.some.inj (hNm.symm.trans h2)
      rw [hcA] at e1
      have hP1 : mi_R b bs cI cL D (h ++ [.inr (.inl (List.replicate n.toNatClampNeg 0))]) H1 := by
        unfold mi_R
        rw [mi_w_push]
        have hk : ∀ (k : Nat) (x : Nat × va_E), (mi_w b bs cI cL 0 h)[k]? = some x → H1[x.1]? = H[x.1]? := fun k x hx => o1 x.1 (by have := (hR k x hx).lt; omega)
        refine (va_P.kept hR hk).app (fun k x hx => ?_)
        have hz : k < 1 := (List.getElem?_eq_some_iff.mp hx).1
        rw [show k = 0 by omega] at hx
        cases hx
        have e0 : b + (0 + h.length) = b + h.length := by omega
        show H1[b + (0 + h.length)]? = some (vp_cell _ _)
        rw [e0, e1]
        congr 1
        simp only [List.length_replicate, vp_cell]
        congr 1
        funext j
        have : (List.replicate n.toNatClampNeg (0 : Int32)).getD j 0 = 0 := by
          simp only [List.getD, List.getElem?_replicate]
          split <;> rfl
        rw [this]
        rfl
      have hS1 : va_S (fun q => b ≤ q) s.heap H1 locs := ⟨by have := hS.1; omega, fun q h1 h2 => (o1 q (by have := hS.1; omega)).trans (hS.2.1 q h1 h2), hS.2.2⟩
      have := hW H1 locs ls hP1 hh hS1
      dsimp only at this
      rw [hl, hz] at this
      have e1 : h.length + 1 + kc - n0 = h.length + kc - n0 + 1 := by omega
      have e2 : mi_z h + n.toNatClampNeg + ks - z0 = mi_z h + ks - z0 + n.toNatClampNeg := by omega
      rw [e1, e2] at this
      exact this
    · cases hf
  · cases hf
def mi_newL (nx : Nat) : mF := fun al _ _ lo st h => match st with
  | .int n :: r => if al = true ∧ 0 ≤ n ∧ n.toNatClampNeg ≤ 1000000 then some (nx, lo, .ref h.length :: r, h ++ [.inr (.inr (List.replicate n.toNatClampNeg 0))]) else none
  | _ => none
theorem mi_newL_ok (d : decode cc pc = .ok (.newarray .long, 2)) (hA : Cond.arrayClass .long ∈ mi_good) (hn : pc + 2 = nx) : mi_Ok own cc nL ini pc (mi_newL nx) := by
  intro al LS xs lo st h x hf
  subst hn
  unfold mi_newL at hf
  split at hf
  · next n r =>
    split at hf
    · next hc0 =>
      obtain ⟨ha, hn0', hbig⟩ := hc0
      cases hf
      have hz : mi_z (h ++ [.inr (.inr (List.replicate n.toNatClampNeg 0))]) = mi_z h + n.toNatClampNeg := by rw [mi_z_push]; simp [mi_zc]
      have hl : (h ++ [(.inr (.inr (List.replicate n.toNatClampNeg 0)) : mC)]).length = h.length + 1 := by simp
      refine ⟨⟨by dsimp only; rw [hl]; omega, by dsimp only; rw [hz]; omega⟩, fun b bs cI cL D p l e R s m args below meth c Q kc ks n0 z0 X hal hn0 hz0 hc hs hW H locs ls hR hh hS => ?_⟩
      dsimp only at hc hs
      rw [hl] at hc
      rw [hz] at hs
      intro T0 hT0 X0
      have hex : H.size = b + h.length := by
        rw [← hT0]
        exact mi_exact (D := D) X0 rfl hn0 ha hal (by rw [hT0]; exact hR) (by rw [hT0]; exact hS.1)
      refine (?_ : W p l e R s m args below meth c H locs (h.length + kc - n0) (mi_z h + ks - z0) Q (F0 m pc ls (.int n :: r.map (mi_v b bs)))) T0 hT0 X0
      refine va_newaK (atype := .long) (N := n.toNatClampNeg) (g := F0 m pc ls (.int n :: r.map (mi_v b bs))) (rest := r.map (mi_v b bs)) X.1 X.2.1 (X.2.2.2.2.1 _ hA) rfl d rfl (Int32.not_lt.mpr hn0') rfl (by show n.toNatClampNeg * _ ≤ _; simp only [newarray.typeOf, componentBytes]; omega) (by omega) (by omega) hex (fun H1 cA e1 z1 o1 hAr hNm => ?_)
      have hcA : cA = cL := by
        have h1 := (X.2.2.2.2.2.1.1.2 1 _ rfl).2
        have h2 : s.vm.findClass ("[" ++ (.long : FieldType).toString) = some cL := h1
        exact Option.some.inj (hNm.symm.trans h2)
      rw [hcA] at e1
      have hP1 : mi_R b bs cI cL D (h ++ [.inr (.inr (List.replicate n.toNatClampNeg 0))]) H1 := by
        unfold mi_R
        rw [mi_w_push]
        have hk : ∀ (k : Nat) (x : Nat × va_E), (mi_w b bs cI cL 0 h)[k]? = some x → H1[x.1]? = H[x.1]? := fun k x hx => o1 x.1 (by have := (hR k x hx).lt; omega)
        refine (va_P.kept hR hk).app (fun k x hx => ?_)
        have hz : k < 1 := (List.getElem?_eq_some_iff.mp hx).1
        rw [show k = 0 by omega] at hx
        cases hx
        have e0 : b + (0 + h.length) = b + h.length := by omega
        show H1[b + (0 + h.length)]? = some (vp_cell _ _)
        rw [e0, e1]
        congr 1
        simp only [List.length_replicate, vp_cell]
        congr 1
        funext j
        have : (List.replicate n.toNatClampNeg (0 : Int64)).getD j 0 = 0 := by
          simp only [List.getD, List.getElem?_replicate]
          split <;> rfl
        rw [this]
        rfl
      have hS1 : va_S (fun q => b ≤ q) s.heap H1 locs := ⟨by have := hS.1; omega, fun q h1 h2 => (o1 q (by have := hS.1; omega)).trans (hS.2.1 q h1 h2), hS.2.2⟩
      have := hW H1 locs ls hP1 hh hS1
      dsimp only at this
      rw [hl, hz] at this
      have e1 : h.length + 1 + kc - n0 = h.length + kc - n0 + 1 := by omega
      have e2 : mi_z h + n.toNatClampNeg + ks - z0 = mi_z h + ks - z0 + n.toNatClampNeg := by omega
      rw [e1, e2] at this
      exact this
    · cases hf
  · cases hf
def mi_sw (t : Int32 → Nat) : mF := fun _ _ _ lo st h => match st with
  | .int x :: r => some (t x, lo, r, h)
  | _ => none
def mi_tab (lo hi : Int) (ts : List Nat) (d : Nat) (x : Int32) : Nat := if x.toInt < lo ∨ hi < x.toInt then d else ts.getD (x.toInt - lo).toNat d
def mi_look (ps : List (Int × Nat)) (d : Nat) (x : Int32) : Nat := match ps with
  | [] => d
  | q :: t => if x.toInt = q.1 then q.2 else mi_look t d x
theorem mi_tab_ok {dflt lo0 hi0 : Int} {offs : Array Int} {len : Nat} {ts : List Nat} {dt : Nat} (d : decode cc pc = .ok (.tableswitch dflt lo0 hi0 offs, len)) (hd : (pc : Int) + dflt = (dt : Int)) (hlen : (ts.length : Int) = hi0 - lo0 + 1) (hts : offs.toList.map (fun o => (pc : Int) + o) = ts.map (fun (t : Nat) => (t : Int))) : mi_Ok own cc nL ini pc (mi_sw (mi_tab lo0 hi0 ts dt)) := by
  intro al LS xs lo st h x hf
  unfold mi_sw at hf
  split at hf
  · next x0 r =>
    cases hf
    refine ⟨⟨Nat.le_refl _, Nat.le_refl _⟩, fun b bs cI cL D p l e R s m args below meth c Q kc ks n0 z0 X hal _ _ _ _ hW H locs ls hR hh hS => ?_⟩
    have hW1 := hW H locs ls hR hh hS
    dsimp only at hW1
    by_cases hc : x0.toInt < lo0 ∨ hi0 < x0.toInt
    · refine lv_tableOut X.1 X.2.1 d hc hd ?_
      rw [show mi_tab lo0 hi0 ts dt x0 = dt from if_pos hc] at hW1
      exact hW1
    · have h1 : ¬ x0.toInt < lo0 := fun q => hc (Or.inl q)
      have h2 : ¬ hi0 < x0.toInt := fun q => hc (Or.inr q)
      have hj : (x0.toInt - lo0).toNat < ts.length := by omega
      have hk := congrArg (fun z => z[(x0.toInt - lo0).toNat]?) hts
      simp only [List.getElem?_map, List.getElem?_eq_getElem hj, Option.map_some] at hk
      cases ho : offs.toList[(x0.toInt - lo0).toNat]? with
      | none => rw [ho] at hk; cases hk
      | some off =>
        rw [ho] at hk
        have hk1 : (pc : Int) + off = ((ts[(x0.toInt - lo0).toNat] : Nat) : Int) := Option.some.inj hk
        refine lv_tableIn (off := off) X.1 X.2.1 d h1 h2 (by rw [← Array.getElem?_toList]; exact ho) hk1 ?_
        have e1 : mi_tab lo0 hi0 ts dt x0 = ts[(x0.toInt - lo0).toNat] := by
          unfold mi_tab
          rw [if_neg hc, List.getD, List.getElem?_eq_getElem hj]
          rfl
        rw [e1] at hW1
        exact hW1
  · cases hf
theorem mi_look_ok {dflt : Int} {ps : Array (Int × Int)} {len : Nat} {ts : List (Int × Nat)} {dt : Nat} (d : decode cc pc = .ok (.lookupswitch dflt ps, len)) (hp : (ps.toList.zip (ps.toList.drop 1)).all (fun (a, next) => a.1 < next.1) = true)
    (ho : ∀ x : Int32, (pc : Int) + Op.lookupswitch.offset ps.toList dflt x.toInt = (mi_look ts dt x : Int)) : mi_Ok own cc nL ini pc (mi_sw (mi_look ts dt)) := by
  intro al LS xs lo st h x hf
  unfold mi_sw at hf
  split at hf
  · next x0 r =>
    cases hf
    refine ⟨⟨Nat.le_refl _, Nat.le_refl _⟩, fun b bs cI cL D p l e R s m args below meth c Q kc ks n0 z0 X hal _ _ _ _ hW H locs ls hR hh hS => ?_⟩
    exact lv_lookup X.1 X.2.1 d hp rfl (ho x0) (hW H locs ls hR hh hS)
  · cases hf
def mi_obj (nx : Nat) : mF := fun _ _ _ lo st h => match st with
  | .ref _ :: r => if (r.map (fun v => v.category)).sum ≤ 20 then some (nx, lo, r, h) else none
  | _ => none
theorem mi_sum (b bs : Nat) (r : List Value) : ((r.map (mi_v b bs)).map (fun v => v.category)).sum = (r.map (fun v => v.category)).sum := by
  rw [List.map_map]
  congr 1
  exact List.map_congr_left (fun v _ => mi_v_cat b bs v)
theorem mi_obj_ok {index : Nat} (d : decode cc pc = .ok (.invokespecial index, 3)) (hl : Cond.methodLink own index objectInit ∈ mi_good) (hi : Cond.instanceMethod objectInit ∈ mi_good) (hc : Cond.code objectInit ⟨#[0xb1]⟩ 1 none ∈ mi_good) (hn : pc + 3 = nx) : mi_Ok own cc nL ini pc (mi_obj nx) := by
  intro al LS xs lo st h x hf
  subst hn
  unfold mi_obj at hf
  split at hf
  · next a r =>
    split at hf
    · next hr =>
      cases hf
      refine ⟨⟨Nat.le_refl _, Nat.le_refl _⟩, fun b bs cI cL D p l e R s m args below meth c Q kc ks n0 z0 X hal _ _ _ _ hW H locs ls hR hh hS => ?_⟩
      refine W.objInit (a := b + a) (rest := r.map (mi_v b bs)) X.1 X.2.1 X.2.2.2.1 (X.2.2.2.2.1 _ hl) (X.2.2.2.2.1 _ hi) (X.2.2.2.2.1 _ hc) rfl (by show ls.size = _; rw [hh.1, X.2.2.1]) rfl d X.2.2.2.2.2.2.2.2.2.1 (by
        show 2 * 0 + _ + 12 ≤ _
        rw [mi_sum]
        have := X.2.2.2.2.2.2.2.2.2.2.1
        omega) ?_
      exact hW H locs ls hR hh hS
    · cases hf
  · cases hf
def mi_mx (op : Int32 → Int32 → Int32) (nx : Nat) : mF := fun _ _ _ lo st h => match st with
  | .int y :: .int x :: r => if (r.map (fun v => v.category)).sum ≤ 20 then some (nx, lo, .int (op x y) :: r, h) else none
  | _ => none
theorem mi_mmax_ok {index : Nat} (d : decode cc pc = .ok (.invokestatic index, 3)) (hl : Cond.methodLink own index Lib.Math.max.name ∈ mi_good) (hs : Cond.static Lib.Math.max.name ∈ mi_good) (hi : Cond.initialized "java/lang/Math" ∈ mi_good) (hc : Cond.code Lib.Math.max.name Lib.Math.max.code 2 (some .int) ∈ mi_good) (hn : pc + 3 = nx) : mi_Ok own cc nL ini pc (mi_mx (fun x y => if x < y then y else x) nx) := by
  intro al LS xs lo st h x hf
  subst hn
  unfold mi_mx at hf
  split at hf
  · next y0 x0 r =>
    split at hf
    · next hr =>
      cases hf
      refine ⟨⟨Nat.le_refl _, Nat.le_refl _⟩, fun b bs cI cL D p l e R s m args below meth c Q kc ks n0 z0 X hal _ _ hcc hss hW H locs ls hR hh hS => ?_⟩
      refine va_mmax X.1 X.2.1 (by rw [X.2.2.1, hh.1]) X.2.2.2.1 (X.2.2.2.2.1 _ hl) (X.2.2.2.2.1 _ hs) (X.2.2.2.2.1 _ hi) (X.2.2.2.2.1 _ hc) X.2.2.2.2.2.2.2.2.2.1 (by
        rw [mi_sum]
        have := X.2.2.2.2.2.2.2.2.2.2.1
        omega) hcc hss d ?_
      exact hW H locs ls hR hh hS
    · cases hf
  · cases hf
theorem mi_mmin_ok {index : Nat} (d : decode cc pc = .ok (.invokestatic index, 3)) (hl : Cond.methodLink own index Lib.Math.min.name ∈ mi_good) (hs : Cond.static Lib.Math.min.name ∈ mi_good) (hi : Cond.initialized "java/lang/Math" ∈ mi_good) (hc : Cond.code Lib.Math.min.name Lib.Math.min.code 2 (some .int) ∈ mi_good) (hn : pc + 3 = nx) : mi_Ok own cc nL ini pc (mi_mx (fun x y => if y < x then y else x) nx) := by
  intro al LS xs lo st h x hf
  subst hn
  unfold mi_mx at hf
  split at hf
  · next y0 x0 r =>
    split at hf
    · next hr =>
      cases hf
      refine ⟨⟨Nat.le_refl _, Nat.le_refl _⟩, fun b bs cI cL D p l e R s m args below meth c Q kc ks n0 z0 X hal _ _ hcc hss hW H locs ls hR hh hS => ?_⟩
      refine va_mmin X.1 X.2.1 (by rw [X.2.2.1, hh.1]) X.2.2.2.1 (X.2.2.2.2.1 _ hl) (X.2.2.2.2.1 _ hs) (X.2.2.2.2.1 _ hi) (X.2.2.2.2.1 _ hc) X.2.2.2.2.2.2.2.2.2.1 (by
        rw [mi_sum]
        have := X.2.2.2.2.2.2.2.2.2.2.1
        omega) hcc hss d ?_
      exact hW H locs ls hR hh hS
    · cases hf
  · cases hf
end MI4
