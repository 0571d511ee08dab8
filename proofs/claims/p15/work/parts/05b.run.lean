section MI6
variable {p : Program} {l : Launch} {e : Env} {R : Room} {s : State} {m : MethodId} {args : Array Value} {below : List Frame} {meth : Method} {c : Code} {H : Heap} {locs : List Loc} {cells slots : Nat} {Q : State → Prop}
variable {al : Bool} {b bs : Nat} {cI cL : ClassId} {D : va_G} {LS : Nat} {xs : Nat → Int32} {own : String} {cc : ByteArray} {nL : Nat} {ini : Bool}
/-- behind a call that returned -/
theorem mi_callk {mc ms pc : Nat} {ls : Array Slot} {st0 rest : List Value} {v : Option Value} {h1 : mH} {a : Array Value} (hr : va_Run p l e R s m args below meth c H locs cells slots mc ms (F0 m pc ls st0) rest (mi_Qc b bs cI cL D v h1 a) (fun q => b ≤ q)) (hS : va_S (fun q => b ≤ q) s.heap H locs)
    (kk : ∀ (H1 : Heap) (locs1 : List Loc), mi_R b bs cI cL D h1 H1 → va_S (fun q => b ≤ q) s.heap H1 locs1 → W p l e R s m args below meth c H1 locs1 (cells + mc) (slots + ms) Q (F0 m (pc + 3) ls ((v.map (mi_v b bs)).toList ++ rest))) : W p l e R s m args below meth c H locs cells slots Q (F0 m pc ls st0) := by
  intro T hT X
  obtain ⟨v0, st₀, t, T', L, h0, X', hL, e1, e2, ⟨⟨hv, hb⟩, hz, hk⟩, st⟩ := hr T hT X
  cases hv
  rw [h0] at hz hk
  obtain ⟨t2, a1, b1⟩ := kk T'.heap (locs ++ L) (by rw [e1]; exact hb)
    ⟨Nat.le_trans hS.1 (by rw [e1]; exact hz), fun q h1 h2 => by rw [e1, hk q (Nat.lt_of_lt_of_le h1 hS.1) h2]; exact hS.2.1 q h1 h2, fun q hq => by
      rcases List.mem_append.mp hq with h | h
      · exact hS.2.2 q h
      · exact hL q h⟩ T' rfl X'
  exact ⟨t2, st t2 a1, b1⟩
theorem mi_goodIn {M : mD} (hM : mi_OkM M) : GoodIn mi_good (mi_ws M) := by
  intro w hw
  rcases List.mem_cons.mp hw with rfl | hw
  · exact ⟨hM.2.1, good_of_word (mi_good_ok hM.2.1)⟩
  · exact ⟨hw, good_of_word (mi_good_ok hw)⟩
/-- a call at its site, of a method with a contract, returning -/
theorem mi_callW {Ms : List mD} {pc d : Nat} {ca : mA} {M : mD} {As rest : List Value} {h h1 : mH} {v : Option Value} {kc ks n0 z0 : Nat} {lo : mL}
    (X : mi_X b bs cI cL D LS xs own cc nL ini p l R s m args meth c) (hal : al = true → s.heap.size = b + n0 ∧ kc = 0) (hC : mi_OkC Ms own cc pc ca) (hMs : Ms[ca.1]? = some M)
    (hM : Met l M.1 (mi_ws M) (mi_rm d (h1.length - h.length) (mi_z h1 - mi_z h)) (mi_Pc al b bs cI cL D LS xs As h) (mi_Qc b bs cI cL D v h1) (h1.length - h.length) (mi_z h1 - mi_z h) (fun q => b ≤ q))
    (hA : As.length = ca.2.1) (hr : (rest.map (fun v => v.category)).sum ≤ 8) (hrc : mi_rcv ca.2.2.1 As h) (hf : d + 7 ≤ R.frames) (hlo : 40 * (d + 1) + 200 ≤ R.locals)
    (hn0 : n0 ≤ h.length) (hz0 : z0 ≤ mi_z h) (hl1 : h.length ≤ h1.length) (hz1 : mi_z h ≤ mi_z h1) (hcl : h1.length + kc - n0 ≤ R.cells) (hsl : mi_z h1 + ks - z0 ≤ R.slots)
    (kk : mi_W b bs cI cL D nL p l e R s m args below meth c Q kc ks n0 z0 (pc + 3, lo, v.toList ++ rest, h1)) : mi_W b bs cI cL D nL p l e R s m args below meth c Q kc ks n0 z0 (pc, lo, As.reverse ++ rest, h) := by
  intro H locs ls hR hh hS T0 hT0 X0
  obtain ⟨M', hM', hMok, index, n, hpar, hcase⟩ := hC
  cases hMs.symm.trans hM'
  obtain ⟨hx, hb, hml, hown, hts, hK, hbs, hnm, hlk, hfr1, hlo1, hst⟩ := X
  have hex : al = true → H.size = b + h.length := fun ha => by
    rw [← hT0]
    exact mi_exact (D := D) X0 rfl hn0 ha hal (by rw [hT0]; exact hR) (by rw [hT0]; exact hS.1)
  have hPc : ∀ U : State, U.heap = H → s.WarmedH U.vm → mi_Pc al b bs cI cL D LS xs As h (As.map (mi_v b bs)).toArray U := fun U hU hW => ⟨rfl, by rw [hU]; exact hR, hK.warm hS hU hW, by rw [hU]; exact Nat.le_trans hbs hS.1, fun ha => by rw [hU]; exact hex ha⟩
  have hG := mi_goodIn hMok
  have hR2 : (mi_rm d (h1.length - h.length) (mi_z h1 - mi_z h)).frames + 1 ≤ R.frames ∧ 8 + (M.2.2.1 + 11) + (mi_rm d (h1.length - h.length) (mi_z h1 - mi_z h)).locals ≤ R.locals := by
    have := hMok.2.2.2.1
    exact ⟨by show d + 6 + 1 ≤ _; omega, by show 8 + (M.2.2.1 + 11) + (40 * d + 200) ≤ _; omega⟩
  have hfx : CallFix p m c cc nL s args mi_good own := ⟨hx, hb, hml, hown, hts⟩
  have hroom : (h.length + kc - n0) + (h1.length - h.length) ≤ R.cells ∧ (mi_z h + ks - z0) + (mi_z h1 - mi_z h) ≤ R.slots := ⟨by omega, by omega⟩
  have hgo : ∀ (H1 : Heap) (locs1 : List Loc), mi_R b bs cI cL D h1 H1 → va_S (fun q => b ≤ q) s.heap H1 locs1 → W p l e R s m args below meth c H1 locs1 ((h.length + kc - n0) + (h1.length - h.length)) ((mi_z h + ks - z0) + (mi_z h1 - mi_z h)) Q (F0 m (pc + 3) ls ((v.map (mi_v b bs)).toList ++ rest.map (mi_v b bs))) := by
    intro H1 locs1 hR1 hS1
    have h9 := kk H1 locs1 ls hR1 hh hS1
    dsimp only at h9
    have e1 : (h.length + kc - n0) + (h1.length - h.length) = h1.length + kc - n0 := by omega
    have e2 : (mi_z h + ks - z0) + (mi_z h1 - mi_z h) = mi_z h1 + ks - z0 := by omega
    have e3 : (v.toList ++ rest).map (mi_v b bs) = (v.map (mi_v b bs)).toList ++ rest.map (mi_v b bs) := by cases v <;> simp
    rw [e1, e2, ← e3]
    exact h9
  have hd : M.1.cls ≠ "java/lang/invoke/MethodHandle" ∧ M.1.cls ≠ "java/lang/invoke/VarHandle" ∧ (parseMethodDescriptor M.1.desc).map (fun d => d.parameters.length) = some n := ⟨hMok.2.2.2.2.1, hMok.2.2.2.2.2, hpar⟩
  have hsum : ((rest.map (mi_v b bs)).map (fun v => v.category)).sum ≤ 8 := by rw [mi_sum]; exact hr
  refine (?_ : W p l e R s m args below meth c H locs (h.length + kc - n0) (mi_z h + ks - z0) Q (F0 m pc ls ((As.reverse ++ rest).map (mi_v b bs)))) T0 hT0 X0
  rcases hcase with ⟨dg, hcn, hl, hin, hsel, ci, T, N, hci, hcl0⟩ | ⟨dg, hcn, hl, hin, hyn, hret, ci, hci⟩ | ⟨dg, hcn, hstt, hl⟩
  · rw [hci] at hrc
    obtain ⟨a, fs, ha, hfs⟩ := hrc
    cases As with
    | nil => cases ha
    | cons w As2 =>
      simp only [List.head?_cons, Option.some.injEq] at ha
      subst ha
      have hlen : (As2.map (mi_v b bs)).length = n := by simp at hA ⊢; omega
      refine mi_callk (va_runV (As := As2.map (mi_v b bs)) (rest := rest.map (mi_v b bs)) (b := b + a) hfx hM ⟨callB_of n hts hG rfl rfl rfl (hts _ hMok.2.2.1) (hts _ hl) hd hR2, hts _ hin, hts _ hsel⟩ ⟨mi_Pc.blind, va_recv hK.1 hR hcl0 (mi_at hfs), hPc⟩ rfl hlen (by rw [hh.1]) ?_ (by show 2 * 0 + _ ≤ 8; omega) dg hroom) hS hgo
      show List.map (mi_v b bs) ((Value.ref a :: As2).reverse ++ rest) = _
      simp [mi_v]
  · rw [hci] at hrc
    obtain ⟨a, fs, ha, hfs⟩ := hrc
    cases As with
    | nil => cases ha
    | cons w As2 =>
      simp only [List.head?_cons, Option.some.injEq] at ha
      subst ha
      have hlen : (As2.map (mi_v b bs)).length = n := by simp at hA ⊢; omega
      refine mi_callk (va_runI (As := As2.map (mi_v b bs)) (rest := rest.map (mi_v b bs)) (b := b + a) (maxL := M.2.2.1) (bytes := M.2.1) hfx hM ⟨callB_of (ret := none) n hts hG (by unfold mi_ws; rw [hret]) rfl rfl (hts _ hMok.2.2.1) (hts _ hl) hd hR2, hyn, hts _ hin⟩ ⟨mi_Pc.blind, hPc⟩ rfl hlen (by rw [hh.1]) ?_ (by show 2 * 0 + _ ≤ 8; omega) dg hroom) hS hgo
      show List.map (mi_v b bs) ((Value.ref a :: As2).reverse ++ rest) = _
      simp [mi_v]
  · have hlen : (As.map (mi_v b bs)).length = n := by simp at hA ⊢; omega
    rcases hl with hl | ⟨host, hl⟩
    · refine mi_callk (va_runS (As := As.map (mi_v b bs)) (rest := rest.map (mi_v b bs)) hfx hM ⟨callB_of n hts hG rfl rfl rfl (hts _ hMok.2.2.1) (hts _ hl) hd hR2, hts _ hstt⟩ ⟨mi_Pc.blind, hPc⟩ rfl hlen (by rw [hh.1]) ?_ (by show 2 * 0 + _ ≤ 8; omega) dg hroom) hS hgo
      show List.map (mi_v b bs) (As.reverse ++ rest) = _
      simp
    · refine mi_callk (va_runSN (As := As.map (mi_v b bs)) (rest := rest.map (mi_v b bs)) hfx hM ⟨va_cnB n hts hG rfl rfl rfl (hK.2.1 _ hl) (hts _ hMok.2.2.1) hd hR2, hts _ hstt, trivial⟩ ⟨mi_Pc.blind, hPc⟩ rfl hlen (by rw [hh.1]) ?_ (by show 2 * 0 + _ ≤ 8; omega) dg hroom) hS hgo
      show List.map (mi_v b bs) (As.reverse ++ rest) = _
      simp
end MI6
