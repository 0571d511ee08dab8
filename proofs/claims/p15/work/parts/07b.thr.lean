/-! METHODS THAT THROW: the small machine says which class; the heap stays. -/
section CE2
variable {p : Program} {l : Launch} {e : Env} {R : Room} {s : State} {m : MethodId} {args : Array Value} {below : List Frame} {meth : Method} {c : Code} {H : Heap} {locs : List Loc} {cells slots : Nat} {Q : State → Prop}
variable {b bs : Nat} {cI cL : ClassId} {D : va_G} {LS : Nat} {xs : Nat → Int32} {own : String} {cc : ByteArray} {nL : Nat} {ini : Bool}
def mi_XC (b bs : Nat) (cI cL : ClassId) (D : va_G) (E0 : String) (h : mH) : String → State → State → Prop := fun E st t => E = E0 ∧ mi_R b bs cI cL D h t.heap ∧ va_F (fun q => b ≤ q) st t
def mi_none : Array Value → State → Outcome → State → Prop := fun _ _ _ _ => False
def mi_rmX (d : Nat) : Room := { frames := d + 6, cells := 1, slots := 8, locals := 40 * d + 200 }
/-- a place where the class throws: what the machine does there -/
def mi_OkT (own : String) (cc : ByteArray) (nL pc : Nat) (E : String) : Prop :=
  ∀ (b bs : Nat) (cI cL : ClassId) (D : va_G) (LS : Nat) (xs : Nat → Int32) (p : Program) (l : Launch) (e : Env) (d : Nat) (s : State) (m : MethodId) (args : Array Value) (below : List Frame) (meth : Method) (c : Code) (ini : Bool) (H : Heap) (locs : List Loc) (ls : Array Slot) (h : mH),
    mi_X b bs cI cL D LS xs own cc nL ini p l (mi_rmX (d + 1)) s m args meth c → (∀ x ∈ c.exceptionTable.toList, False) → mi_R b bs cI cL D h H → ls.size = nL → va_S (fun q => b ≤ q) s.heap H locs →
    W p l e (mi_rmX (d + 1)) s m args below meth c H locs 0 0 (vx_MQ below mi_none (mi_XC b bs cI cL D E h) args s 1 8 (fun q => b ≤ q)) (F0 m pc ls [])
/-- behind a call that threw -/
theorem mi_thrk {mc ms pc : Nat} {ls : Array Slot} {st0 rest : List Value} {E : String} {h1 : mH} (hr : vx_Run p l e R s m args below meth c H locs cells slots mc ms (F0 m pc ls st0) rest (mi_none args) (mi_XC b bs cI cL D E h1) (fun q => b ≤ q)) (hS : va_S (fun q => b ≤ q) s.heap H locs)
    (kx : ∀ (q : Addr) (ce : Cell) (H1 : Heap) (locs1 : List Loc), mi_R b bs cI cL D h1 H1 → va_S (fun q => b ≤ q) s.heap H1 locs1 → H1[q]? = some ce → ce.vm = .none → s.vm.findClass E = some ce.cls → vx_W p l e R s m args below meth c H1 locs1 (cells + mc) (slots + ms) Q (F0 m pc ls rest) q) : W p l e R s m args below meth c H locs cells slots Q (F0 m pc ls st0) := by
  intro T hT X
  rcases hr T hT X with ⟨v, st₀, t, T', L, h0, X', hL, e1, e2, hQ, st⟩ | ⟨q, st₀, t, T', L, E1, ce, h0, X', hL, e1, e2, ⟨rfl, hb, hz, hk⟩, hce, hcv, hcl, st⟩
  · exact absurd hQ id
  · rw [h0] at hz hk
    obtain ⟨t2, a1, b1⟩ := kx q ce T'.heap (locs ++ L) (by rw [e1]; exact hb)
      ⟨Nat.le_trans hS.1 (by rw [e1]; exact hz), fun q h1 h2 => by rw [e1, hk q (Nat.lt_of_lt_of_le h1 hS.1) h2]; exact hS.2.1 q h1 h2, fun q hq => by
        rcases List.mem_append.mp hq with h | h
        · exact hS.2.2 q h
        · exact hL q h⟩ (by rw [e1]; exact hce) hcv hcl T' rfl X'
    exact ⟨t2, st.trans a1, b1⟩
/-- a call at its site, of a method that throws -/
theorem mi_callT {Ms : List mD} {pc d : Nat} {ca : mA} {M : mD} {As rest : List Value} {h : mH} {E : String} {lo : mL} {ls : Array Slot}
    (X : mi_X b bs cI cL D LS xs own cc nL ini p l R s m args meth c) (hC : mi_OkC Ms own cc pc ca) (hMs : Ms[ca.1]? = some M) (hsp : M.1.name ≠ "<init>") (hnn : ∀ index host, decode cc pc = .ok (.invokestatic index, 3) → Cond.methodLinkNest own index M.1 host ∉ mi_nw)
    (hM : vx_Met l M.1 (mi_ws M) (mi_rmX d) (mi_Pc false b bs cI cL D LS xs As h) mi_none (mi_XC b bs cI cL D E h) 1 8 (fun q => b ≤ q))
    (hA : As.length = ca.2.1) (hr : (rest.map (fun v => v.category)).sum ≤ 8) (hrc : mi_rcv ca.2.2.1 As h) (hf : d + 7 ≤ R.frames) (hlo : 40 * (d + 1) + 200 ≤ R.locals)
    (hcl : cells + 1 ≤ R.cells) (hsl : slots + 8 ≤ R.slots) (hR : mi_R b bs cI cL D h H) (hh : mi_has b bs ls nL lo) (hS : va_S (fun q => b ≤ q) s.heap H locs)
    (kk : ∀ (q : Addr) (ce : Cell) (H1 : Heap) (locs1 : List Loc), mi_R b bs cI cL D h H1 → va_S (fun q => b ≤ q) s.heap H1 locs1 → H1[q]? = some ce → ce.vm = .none → s.vm.findClass E = some ce.cls → vx_W p l e R s m args below meth c H1 locs1 (cells + 1) (slots + 8) Q (F0 m pc ls (rest.map (mi_v b bs))) q) : W p l e R s m args below meth c H locs cells slots Q (F0 m pc ls ((As.reverse ++ rest).map (mi_v b bs))) := by
  obtain ⟨M', hM', hMok, index, n, hpar, hcase⟩ := hC
  cases hMs.symm.trans hM'
  obtain ⟨hx, hb, hml, hown, hts, hK, hbs, hnm, hlk, hfr1, hlo1, hst⟩ := X
  have hPc : ∀ U : State, U.heap = H → s.WarmedH U.vm → mi_Pc false b bs cI cL D LS xs As h (As.map (mi_v b bs)).toArray U := fun U hU hW => ⟨rfl, by rw [hU]; exact hR, hK.warm hS hU hW, by rw [hU]; exact Nat.le_trans hbs hS.1, fun ha => by cases ha⟩
  have hG := mi_goodIn hMok
  have hR2 : (mi_rmX d).frames + 1 ≤ R.frames ∧ 8 + (M.2.2.1 + 11) + (mi_rmX d).locals ≤ R.locals := by
    have := hMok.2.2.2.1
    exact ⟨by show d + 6 + 1 ≤ _; omega, by show 8 + (M.2.2.1 + 11) + (40 * d + 200) ≤ _; omega⟩
  have hfx : CallFix p m c cc nL s args mi_good own := ⟨hx, hb, hml, hown, hts⟩
  have hd : M.1.cls ≠ "java/lang/invoke/MethodHandle" ∧ M.1.cls ≠ "java/lang/invoke/VarHandle" ∧ (parseMethodDescriptor M.1.desc).map (fun d => d.parameters.length) = some n := ⟨hMok.2.2.2.2.1, hMok.2.2.2.2.2, hpar⟩
  have hsum : ((rest.map (mi_v b bs)).map (fun v => v.category)).sum ≤ 8 := by rw [mi_sum]; exact hr
  rcases hcase with ⟨dg, hcn, hl, hin, hsel, ci, T, N, hci, hcl0⟩ | ⟨dg, hcn, hl, hin, hyn, hret, ci, hci⟩ | ⟨dg, hcn, hstt, hl⟩
  · rw [hci] at hrc
    obtain ⟨a, fs, ha, hfs⟩ := hrc
    cases As with
    | nil => cases ha
    | cons w As2 =>
      simp only [List.head?_cons, Option.some.injEq] at ha
      subst ha
      have hlen : (As2.map (mi_v b bs)).length = n := by simp at hA ⊢; omega
      refine mi_thrk (vx_runV (As := As2.map (mi_v b bs)) (rest := rest.map (mi_v b bs)) (b := b + a) hfx hM ⟨callB_of n hts hG rfl rfl rfl (hts _ hMok.2.2.1) (hts _ hl) hd hR2, hts _ hin, hts _ hsel⟩ ⟨mi_Pc.blind, va_recv hK.1 hR hcl0 (mi_at hfs), hPc⟩ rfl hlen (by rw [hh.1]) ?_ (by show 2 * 0 + _ ≤ 8; omega) dg ⟨hcl, hsl⟩) hS kk
      show List.map (mi_v b bs) ((Value.ref a :: As2).reverse ++ rest) = _
      simp [mi_v]
  · exact absurd hyn hsp
  · have hlen : (As.map (mi_v b bs)).length = n := by simp at hA ⊢; omega
    rcases hl with hl | ⟨host, hl⟩
    · refine mi_thrk (vx_runS (As := As.map (mi_v b bs)) (rest := rest.map (mi_v b bs)) hfx hM ⟨callB_of n hts hG rfl rfl rfl (hts _ hMok.2.2.1) (hts _ hl) hd hR2, hts _ hstt⟩ ⟨mi_Pc.blind, hPc⟩ rfl hlen (by rw [hh.1]) ?_ (by show 2 * 0 + _ ≤ 8; omega) dg ⟨hcl, hsl⟩) hS kk
      show List.map (mi_v b bs) (As.reverse ++ rest) = _
      simp
    · exact absurd hl (hnn index host dg)
end CE2
