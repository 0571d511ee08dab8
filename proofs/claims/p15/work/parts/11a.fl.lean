section FL
variable {LS : Nat} {xs : Nat → Int32} {k pc nx : Nat} {lo : mL} {st rest : List Value} {h : mH} {o o' : Option fS} {s : fS}
/-- a wrapper's call, with what a thrown exception answers -/
def fbh (hs : List (String × Int32)) (oc : Option ((Int32 ⊕ String) × fS)) (K : Int32 × fS → Option (Int32 × fS)) : Option (Int32 × fS) := oc.bind fun q => match q.1 with
  | .inl v => K (v, q.2)
  | .inr E => match hs.lookup E with
    | some n => some (n, q.2)
    | none => none
theorem fo_callH {t : mT} {C : mQ} {y n : Nat} {rk : Option Nat} {As : List Value} {hs : List (String × Int32)} {oc : Option ((Int32 ⊕ String) × fS)} {K : Int32 × fS → Option (Int32 × fS)} (hp : mi_fnd t pc = some (.inr (.inr (.inl (y, n, rk, hs))))) (hst : st = As.reverse ++ rest) (hn : As.length = n) (hsm : Nat.ble (rest.map (fun v => v.category)).sum 8 = true) (hrc : mi_rcv rk As h) (hth : mi_thr.contains y = true) (hc : ∀ r, oc = some r → C y As h (cvX r))
    (kk : ∀ r : Int32 × fS, fo cvI t LS xs C (pc + 3, lo, .int r.1 :: rest, enc r.2) (K r)) : fo cvI t LS xs C (pc, lo, st, h) (fbh hs oc K) := by
  intro r hr
  unfold fbh at hr
  cases ho : oc with
  | none => rw [ho] at hr; cases hr
  | some q =>
    rw [ho, Option.bind_some] at hr
    have hq := hc q ho
    obtain ⟨q1, q2⟩ := q
    cases q1 with
    | inl v =>
      obtain ⟨m, hm⟩ := kk (v, q2) r hr
      refine ⟨m + 1, ?_⟩
      unfold mi_run
      dsimp only
      rw [hp]
      exact ⟨As, rest, _, hst, hn, Nat.le_of_ble_eq_true hsm, hrc, hq, hm⟩
    | inr E =>
      dsimp only at hr
      cases hl : hs.lookup E with
      | none => rw [hl] at hr; cases hr
      | some m =>
        rw [hl] at hr
        cases hr
        refine ⟨1, ?_⟩
        unfold mi_run
        dsimp only
        rw [hp]
        refine ⟨As, rest, _, hst, hn, Nat.le_of_ble_eq_true hsm, hrc, hq, hth, ?_⟩
        show (match hs.lookup E with | some n => _ | none => _)
        rw [hl]
        rfl
theorem eg_out (s : fS) : (enc s)[109]? = some (.inr (.inr [gO s])) := rfl
theorem es_out (s : fS) (v : Int64) : (enc s).set 109 (.inr (.inr ([gO s].set 0 v))) = enc (sO s v) := rfl
theorem fo_last {α : Type} {t : mT} {C : mQ} {cv : α → mR × mH} {o : Option α} {x : Int64} (hp : mi_fnd t pc = some (.inl (mi_last nx))) (q : fo cv t LS xs C (nx, lo, rest, enc (sO s x)) o) : fo cv t LS xs C (pc, lo, .long x :: .int 0 :: .ref 109 :: rest, enc s) o :=
  fo_st hp (by
    simp only [mi_last, eg_out]
    have e : mi_in 0 ([gO s] : List Int64).length = true := (show mi_in 0 1 = true by decide)
    rw [if_pos e]
    rw [show (0 : Int32).toNatClampNeg = 0 by decide, es_out]) q
theorem mi_to_trans {t : mT} {wr : Nat → Bool} {al : Bool} {C : mQ} : ∀ (n : Nat) {m : Nat} {x y z : mS}, mi_to t wr al LS xs C n x y → mi_to t wr al LS xs C m y z → mi_to t wr al LS xs C (n + m) x z
  | 0, m, x, y, z, h1, h2 => by cases h1; rw [Nat.zero_add]; exact h2
  | n + 1, m, x, y, z, h1, h2 => by
    rw [show n + 1 + m = (n + m) + 1 by omega]
    unfold mi_to at h1 ⊢
    split at h1
    · next f hf =>
      obtain ⟨w, hw, hr⟩ := h1
      exact ⟨w, hw, mi_to_trans n hr h2⟩
    · next ca hf =>
      obtain ⟨hwr, As, rest, v, h9, a1, a2, a3, a4, a5, hr⟩ := h1
      exact ⟨hwr, As, rest, v, h9, a1, a2, a3, a4, a5, mi_to_trans n hr h2⟩
    · exact absurd h1 id
theorem lw_pre {d n : Nat} {x y : mS} (h1 : mi_to t_L_law mi_wr false LS xs (mi_call mi_ms false LS xs d) n x y) : ∀ {k : Nat}, mi_lw d LS xs k y → mi_lw d LS xs k x
  | 0, ⟨m, l, h, h2, h3⟩ => ⟨n + m, l, h, mi_to_trans n h1 h2, h3⟩
  | k + 1, .inl ⟨m, l, h, h2, h3⟩ => .inl ⟨n + m, l, h, mi_to_trans n h1 h2, h3⟩
  | k + 1, .inr ⟨m, p, l, As, rs, h, v, h9, y9, M, np, h2, h3⟩ => .inr ⟨n + m, p, l, As, rs, h, v, h9, y9, M, np, mi_to_trans n h1 h2, h3⟩
theorem lw_mono {d : Nat} : ∀ {k : Nat} {x : mS}, mi_lw d LS xs k x → mi_lw d LS xs (k + 1) x
  | 0, x, hx => .inl hx
  | k + 1, x, .inl hx => .inl hx
  | k + 1, x, .inr ⟨m, p, l, As, rs, h, v, h9, y9, M, np, a1, a2, a3, a4, a5, a6, a7, a8, a9, b1, b2, b3⟩ => .inr ⟨m, p, l, As, rs, h, v, h9, y9, M, np, a1, a2, a3, a4, a5, a6, a7, a8, a9, b1, b2, lw_mono b3⟩
/-- the law's program: it comes to its end with true -/
def fl (LS : Nat) (xs : Nat → Int32) (k : Nat) (x : mS) (o : Option fS) : Prop := ∀ r, o = some r → mi_lw 12 LS xs k x
theorem fl_none {x : mS} : fl LS xs k x none := fun r hr => by cases hr
theorem fl_mono {x : mS} (h : fl LS xs k x o) : fl LS xs (k + 1) x o := fun r hr => lw_mono (h r hr)
theorem fl_st {f : mF} {y : mS} (hp : mi_fnd t_L_law pc = some (.inl f)) (hf : f false LS xs lo st h = some y) (q : fl LS xs k y o) : fl LS xs k (pc, lo, st, h) o := fun r hr => by
  refine lw_pre (n := 1) ?_ (q r hr)
  unfold mi_to
  rw [hp]
  exact ⟨y, hf, rfl⟩
theorem fl_ck {c : Bool} {x : mS} (q : c = true → fl LS xs k x o) : fl LS xs k x (fchk c o) := fun r hr => by
  cases c with
  | false => cases hr
  | true => exact q rfl r hr
theorem fl_b {f : mF} {c : Bool} {tgt : Nat} (hp : mi_fnd t_L_law pc = some (.inl f)) (hf : f false LS xs lo st h = some (if c = true then tgt else nx, lo, rest, h)) (k1 : fl LS xs k (tgt, lo, rest, h) o) (k2 : fl LS xs k (nx, lo, rest, h) o') : fl LS xs k (pc, lo, st, h) (bif c then o else o') := by
  cases c with
  | true => exact fl_st hp hf k1
  | false => exact fl_st hp (by rw [hf]; rfl) k2
theorem fl_scr {i : Int32} {w : UInt32} (hp : mi_fnd t_L_law pc = some (.inl (mi_iald nx))) (q : fl LS xs k (nx, lo, .int (xs i.toNatClampNeg) :: rest, h) o) : fl LS xs k (pc, lo, .int i :: .float w :: rest, h) (fchk (mi_in i LS) o) :=
  fl_ck fun hc => fl_st hp (by simp only [mi_iald, hc, if_true]) q
theorem fl_lald (hp : mi_fnd t_L_law pc = some (.inl (mi_lald nx))) (q : fl LS xs k (nx, lo, .long (gO s) :: rest, enc s) o) : fl LS xs k (pc, lo, .int 0 :: .ref 109 :: rest, enc s) o :=
  fl_st hp (by
    simp only [mi_lald, eg_out]
    have e : mi_in 0 ([gO s] : List Int64).length = true := (show mi_in 0 1 = true by decide)
    rw [if_pos e]
    rfl) q
theorem fl_sw {tb : Int32 → Nat} {x : Int32} (hp : mi_fnd t_L_law pc = some (.inl (mi_sw tb))) (q : fl LS xs k (tb x, lo, rest, h) o) : fl LS xs k (pc, lo, .int x :: rest, h) o := fl_st hp rfl q
theorem fl_lk {e : Int} {t1 d : Nat} {ps : List (Int × Nat)} {x : Int32} (k1 : fl LS xs k (t1, lo, rest, h) o) (k2 : fl LS xs k (mi_look ps d x, lo, rest, h) o') : fl LS xs k (mi_look ((e, t1) :: ps) d x, lo, rest, h) (bif decide (x.toInt = e) then o else o') := by
  unfold mi_look
  by_cases hx : x.toInt = e
  · rw [if_pos hx, decide_eq_true hx]; exact k1
  · rw [if_neg hx, decide_eq_false hx]; exact k2
theorem fl_tab {l0 h0 : Int} {ts : List Nat} {d : Nat} {x : Int32} (hp : mi_fnd t_L_law pc = some (.inl (mi_sw (mi_tab l0 h0 ts d)))) (hh : h0 = l0 + (ts.length : Int) - 1) (q : fl LS xs k (mi_look (mi_lks l0 ts) d x, lo, rest, h) o) : fl LS xs k (pc, lo, .int x :: rest, h) o := by
  refine fl_sw hp ?_
  rw [mi_lks_ok] at q
  unfold mi_tab
  rw [hh]
  exact q
theorem fl_std {i : Nat} {v : Value} {d : Option Value} {lo' : mL} {f : mF} (hp : mi_fnd t_L_law pc = some (.inl f)) (hf : f false LS xs lo (v :: rest) h = (match mi_st lo i v with | some lo' => some (nx, lo', rest, h) | none => none)) (h1 : lo[i]? = some d) (h2 : mi_st (lo.set i none) i v = some lo') (h3 : lo.set i (some v) = lo') (q : fl LS xs k (nx, lo', rest, h) o) : fl LS xs k (pc, lo, v :: rest, h) o := by
  have key : mi_st lo i v = some lo' := by
    have hi : i < lo.length := (List.getElem?_eq_some_iff.mp h1).1
    cases d with
    | some w => unfold mi_st; rw [h1]; simp only; rw [h3]
    | none =>
      have e : lo.set i none = lo := by
        apply List.ext_getElem?
        intro j
        by_cases hj : j = i
        · subst hj; rw [List.getElem?_set_self hi, h1]
        · rw [List.getElem?_set_ne (Ne.symm hj)]
      rw [e] at h2
      exact h2
  exact fl_st hp (by rw [hf, key]) q
theorem fl_callI {y n : Nat} {rk : Option Nat} {As : List Value} {oc : Option (Int32 × fS)} {K : Int32 × fS → Option fS} (hp : mi_fnd t_L_law pc = some (.inr (.inr (.inl (y, n, rk, []))))) (hw : mi_wr y = false) (hst : st = As.reverse ++ rest) (hn : As.length = n) (hs : Nat.ble (rest.map (fun v => v.category)).sum 8 = true) (hrc : mi_rcv rk As h) (hc : ∀ r, oc = some r → mi_call mi_ms false LS xs 12 y As h (cvI r))
    (kk : ∀ r : Int32 × fS, fl LS xs k (pc + 3, lo, .int r.1 :: rest, enc r.2) (K r)) : fl LS xs k (pc, lo, st, h) (oc.bind K) := fun r hr => by
  cases ho : oc with
  | none => rw [ho] at hr; cases hr
  | some q =>
    rw [ho, Option.bind_some] at hr
    refine lw_pre (n := 1) ?_ (kk q r hr)
    unfold mi_to
    rw [hp]
    exact ⟨hw, As, rest, some (.int q.1), enc q.2, hst, hn, Nat.le_of_ble_eq_true hs, hrc, hc q ho, rfl⟩
def zok (s : fS) : Bool := Nat.beq (mi_z (enc s)) 26353
theorem zok_eq {s : fS} (h : zok s = true) : mi_z (enc s) = 26353 := Nat.eq_of_beq_eq_true h
theorem enc_len (s : fS) : (enc s).length = 110 := rfl
theorem fl_wcall {y n : Nat} {M : mD} {As : List Value} {oc : Option (Int32 × fS)} {K : Int32 × fS → Option fS} (hM : mi_ms[y]? = some M) (hW : mi_wok M) (hV : mi_OkV RL cL_law pc M n) (hst : st = As.reverse ++ rest) (hn : As.length = n) (hs : Nat.ble (rest.map (fun v => v.category)).sum 8 = true) (hc : ∀ r, oc = some r → mi_call mi_ms false LS xs 12 y As (enc s) (cvI r))
    (kk : ∀ r : Int32 × fS, fl LS xs k (pc + 3, lo, .int r.1 :: rest, enc r.2) (K r)) : fl LS xs (k + 1) (pc, lo, st, enc s) (fchk (zok s) (oc.bind fun q => fchk (zok q.2) (K q))) := by
  refine fl_ck fun hz => fun r hr => ?_
  cases ho : oc with
  | none => rw [ho] at hr; cases hr
  | some q =>
    rw [ho, Option.bind_some] at hr
    cases hq : zok q.2 with
    | false => rw [hq] at hr; cases hr
    | true =>
      rw [hq] at hr
      have z1 : mi_z (enc s) = 26353 := Nat.eq_of_beq_eq_true hz
      have z2 : mi_z (enc q.2) = 26353 := Nat.eq_of_beq_eq_true hq
      refine .inr ⟨0, pc, lo, As, rest, enc s, some (.int q.1), enc q.2, y, M, n, by rw [hst]; rfl, by rw [enc_len]; decide, by rw [z1]; decide, hM, hW, hV, hn, Nat.le_of_ble_eq_true hs, hc q ho, by rw [enc_len, enc_len], by rw [z1, z2], kk q r hr⟩
theorem fl_end : fl LS xs k (632, lo, [.int 1], enc s) (fchk (zok s) (some s)) := by
  refine fl_ck fun hz => fun r hr => ?_
  have z1 : mi_z (enc s) = 26353 := Nat.eq_of_beq_eq_true hz
  have hE : ∃ n lo' h, mi_to t_L_law mi_wr false LS xs (mi_call mi_ms false LS xs 12) n (632, lo, [.int 1], enc s) (632, lo', [.int 1], h) ∧ h.length ≤ 1000 ∧ mi_z h ≤ 1000000 := ⟨0, lo, enc s, rfl, by rw [enc_len]; decide, by rw [z1]; decide⟩
  cases k with
  | zero => exact hE
  | succ k => exact .inl hE
end FL
