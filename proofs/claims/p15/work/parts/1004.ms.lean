section FM4
def f_X2_readText_78 (b2 : Bool)  (l3 : Int32) (l4 : Int32) (s : fS) : Option (Int32 × fS) := ((f_X1_settleKinds (gP2 s) s).bind fun qx1 => ((f_X2_countIsTrue qx1).bind fun qx2 => fchk (fbl qx2.1) (some (qx2.1, qx2.2))))
theorem g_X2_readText_78 (LS : Nat) (xs : Nat → Int32) (d : Nat) (hd : 6 ≤ d) (b2 : Bool)    (l3 : Int32) (l4 : Int32)  (s : fS) : fo cvI t_X2_readText LS xs (mi_call mi_ms false LS xs d) (78, [some (.ref 80), some (.ref 1), some (.ref (gadr b2)), some (.int l3), some (.int l4)], [], enc s) (f_X2_readText_78 b2 l3 l4 s) := by
  unfold f_X2_readText_78
  refine fo_st rfl rfl ?_
  refine fo_get rfl (eg_2 _) rfl ?_
  refine fo_callV (As := [.ref (gadr (gP2 s))]) (rest := []) rfl rfl rfl rfl (mi_rcv_of (eg_gr _ _)) (c_X1_settleKinds LS xs d (by omega) _ _) (fun qx1 => ?_)
  refine fo_st rfl rfl ?_
  refine fo_callI (As := [.ref 80]) (rest := []) rfl rfl rfl rfl (mi_rcv_of (eg_2 _)) (c_X2_countIsTrue LS xs d (by omega)  _) (fun qx2 => ?_)
  exact fo_ret2 rfl rfl
def f_X2_readText_38 (b2 : Bool)  : Nat → Int32 → Int32 → fS → Option (Int32 × fS)
  | 0, _, _, _ => none
  | n + 1, l3, l4, s => (bif decide ((600 : Int32) ≤ l4) then f_X2_readText_78 b2 l3 l4 s else ((f_X0_hasLine s).bind fun qx1 => (bif decide (qx1.1 = 0) then f_X2_readText_78 b2 l3 l4 qx1.2 else ((f_X2_readLine qx1.2).bind fun qx2 => (bif decide (¬ qx2.1 = 0) then ((f_X0_nextLine qx2.2).bind fun qx3 => f_X2_readText_38 b2 n l3 (l4 + Int32.ofInt (1)) qx3) else some ((0 : Int32), qx2.2))))))
theorem g_X2_readText_38 (LS : Nat) (xs : Nat → Int32) (d : Nat) (hd : 6 ≤ d) (b2 : Bool)    (n : Nat) : ∀ (l3 : Int32) (l4 : Int32) (s : fS), fo cvI t_X2_readText LS xs (mi_call mi_ms false LS xs d) (38, [some (.ref 80), some (.ref 1), some (.ref (gadr b2)), some (.int l3), some (.int l4)], [], enc s) (f_X2_readText_38 b2 n l3 l4 s) := by
  induction n with
  | zero => intro l3 l4 s; exact fo_none
  | succ n ih =>
    intro l3 l4 s
    rw [f_X2_readText_38]
    refine fo_st rfl rfl ?_
    refine fo_st rfl rfl ?_
    refine fo_b rfl rfl ?_ ?_
    · exact g_X2_readText_78 LS xs d hd b2 _ _ _
    · refine fo_st rfl rfl ?_
      refine fo_get rfl (eg_2 _) rfl ?_
      refine fo_callI (As := [.ref 81]) (rest := []) rfl rfl rfl rfl (mi_rcv_of (eg_0 _)) (c_X0_hasLine LS xs d (by omega)  _) (fun qx1 => ?_)
      refine fo_b rfl rfl ?_ ?_
      · exact g_X2_readText_78 LS xs d hd b2 _ _ _
      · refine fo_st rfl rfl ?_
        refine fo_callI (As := [.ref 80]) (rest := []) rfl rfl rfl rfl (mi_rcv_of (eg_2 _)) (c_X2_readLine LS xs d (by omega)  _) (fun qx2 => ?_)
        refine fo_b rfl rfl ?_ ?_
        · refine fo_st rfl rfl ?_
          refine fo_get rfl (eg_2 _) rfl ?_
          refine fo_callV (As := [.ref 81]) (rest := []) rfl rfl rfl rfl (mi_rcv_of (eg_0 _)) (c_X0_nextLine LS xs d (by omega)  _) (fun qx3 => ?_)
          refine fo_st rfl rfl ?_
          refine fo_st rfl rfl ?_
          exact ih _ _ _
        · refine fo_st rfl rfl ?_
          exact fo_ret rfl rfl rfl
def f_X2_readText_0 (b2 : Bool)  (l3 : Int32) (s : fS) : Option (Int32 × fS) := ((f_X0_start s).bind fun qx1 => ((f_X1_clear b2 (sP2 qx1 b2)).bind fun qx2 => f_X2_readText_38 b2 fuel l3 (0 : Int32) (sI (sI (sI qx2 80 2 l3) 80 3 (0 : Int32)) 80 4 (0 : Int32))))
theorem g_X2_readText_0 (LS : Nat) (xs : Nat → Int32) (d : Nat) (hd : 6 ≤ d) (b2 : Bool)    (l3 : Int32)  (s : fS) : fo cvI t_X2_readText LS xs (mi_call mi_ms false LS xs d) (0, [some (.ref 80), some (.ref 1), some (.ref (gadr b2)), some (.int l3), none], [], enc s) (f_X2_readText_0 b2 l3 s) := by
  unfold f_X2_readText_0
  refine fo_st rfl rfl ?_
  refine fo_get rfl (eg_2 _) rfl ?_
  refine fo_st rfl rfl ?_
  refine fo_callV (As := [.ref 81, .ref 1]) (rest := []) rfl rfl rfl rfl (mi_rcv_of (eg_0 _)) (c_X0_start LS xs d (by omega)  _) (fun qx1 => ?_)
  refine fo_st rfl rfl ?_
  refine fo_st rfl rfl ?_
  refine fo_put rfl (eg_2 _) rfl rfl (es_2_1 _ _) ?_
  refine fo_st rfl rfl ?_
  refine fo_get rfl (eg_2 _) rfl ?_
  refine fo_callV (As := [.ref (gadr b2)]) (rest := []) rfl rfl rfl rfl (mi_rcv_of (eg_gr _ _)) (c_X1_clear LS xs d (by omega) _ _) (fun qx2 => ?_)
  refine fo_st rfl rfl ?_
  refine fo_st rfl rfl ?_
  refine fo_put rfl (eg_2 _) rfl rfl (es_2_2 _ _) ?_
  refine fo_st rfl rfl ?_
  refine fo_st rfl rfl ?_
  refine fo_put rfl (eg_2 _) rfl rfl (es_2_3 _ _) ?_
  refine fo_st rfl rfl ?_
  refine fo_st rfl rfl ?_
  refine fo_put rfl (eg_2 _) rfl rfl (es_2_4 _ _) ?_
  refine fo_st rfl rfl ?_
  refine fo_st rfl rfl ?_
  exact g_X2_readText_38 LS xs d hd b2 fuel _ _ _
def f_X2_readText (b2 : Bool) (l3 : Int32) (s : fS) : Option (Int32 × fS) := f_X2_readText_0 b2 l3 s
theorem c_X2_readText (LS : Nat) (xs : Nat → Int32) (d : Nat) (hd : 7 ≤ d) (b2 : Bool) (l3 : Int32)  (s : fS) : fm mi_ms cvI LS xs d 23 [.ref 80, .ref 1, .ref (gadr b2), .int l3] (enc s) (f_X2_readText b2 l3 s) := by
  obtain ⟨e, rfl⟩ : ∃ e, d = e + 1 := ⟨d - 1, by omega⟩
  exact fm_of (M := m_X2_readText) rfl rfl (fun _ => ⟨_, rfl⟩) (g_X2_readText_0 LS xs e (by omega) b2 l3 s)
def f_X4_lengthOf_0 (a0 : Nat)  (l1 : Int32) (s : fS) : Option (Int32 × fS) := ((f_X3_at (a0 + 3) l1 s).bind fun qx1 => some (qx1.1, qx1.2))
theorem g_X4_lengthOf_0 (LS : Nat) (xs : Nat → Int32) (d : Nat) (hd : 1 ≤ d) (a0 : Nat) (h0 : isSp a0 = true)   (l1 : Int32)  (s : fS) : fo cvI t_X4_lengthOf LS xs (mi_call mi_ms false LS xs d) (0, [some (.ref a0), some (.int l1)], [], enc s) (f_X4_lengthOf_0 a0 l1 s) := by
  unfold f_X4_lengthOf_0
  refine fo_st rfl rfl ?_
  refine fo_get rfl (eg_sp _ h0) rfl ?_
  refine fo_st rfl rfl ?_
  refine fo_callI (As := [.ref (a0 + 3), .int l1]) (rest := []) rfl rfl rfl rfl (mi_rcv_of (eg_row _ (sp_ln h0))) (c_X3_at LS xs d (by omega) _ _ (sp_ln h0) _) (fun qx1 => ?_)
  exact fo_ret rfl rfl rfl
def f_X4_lengthOf (a0 : Nat) (l1 : Int32) (s : fS) : Option (Int32 × fS) := f_X4_lengthOf_0 a0 l1 s
theorem c_X4_lengthOf (LS : Nat) (xs : Nat → Int32) (d : Nat) (hd : 2 ≤ d) (a0 : Nat) (l1 : Int32) (h0 : isSp a0 = true) (s : fS) : fm mi_ms cvI LS xs d 58 [.ref a0, .int l1] (enc s) (f_X4_lengthOf a0 l1 s) := by
  obtain ⟨e, rfl⟩ : ∃ e, d = e + 1 := ⟨d - 1, by omega⟩
  exact fm_of (M := m_X4_lengthOf) rfl rfl (fun _ => ⟨_, rfl⟩) (g_X4_lengthOf_0 LS xs e (by omega) a0 h0 l1 s)
theorem p_X4_lengthOf_0 (a0 : Nat)   (l1 : Int32) (s : fS) : pu s (f_X4_lengthOf_0 a0 l1 s) := by
  unfold f_X4_lengthOf_0
  refine pu_bind (p_X3_at _ _ _) (fun v => ?_)
  exact pu_some rfl
theorem p_X4_lengthOf (a0 : Nat) (l1 : Int32) (s : fS) : pu s (f_X4_lengthOf a0 l1 s) := p_X4_lengthOf_0 a0 l1 s
def f_X4_signAt_37 (a0 : Nat)  (l1 : Int32) (l2 : Int32) (t0 : Int32) (s : fS) : Option (Int32 × fS) := some (t0, s)
theorem g_X4_signAt_37 (LS : Nat) (xs : Nat → Int32) (d : Nat) (hd : 1 ≤ d) (a0 : Nat) (h0 : isSp a0 = true)   (l1 : Int32) (l2 : Int32) (t0 : Int32)  (s : fS) : fo cvI t_X4_signAt LS xs (mi_call mi_ms false LS xs d) (37, [some (.ref a0), some (.int l1), some (.int l2)], [.int t0], enc s) (f_X4_signAt_37 a0 l1 l2 t0 s) := by
  unfold f_X4_signAt_37
  exact fo_ret rfl rfl rfl
def f_X4_signAt_36 (a0 : Nat)  (l1 : Int32) (l2 : Int32) (s : fS) : Option (Int32 × fS) := f_X4_signAt_37 a0 l1 l2 (-1 : Int32) s
theorem g_X4_signAt_36 (LS : Nat) (xs : Nat → Int32) (d : Nat) (hd : 1 ≤ d) (a0 : Nat) (h0 : isSp a0 = true)   (l1 : Int32) (l2 : Int32)  (s : fS) : fo cvI t_X4_signAt LS xs (mi_call mi_ms false LS xs d) (36, [some (.ref a0), some (.int l1), some (.int l2)], [], enc s) (f_X4_signAt_36 a0 l1 l2 s) := by
  unfold f_X4_signAt_36
  refine fo_st rfl rfl ?_
  exact g_X4_signAt_37 LS xs d hd a0 h0 _ _ _ _
def f_X4_signAt_0 (a0 : Nat)  (l1 : Int32) (l2 : Int32) (s : fS) : Option (Int32 × fS) := (bif decide (l2 < 0) then f_X4_signAt_36 a0 l1 l2 s else ((f_X3_at (a0 + 3) l1 s).bind fun qx1 => (bif decide (qx1.1 ≤ l2) then f_X4_signAt_36 a0 l1 l2 qx1.2 else ((f_X3_at (a0 + 1) l1 qx1.2).bind fun qx2 => ((f_X3_at (sgn a0) (qx2.1 + l2) qx2.2).bind fun qx3 => f_X4_signAt_37 a0 l1 l2 qx3.1 qx3.2)))))
theorem g_X4_signAt_0 (LS : Nat) (xs : Nat → Int32) (d : Nat) (hd : 1 ≤ d) (a0 : Nat) (h0 : isSp a0 = true)   (l1 : Int32) (l2 : Int32)  (s : fS) : fo cvI t_X4_signAt LS xs (mi_call mi_ms false LS xs d) (0, [some (.ref a0), some (.int l1), some (.int l2)], [], enc s) (f_X4_signAt_0 a0 l1 l2 s) := by
  unfold f_X4_signAt_0
  refine fo_st rfl rfl ?_
  refine fo_b rfl rfl ?_ ?_
  · exact g_X4_signAt_36 LS xs d hd a0 h0 _ _ _
  · refine fo_st rfl rfl ?_
    refine fo_st rfl rfl ?_
    refine fo_get rfl (eg_sp _ h0) rfl ?_
    refine fo_st rfl rfl ?_
    refine fo_callI (As := [.ref (a0 + 3), .int l1]) (rest := [.int l2]) rfl rfl rfl rfl (mi_rcv_of (eg_row _ (sp_ln h0))) (c_X3_at LS xs d (by omega) _ _ (sp_ln h0) _) (fun qx1 => ?_)
    refine fo_b rfl rfl ?_ ?_
    · exact g_X4_signAt_36 LS xs d hd a0 h0 _ _ _
    · refine fo_st rfl rfl ?_
      refine fo_get rfl (eg_sp _ h0) rfl ?_
      refine fo_st rfl rfl ?_
      refine fo_get rfl (eg_sp _ h0) rfl ?_
      refine fo_st rfl rfl ?_
      refine fo_callI (As := [.ref (a0 + 1), .int l1]) (rest := [.ref (sgn a0)]) rfl rfl rfl rfl (mi_rcv_of (eg_row _ (sp_st h0))) (c_X3_at LS xs d (by omega) _ _ (sp_st h0) _) (fun qx2 => ?_)
      refine fo_st rfl rfl ?_
      refine fo_st rfl rfl ?_
      refine fo_callI (As := [.ref (sgn a0), .int (qx2.1 + l2)]) (rest := []) rfl rfl rfl rfl (mi_rcv_of (eg_row _ (sp_sg h0))) (c_X3_at LS xs d (by omega) _ _ (sp_sg h0) _) (fun qx3 => ?_)
      refine fo_st rfl rfl ?_
      exact g_X4_signAt_37 LS xs d hd a0 h0 _ _ _ _
def f_X4_signAt (a0 : Nat) (l1 : Int32) (l2 : Int32) (s : fS) : Option (Int32 × fS) := f_X4_signAt_0 a0 l1 l2 s
theorem c_X4_signAt (LS : Nat) (xs : Nat → Int32) (d : Nat) (hd : 2 ≤ d) (a0 : Nat) (l1 : Int32) (l2 : Int32) (h0 : isSp a0 = true) (s : fS) : fm mi_ms cvI LS xs d 59 [.ref a0, .int l1, .int l2] (enc s) (f_X4_signAt a0 l1 l2 s) := by
  obtain ⟨e, rfl⟩ : ∃ e, d = e + 1 := ⟨d - 1, by omega⟩
  exact fm_of (M := m_X4_signAt) rfl rfl (fun _ => ⟨_, rfl⟩) (g_X4_signAt_0 LS xs e (by omega) a0 h0 l1 l2 s)
theorem p_X4_signAt_37 (a0 : Nat)   (l1 : Int32) (l2 : Int32) (t0 : Int32) (s : fS) : pu s (f_X4_signAt_37 a0 l1 l2 t0 s) := by
  unfold f_X4_signAt_37
  exact pu_some rfl
theorem p_X4_signAt_36 (a0 : Nat)   (l1 : Int32) (l2 : Int32) (s : fS) : pu s (f_X4_signAt_36 a0 l1 l2 s) := by
  unfold f_X4_signAt_36
  exact p_X4_signAt_37 a0 _ _ _ _
theorem p_X4_signAt_0 (a0 : Nat)   (l1 : Int32) (l2 : Int32) (s : fS) : pu s (f_X4_signAt_0 a0 l1 l2 s) := by
  unfold f_X4_signAt_0
  refine pu_b ?_ ?_
  · exact p_X4_signAt_36 a0 _ _ _
  · refine pu_bind (p_X3_at _ _ _) (fun v => ?_)
    refine pu_b ?_ ?_
    · exact p_X4_signAt_36 a0 _ _ _
    · refine pu_bind (p_X3_at _ _ _) (fun v => ?_)
      refine pu_bind (p_X3_at _ _ _) (fun v => ?_)
      exact p_X4_signAt_37 a0 _ _ _ _
theorem p_X4_signAt (a0 : Nat) (l1 : Int32) (l2 : Int32) (s : fS) : pu s (f_X4_signAt a0 l1 l2 s) := p_X4_signAt_0 a0 l1 l2 s
def f_X4_isPlainName_2 (a0 : Nat)  : Nat → Int32 → Int32 → fS → Option (Int32 × fS)
  | 0, _, _, _ => none
  | n + 1, l1, l2, s => ((f_X4_lengthOf a0 l1 s).bind fun qx1 => (bif decide (qx1.1 ≤ l2) then some ((1 : Int32), qx1.2) else ((f_X4_signAt a0 l1 l2 qx1.2).bind fun qx2 => ((f_X6_isPlain qx2.1 qx2.2).bind fun qx3 => (bif decide (¬ qx3.1 = 0) then f_X4_isPlainName_2 a0 n l1 (l2 + Int32.ofInt (1)) qx3.2 else some ((0 : Int32), qx3.2))))))
theorem g_X4_isPlainName_2 (LS : Nat) (xs : Nat → Int32) (d : Nat) (hd : 2 ≤ d) (a0 : Nat) (h0 : isSp a0 = true)   (n : Nat) : ∀ (l1 : Int32) (l2 : Int32) (s : fS), fo cvI t_X4_isPlainName LS xs (mi_call mi_ms false LS xs d) (2, [some (.ref a0), some (.int l1), some (.int l2)], [], enc s) (f_X4_isPlainName_2 a0 n l1 l2 s) := by
  induction n with
  | zero => intro l1 l2 s; exact fo_none
  | succ n ih =>
    intro l1 l2 s
    rw [f_X4_isPlainName_2]
    refine fo_st rfl rfl ?_
    refine fo_st rfl rfl ?_
    refine fo_st rfl rfl ?_
    refine fo_callI (As := [.ref a0, .int l1]) (rest := [.int l2]) rfl rfl rfl rfl (mi_rcv_of (eg_sp _ h0)) (c_X4_lengthOf LS xs d (by omega) _ _ h0 _) (fun qx1 => ?_)
    refine fo_b rfl rfl ?_ ?_
    · refine fo_st rfl rfl ?_
      exact fo_ret rfl rfl rfl
    · refine fo_st rfl rfl ?_
      refine fo_st rfl rfl ?_
      refine fo_st rfl rfl ?_
      refine fo_callI (As := [.ref a0, .int l1, .int l2]) (rest := []) rfl rfl rfl rfl (mi_rcv_of (eg_sp _ h0)) (c_X4_signAt LS xs d (by omega) _ _ _ h0 _) (fun qx2 => ?_)
      refine fo_callI (As := [.int qx2.1]) (rest := []) rfl rfl rfl rfl True.intro (c_X6_isPlain LS xs d (by omega) _ _) (fun qx3 => ?_)
      refine fo_b rfl rfl ?_ ?_
      · refine fo_st rfl rfl ?_
        refine fo_st rfl rfl ?_
        exact ih _ _ _
      · refine fo_st rfl rfl ?_
        exact fo_ret rfl rfl rfl
def f_X4_isPlainName_0 (a0 : Nat)  (l1 : Int32) (s : fS) : Option (Int32 × fS) := f_X4_isPlainName_2 a0 fuel l1 (0 : Int32) s
theorem g_X4_isPlainName_0 (LS : Nat) (xs : Nat → Int32) (d : Nat) (hd : 2 ≤ d) (a0 : Nat) (h0 : isSp a0 = true)   (l1 : Int32)  (s : fS) : fo cvI t_X4_isPlainName LS xs (mi_call mi_ms false LS xs d) (0, [some (.ref a0), some (.int l1), none], [], enc s) (f_X4_isPlainName_0 a0 l1 s) := by
  unfold f_X4_isPlainName_0
  refine fo_st rfl rfl ?_
  refine fo_st rfl rfl ?_
  exact g_X4_isPlainName_2 LS xs d hd a0 h0 fuel _ _ _
def f_X4_isPlainName (a0 : Nat) (l1 : Int32) (s : fS) : Option (Int32 × fS) := f_X4_isPlainName_0 a0 l1 s
theorem c_X4_isPlainName (LS : Nat) (xs : Nat → Int32) (d : Nat) (hd : 3 ≤ d) (a0 : Nat) (l1 : Int32) (h0 : isSp a0 = true) (s : fS) : fm mi_ms cvI LS xs d 62 [.ref a0, .int l1] (enc s) (f_X4_isPlainName a0 l1 s) := by
  obtain ⟨e, rfl⟩ : ∃ e, d = e + 1 := ⟨d - 1, by omega⟩
  exact fm_of (M := m_X4_isPlainName) rfl rfl (fun _ => ⟨_, rfl⟩) (g_X4_isPlainName_0 LS xs e (by omega) a0 h0 l1 s)
theorem p_X4_isPlainName_2 (a0 : Nat)   (n : Nat) : ∀ (l1 : Int32) (l2 : Int32) (s : fS), pu s (f_X4_isPlainName_2 a0 n l1 l2 s) := by
  induction n with
  | zero => intro l1 l2 s; exact pu_none
  | succ n ih =>
    intro l1 l2 s
    rw [f_X4_isPlainName_2]
    refine pu_bind (p_X4_lengthOf _ _ _) (fun v => ?_)
    refine pu_b ?_ ?_
    · exact pu_some rfl
    · refine pu_bind (p_X4_signAt _ _ _ _) (fun v => ?_)
      refine pu_bind (p_X6_isPlain _ _) (fun v => ?_)
      refine pu_b ?_ ?_
      · exact ih _ _ _
      · exact pu_some rfl
theorem p_X4_isPlainName_0 (a0 : Nat)   (l1 : Int32) (s : fS) : pu s (f_X4_isPlainName_0 a0 l1 s) := by
  unfold f_X4_isPlainName_0
  exact p_X4_isPlainName_2 a0 fuel _ _ _
theorem p_X4_isPlainName (a0 : Nat) (l1 : Int32) (s : fS) : pu s (f_X4_isPlainName a0 l1 s) := p_X4_isPlainName_0 a0 l1 s
def f_X5_writeComment_11 (b1 : Bool)  : Nat → Int32 → Int32 → fS → Option fS
  | 0, _, _, _ => none
  | n + 1, l2, l3, s => ((f_X4_lengthOf (gadr b1 + 13) l2 s).bind fun qx1 => (bif decide (qx1.1 ≤ l3) then some qx1.2 else ((f_X4_signAt (gadr b1 + 13) l2 l3 qx1.2).bind fun qx2 => ((f_X3_add 3 qx2.1 qx2.2).bind fun qx3 => f_X5_writeComment_11 b1 n l2 (l3 + Int32.ofInt (1)) qx3))))
theorem g_X5_writeComment_11 (LS : Nat) (xs : Nat → Int32) (d : Nat) (hd : 2 ≤ d) (b1 : Bool)    (n : Nat) : ∀ (l2 : Int32) (l3 : Int32) (s : fS), fo cvV t_X5_writeComment LS xs (mi_call mi_ms false LS xs d) (11, [some (.ref 5), some (.ref (gadr b1)), some (.int l2), some (.int l3)], [], enc s) (f_X5_writeComment_11 b1 n l2 l3 s) := by
  induction n with
  | zero => intro l2 l3 s; exact fo_none
  | succ n ih =>
    intro l2 l3 s
    rw [f_X5_writeComment_11]
    refine fo_st rfl rfl ?_
    refine fo_st rfl rfl ?_
    refine fo_get rfl (eg_gr _ _) rfl ?_
    refine fo_st rfl rfl ?_
    refine fo_callI (As := [.ref (gadr b1 + 13), .int l2]) (rest := [.int l3]) rfl rfl rfl rfl (mi_rcv_of (eg_sp _ (gk_13 _))) (c_X4_lengthOf LS xs d (by omega) _ _ (gk_13 _) _) (fun qx1 => ?_)
    refine fo_b rfl rfl ?_ ?_
    · exact fo_ret rfl rfl rfl
    · refine fo_st rfl rfl ?_
      refine fo_get rfl (eg_5 _) rfl ?_
      refine fo_st rfl rfl ?_
      refine fo_get rfl (eg_gr _ _) rfl ?_
      refine fo_st rfl rfl ?_
      refine fo_st rfl rfl ?_
      refine fo_callI (As := [.ref (gadr b1 + 13), .int l2, .int l3]) (rest := [.ref 3]) rfl rfl rfl rfl (mi_rcv_of (eg_sp _ (gk_13 _))) (c_X4_signAt LS xs d (by omega) _ _ _ (gk_13 _) _) (fun qx2 => ?_)
      refine fo_callV (As := [.ref 3, .int qx2.1]) (rest := []) rfl rfl rfl rfl (mi_rcv_of (eg_row _ rfl)) (c_X3_add LS xs d (by omega) _ _ rfl _) (fun qx3 => ?_)
      refine fo_st rfl rfl ?_
      refine fo_st rfl rfl ?_
      exact ih _ _ _
def f_X5_writeComment_0 (b1 : Bool)  (l2 : Int32) (s : fS) : Option fS := ((f_X3_add 3 (35 : Int32) s).bind fun qx1 => f_X5_writeComment_11 b1 fuel l2 (0 : Int32) qx1)
theorem g_X5_writeComment_0 (LS : Nat) (xs : Nat → Int32) (d : Nat) (hd : 2 ≤ d) (b1 : Bool)    (l2 : Int32)  (s : fS) : fo cvV t_X5_writeComment LS xs (mi_call mi_ms false LS xs d) (0, [some (.ref 5), some (.ref (gadr b1)), some (.int l2), none], [], enc s) (f_X5_writeComment_0 b1 l2 s) := by
  unfold f_X5_writeComment_0
  refine fo_st rfl rfl ?_
  refine fo_get rfl (eg_5 _) rfl ?_
  refine fo_st rfl rfl ?_
  refine fo_callV (As := [.ref 3, .int (35 : Int32)]) (rest := []) rfl rfl rfl rfl (mi_rcv_of (eg_row _ rfl)) (c_X3_add LS xs d (by omega) _ _ rfl _) (fun qx1 => ?_)
  refine fo_st rfl rfl ?_
  refine fo_st rfl rfl ?_
  exact g_X5_writeComment_11 LS xs d hd b1 fuel _ _ _
def f_X5_writeComment (b1 : Bool) (l2 : Int32) (s : fS) : Option fS := f_X5_writeComment_0 b1 l2 s
theorem c_X5_writeComment (LS : Nat) (xs : Nat → Int32) (d : Nat) (hd : 3 ≤ d) (b1 : Bool) (l2 : Int32)  (s : fS) : fm mi_ms cvV LS xs d 65 [.ref 5, .ref (gadr b1), .int l2] (enc s) (f_X5_writeComment b1 l2 s) := by
  obtain ⟨e, rfl⟩ : ∃ e, d = e + 1 := ⟨d - 1, by omega⟩
  exact fm_of (M := m_X5_writeComment) rfl rfl (fun _ => ⟨_, rfl⟩) (g_X5_writeComment_0 LS xs e (by omega) b1 l2 s)
def f_X5_writeWhole_33  (r3 : Int32 → Int32 → fS → Option fS) (l1 : Int32) (l2 : Int32) (s : fS) : Option fS := r3 l1 (l2 / (10 : Int32)) s
theorem g_X5_writeWhole_33 (LS : Nat) (xs : Nat → Int32) (d : Nat) (hd : 1 ≤ d)   (r3 : Int32 → Int32 → fS → Option fS) (q3 : ∀ (l1 : Int32) (l2 : Int32) (s : fS), fo cvV t_X5_writeWhole LS xs (mi_call mi_ms false LS xs d) (3, [some (.ref 5), some (.int l1), some (.int l2)], [], enc s) (r3 l1 l2 s)) (l1 : Int32) (l2 : Int32)  (s : fS) : fo cvV t_X5_writeWhole LS xs (mi_call mi_ms false LS xs d) (33, [some (.ref 5), some (.int l1), some (.int l2)], [], enc s) (f_X5_writeWhole_33 r3 l1 l2 s) := by
  unfold f_X5_writeWhole_33
  refine fo_st rfl rfl ?_
  refine fo_st rfl rfl ?_
  refine fo_st rfl rfl ?_
  refine fo_st rfl rfl ?_
  refine fo_st rfl rfl ?_
  exact q3 _ _ _
def f_X5_writeWhole_17  (r3 : Int32 → Int32 → fS → Option fS) (l1 : Int32) (l2 : Int32) (s : fS) : Option fS := fchk (decide (¬ l2 = 0)) (((f_X3_add 3 ((48 : Int32) + (mi_irem (l1 / l2) (10 : Int32))) s).bind fun qx1 => f_X5_writeWhole_33 r3 l1 l2 qx1))
theorem g_X5_writeWhole_17 (LS : Nat) (xs : Nat → Int32) (d : Nat) (hd : 1 ≤ d)   (r3 : Int32 → Int32 → fS → Option fS) (q3 : ∀ (l1 : Int32) (l2 : Int32) (s : fS), fo cvV t_X5_writeWhole LS xs (mi_call mi_ms false LS xs d) (3, [some (.ref 5), some (.int l1), some (.int l2)], [], enc s) (r3 l1 l2 s)) (l1 : Int32) (l2 : Int32)  (s : fS) : fo cvV t_X5_writeWhole LS xs (mi_call mi_ms false LS xs d) (17, [some (.ref 5), some (.int l1), some (.int l2)], [], enc s) (f_X5_writeWhole_17 r3 l1 l2 s) := by
  unfold f_X5_writeWhole_17
  refine fo_st rfl rfl ?_
  refine fo_get rfl (eg_5 _) rfl ?_
  refine fo_st rfl rfl ?_
  refine fo_st rfl rfl ?_
  refine fo_st rfl rfl ?_
  refine fo_d2 rfl ?_
  refine fo_st rfl rfl ?_
  refine fo_st rfl rfl ?_
  refine fo_st rfl rfl ?_
  refine fo_callV (As := [.ref 3, .int ((48 : Int32) + (mi_irem (l1 / l2) (10 : Int32)))]) (rest := []) rfl rfl rfl rfl (mi_rcv_of (eg_row _ rfl)) (c_X3_add LS xs d (by omega) _ _ rfl _) (fun qx1 => ?_)
  exact g_X5_writeWhole_33 LS xs d hd _ q3 _ _ _
def f_X5_writeWhole_3   : Nat → Int32 → Int32 → fS → Option fS
  | 0, _, _, _ => none
  | n + 1, l1, l2, s => (bif decide (l2 ≤ 0) then some s else (bif decide (l2 ≤ l1) then f_X5_writeWhole_17 (fun l1' l2' s' => f_X5_writeWhole_3 n l1' l2' s') l1 l2 s else (bif decide (¬ l2 = (1 : Int32)) then f_X5_writeWhole_33 (fun l1' l2' s' => f_X5_writeWhole_3 n l1' l2' s') l1 l2 s else f_X5_writeWhole_17 (fun l1' l2' s' => f_X5_writeWhole_3 n l1' l2' s') l1 l2 s)))
theorem g_X5_writeWhole_3 (LS : Nat) (xs : Nat → Int32) (d : Nat) (hd : 1 ≤ d)     (n : Nat) : ∀ (l1 : Int32) (l2 : Int32) (s : fS), fo cvV t_X5_writeWhole LS xs (mi_call mi_ms false LS xs d) (3, [some (.ref 5), some (.int l1), some (.int l2)], [], enc s) (f_X5_writeWhole_3 n l1 l2 s) := by
  induction n with
  | zero => intro l1 l2 s; exact fo_none
  | succ n ih =>
    intro l1 l2 s
    rw [f_X5_writeWhole_3]
    refine fo_st rfl rfl ?_
    refine fo_b rfl rfl ?_ ?_
    · exact fo_ret rfl rfl rfl
    · refine fo_st rfl rfl ?_
      refine fo_st rfl rfl ?_
      refine fo_b rfl rfl ?_ ?_
      · exact g_X5_writeWhole_17 LS xs d hd _ ih _ _ _
      · refine fo_st rfl rfl ?_
        refine fo_st rfl rfl ?_
        refine fo_b rfl rfl ?_ ?_
        · exact g_X5_writeWhole_33 LS xs d hd _ ih _ _ _
        · exact g_X5_writeWhole_17 LS xs d hd _ ih _ _ _
def f_X5_writeWhole_0   (l1 : Int32) (s : fS) : Option fS := f_X5_writeWhole_3 fuel l1 (100000 : Int32) s
theorem g_X5_writeWhole_0 (LS : Nat) (xs : Nat → Int32) (d : Nat) (hd : 1 ≤ d)     (l1 : Int32)  (s : fS) : fo cvV t_X5_writeWhole LS xs (mi_call mi_ms false LS xs d) (0, [some (.ref 5), some (.int l1), none], [], enc s) (f_X5_writeWhole_0 l1 s) := by
  unfold f_X5_writeWhole_0
  refine fo_st rfl rfl ?_
  refine fo_st rfl rfl ?_
  exact g_X5_writeWhole_3 LS xs d hd fuel _ _ _
def f_X5_writeWhole (l1 : Int32) (s : fS) : Option fS := f_X5_writeWhole_0 l1 s
theorem c_X5_writeWhole (LS : Nat) (xs : Nat → Int32) (d : Nat) (hd : 2 ≤ d) (l1 : Int32)  (s : fS) : fm mi_ms cvV LS xs d 73 [.ref 5, .int l1] (enc s) (f_X5_writeWhole l1 s) := by
  obtain ⟨e, rfl⟩ : ∃ e, d = e + 1 := ⟨d - 1, by omega⟩
  exact fm_of (M := m_X5_writeWhole) rfl rfl (fun _ => ⟨_, rfl⟩) (g_X5_writeWhole_0 LS xs e (by omega) l1 s)
def f_X5_writeCount_0 (b1 : Bool)   (s : fS) : Option fS := ((f_X3_add 3 (33 : Int32) s).bind fun qx1 => ((f_X3_add 3 (32 : Int32) qx1).bind fun qx2 => ((f_X5_writeWhole (gI qx2 (gadr b1) 13) qx2).bind fun qx3 => ((f_X3_add 3 (32 : Int32) qx3).bind fun qx4 => ((f_X5_writeWhole (gI qx4 (gadr b1) 14) qx4).bind fun qx5 => some qx5)))))
theorem g_X5_writeCount_0 (LS : Nat) (xs : Nat → Int32) (d : Nat) (hd : 2 ≤ d) (b1 : Bool)      (s : fS) : fo cvV t_X5_writeCount LS xs (mi_call mi_ms false LS xs d) (0, [some (.ref 5), some (.ref (gadr b1))], [], enc s) (f_X5_writeCount_0 b1 s) := by
  unfold f_X5_writeCount_0
  refine fo_st rfl rfl ?_
  refine fo_get rfl (eg_5 _) rfl ?_
  refine fo_st rfl rfl ?_
  refine fo_callV (As := [.ref 3, .int (33 : Int32)]) (rest := []) rfl rfl rfl rfl (mi_rcv_of (eg_row _ rfl)) (c_X3_add LS xs d (by omega) _ _ rfl _) (fun qx1 => ?_)
  refine fo_st rfl rfl ?_
  refine fo_get rfl (eg_5 _) rfl ?_
  refine fo_st rfl rfl ?_
  refine fo_callV (As := [.ref 3, .int (32 : Int32)]) (rest := []) rfl rfl rfl rfl (mi_rcv_of (eg_row _ rfl)) (c_X3_add LS xs d (by omega) _ _ rfl _) (fun qx2 => ?_)
  refine fo_st rfl rfl ?_
  refine fo_st rfl rfl ?_
  refine fo_get rfl (eg_gr _ _) rfl ?_
  refine fo_callV (As := [.ref 5, .int (gI qx2 (gadr b1) 13)]) (rest := []) rfl rfl rfl rfl (mi_rcv_of (eg_5 _)) (c_X5_writeWhole LS xs d (by omega) _ _) (fun qx3 => ?_)
  refine fo_st rfl rfl ?_
  refine fo_get rfl (eg_5 _) rfl ?_
  refine fo_st rfl rfl ?_
  refine fo_callV (As := [.ref 3, .int (32 : Int32)]) (rest := []) rfl rfl rfl rfl (mi_rcv_of (eg_row _ rfl)) (c_X3_add LS xs d (by omega) _ _ rfl _) (fun qx4 => ?_)
  refine fo_st rfl rfl ?_
  refine fo_st rfl rfl ?_
  refine fo_get rfl (eg_gr _ _) rfl ?_
  refine fo_callV (As := [.ref 5, .int (gI qx4 (gadr b1) 14)]) (rest := []) rfl rfl rfl rfl (mi_rcv_of (eg_5 _)) (c_X5_writeWhole LS xs d (by omega) _ _) (fun qx5 => ?_)
  exact fo_ret rfl rfl rfl
def f_X5_writeCount (b1 : Bool) (s : fS) : Option fS := f_X5_writeCount_0 b1 s
theorem c_X5_writeCount (LS : Nat) (xs : Nat → Int32) (d : Nat) (hd : 3 ≤ d) (b1 : Bool)  (s : fS) : fm mi_ms cvV LS xs d 66 [.ref 5, .ref (gadr b1)] (enc s) (f_X5_writeCount b1 s) := by
  obtain ⟨e, rfl⟩ : ∃ e, d = e + 1 := ⟨d - 1, by omega⟩
  exact fm_of (M := m_X5_writeCount) rfl rfl (fun _ => ⟨_, rfl⟩) (g_X5_writeCount_0 LS xs e (by omega) b1 s)
def f_X5_letterOfKind_19   (l0 : Int32) (t0 : Int32) (s : fS) : Option (Int32 × fS) := some (t0, s)
theorem g_X5_letterOfKind_19 (LS : Nat) (xs : Nat → Int32) (d : Nat) (hd : 0 ≤ d)     (l0 : Int32) (t0 : Int32)  (s : fS) : fo cvI t_X5_letterOfKind LS xs (mi_call mi_ms false LS xs d) (19, [some (.int l0)], [.int t0], enc s) (f_X5_letterOfKind_19 l0 t0 s) := by
  unfold f_X5_letterOfKind_19
  exact fo_ret rfl rfl rfl
def f_X5_letterOfKind_0   (l0 : Int32) (s : fS) : Option (Int32 × fS) := (bif decide (¬ l0 = 0) then (bif decide (¬ l0 = (1 : Int32)) then f_X5_letterOfKind_19 l0 (116 : Int32) s else f_X5_letterOfKind_19 l0 (100 : Int32) s) else some ((119 : Int32), s))
theorem g_X5_letterOfKind_0 (LS : Nat) (xs : Nat → Int32) (d : Nat) (hd : 0 ≤ d)     (l0 : Int32)  (s : fS) : fo cvI t_X5_letterOfKind LS xs (mi_call mi_ms false LS xs d) (0, [some (.int l0)], [], enc s) (f_X5_letterOfKind_0 l0 s) := by
  unfold f_X5_letterOfKind_0
  refine fo_st rfl rfl ?_
  refine fo_b rfl rfl ?_ ?_
  · refine fo_st rfl rfl ?_
    refine fo_st rfl rfl ?_
    refine fo_b rfl rfl ?_ ?_
    · refine fo_st rfl rfl ?_
      exact g_X5_letterOfKind_19 LS xs d hd _ _ _
    · refine fo_st rfl rfl ?_
      refine fo_st rfl rfl ?_
      exact g_X5_letterOfKind_19 LS xs d hd _ _ _
  · refine fo_st rfl rfl ?_
    exact fo_ret rfl rfl rfl
def f_X5_letterOfKind (l0 : Int32) (s : fS) : Option (Int32 × fS) := f_X5_letterOfKind_0 l0 s
theorem c_X5_letterOfKind (LS : Nat) (xs : Nat → Int32) (d : Nat) (hd : 1 ≤ d) (l0 : Int32)  (s : fS) : fm mi_ms cvI LS xs d 68 [.int l0] (enc s) (f_X5_letterOfKind l0 s) := by
  obtain ⟨e, rfl⟩ : ∃ e, d = e + 1 := ⟨d - 1, by omega⟩
  exact fm_of (M := m_X5_letterOfKind) rfl rfl (fun _ => ⟨_, rfl⟩) (g_X5_letterOfKind_0 LS xs e (by omega) l0 s)
theorem p_X5_letterOfKind_19    (l0 : Int32) (t0 : Int32) (s : fS) : pu s (f_X5_letterOfKind_19 l0 t0 s) := by
  unfold f_X5_letterOfKind_19
  exact pu_some rfl
theorem p_X5_letterOfKind_0    (l0 : Int32) (s : fS) : pu s (f_X5_letterOfKind_0 l0 s) := by
  unfold f_X5_letterOfKind_0
  refine pu_b ?_ ?_
  · refine pu_b ?_ ?_
    · exact p_X5_letterOfKind_19 _ _ _
    · exact p_X5_letterOfKind_19 _ _ _
  · exact pu_some rfl
theorem p_X5_letterOfKind (l0 : Int32) (s : fS) : pu s (f_X5_letterOfKind l0 s) := p_X5_letterOfKind_0 l0 s
def f_X5_writeName_100 (a1 : Nat)  (l2 : Int32) (l3 : Int32) (l4 : Int32) (s : fS) : Option fS := some s
theorem g_X5_writeName_100 (LS : Nat) (xs : Nat → Int32) (d : Nat) (hd : 3 ≤ d) (a1 : Nat) (h1 : isSp a1 = true)   (l2 : Int32) (l3 : Int32) (l4 : Int32) (d5 : Option Value) (s : fS) : fo cvV t_X5_writeName LS xs (mi_call mi_ms false LS xs d) (100, [some (.ref 5), some (.ref a1), some (.int l2), some (.int l3), some (.int l4), d5], [], enc s) (f_X5_writeName_100 a1 l2 l3 l4 s) := by
  unfold f_X5_writeName_100
  exact fo_ret rfl rfl rfl
def f_X5_writeName_72 (a1 : Nat) (r30 : Int32 → Int32 → Int32 → fS → Option fS) (l2 : Int32) (l3 : Int32) (l4 : Int32) (l5 : Int32) (s : fS) : Option fS := ((f_X3_add 3 l5 s).bind fun qx1 => r30 l2 l3 (l4 + Int32.ofInt (1)) qx1)
theorem g_X5_writeName_72 (LS : Nat) (xs : Nat → Int32) (d : Nat) (hd : 3 ≤ d) (a1 : Nat) (h1 : isSp a1 = true) (r30 : Int32 → Int32 → Int32 → fS → Option fS) (q30 : ∀ (l2 : Int32) (l3 : Int32) (l4 : Int32) (d5 : Option Value) (s : fS), fo cvV t_X5_writeName LS xs (mi_call mi_ms false LS xs d) (30, [some (.ref 5), some (.ref a1), some (.int l2), some (.int l3), some (.int l4), d5], [], enc s) (r30 l2 l3 l4 s)) (l2 : Int32) (l3 : Int32) (l4 : Int32) (l5 : Int32)  (s : fS) : fo cvV t_X5_writeName LS xs (mi_call mi_ms false LS xs d) (72, [some (.ref 5), some (.ref a1), some (.int l2), some (.int l3), some (.int l4), some (.int l5)], [], enc s) (f_X5_writeName_72 a1 r30 l2 l3 l4 l5 s) := by
  unfold f_X5_writeName_72
  refine fo_st rfl rfl ?_
  refine fo_get rfl (eg_5 _) rfl ?_
  refine fo_st rfl rfl ?_
  refine fo_callV (As := [.ref 3, .int l5]) (rest := []) rfl rfl rfl rfl (mi_rcv_of (eg_row _ rfl)) (c_X3_add LS xs d (by omega) _ _ rfl _) (fun qx1 => ?_)
  refine fo_st rfl rfl ?_
  refine fo_st rfl rfl ?_
  exact q30 _ _ _ _ _
def f_X5_writeName_63 (a1 : Nat) (r30 : Int32 → Int32 → Int32 → fS → Option fS) (l2 : Int32) (l3 : Int32) (l4 : Int32) (l5 : Int32) (s : fS) : Option fS := ((f_X3_add 3 (92 : Int32) s).bind fun qx1 => f_X5_writeName_72 a1 r30 l2 l3 l4 l5 qx1)
theorem g_X5_writeName_63 (LS : Nat) (xs : Nat → Int32) (d : Nat) (hd : 3 ≤ d) (a1 : Nat) (h1 : isSp a1 = true) (r30 : Int32 → Int32 → Int32 → fS → Option fS) (q30 : ∀ (l2 : Int32) (l3 : Int32) (l4 : Int32) (d5 : Option Value) (s : fS), fo cvV t_X5_writeName LS xs (mi_call mi_ms false LS xs d) (30, [some (.ref 5), some (.ref a1), some (.int l2), some (.int l3), some (.int l4), d5], [], enc s) (r30 l2 l3 l4 s)) (l2 : Int32) (l3 : Int32) (l4 : Int32) (l5 : Int32)  (s : fS) : fo cvV t_X5_writeName LS xs (mi_call mi_ms false LS xs d) (63, [some (.ref 5), some (.ref a1), some (.int l2), some (.int l3), some (.int l4), some (.int l5)], [], enc s) (f_X5_writeName_63 a1 r30 l2 l3 l4 l5 s) := by
  unfold f_X5_writeName_63
  refine fo_st rfl rfl ?_
  refine fo_get rfl (eg_5 _) rfl ?_
  refine fo_st rfl rfl ?_
  refine fo_callV (As := [.ref 3, .int (92 : Int32)]) (rest := []) rfl rfl rfl rfl (mi_rcv_of (eg_row _ rfl)) (c_X3_add LS xs d (by omega) _ _ rfl _) (fun qx1 => ?_)
  exact g_X5_writeName_72 LS xs d hd a1 h1 _ q30 _ _ _ _ _
def f_X5_writeName_30 (a1 : Nat)  : Nat → Int32 → Int32 → Int32 → fS → Option fS
  | 0, _, _, _, _ => none
  | n + 1, l2, l3, l4, s => ((f_X4_lengthOf a1 l2 s).bind fun qx1 => (bif decide (qx1.1 ≤ l4) then (bif decide (l3 = 0) then f_X5_writeName_100 a1 l2 l3 l4 qx1.2 else ((f_X3_add 3 (34 : Int32) qx1.2).bind fun qx2 => f_X5_writeName_100 a1 l2 l3 l4 qx2)) else ((f_X4_signAt a1 l2 l4 qx1.2).bind fun qx3 => (bif decide (qx3.1 = (34 : Int32)) then f_X5_writeName_63 a1 (fun l2' l3' l4' s' => f_X5_writeName_30 a1 n l2' l3' l4' s') l2 l3 l4 qx3.1 qx3.2 else (bif decide (¬ qx3.1 = (92 : Int32)) then f_X5_writeName_72 a1 (fun l2' l3' l4' s' => f_X5_writeName_30 a1 n l2' l3' l4' s') l2 l3 l4 qx3.1 qx3.2 else f_X5_writeName_63 a1 (fun l2' l3' l4' s' => f_X5_writeName_30 a1 n l2' l3' l4' s') l2 l3 l4 qx3.1 qx3.2)))))
theorem g_X5_writeName_30 (LS : Nat) (xs : Nat → Int32) (d : Nat) (hd : 3 ≤ d) (a1 : Nat) (h1 : isSp a1 = true)   (n : Nat) : ∀ (l2 : Int32) (l3 : Int32) (l4 : Int32) (d5 : Option Value) (s : fS), fo cvV t_X5_writeName LS xs (mi_call mi_ms false LS xs d) (30, [some (.ref 5), some (.ref a1), some (.int l2), some (.int l3), some (.int l4), d5], [], enc s) (f_X5_writeName_30 a1 n l2 l3 l4 s) := by
  induction n with
  | zero => intro l2 l3 l4 d5 s; exact fo_none
  | succ n ih =>
    intro l2 l3 l4 d5 s
    rw [f_X5_writeName_30]
    refine fo_st rfl rfl ?_
    refine fo_st rfl rfl ?_
    refine fo_st rfl rfl ?_
    refine fo_callI (As := [.ref a1, .int l2]) (rest := [.int l4]) rfl rfl rfl rfl (mi_rcv_of (eg_sp _ h1)) (c_X4_lengthOf LS xs d (by omega) _ _ h1 _) (fun qx1 => ?_)
    refine fo_b rfl rfl ?_ ?_
    · refine fo_st rfl rfl ?_
      refine fo_b rfl rfl ?_ ?_
      · exact g_X5_writeName_100 LS xs d hd a1 h1 _ _ _ _ _
      · refine fo_st rfl rfl ?_
        refine fo_get rfl (eg_5 _) rfl ?_
        refine fo_st rfl rfl ?_
        refine fo_callV (As := [.ref 3, .int (34 : Int32)]) (rest := []) rfl rfl rfl rfl (mi_rcv_of (eg_row _ rfl)) (c_X3_add LS xs d (by omega) _ _ rfl _) (fun qx2 => ?_)
        exact g_X5_writeName_100 LS xs d hd a1 h1 _ _ _ _ _
    · refine fo_st rfl rfl ?_
      refine fo_st rfl rfl ?_
      refine fo_st rfl rfl ?_
      refine fo_callI (As := [.ref a1, .int l2, .int l4]) (rest := []) rfl rfl rfl rfl (mi_rcv_of (eg_sp _ h1)) (c_X4_signAt LS xs d (by omega) _ _ _ h1 _) (fun qx3 => ?_)
      refine fo_std rfl rfl rfl rfl rfl ?_
      refine fo_st rfl rfl ?_
      refine fo_st rfl rfl ?_
      refine fo_b rfl rfl ?_ ?_
      · exact g_X5_writeName_63 LS xs d hd a1 h1 _ ih _ _ _ _ _
      · refine fo_st rfl rfl ?_
        refine fo_st rfl rfl ?_
        refine fo_b rfl rfl ?_ ?_
        · exact g_X5_writeName_72 LS xs d hd a1 h1 _ ih _ _ _ _ _
        · exact g_X5_writeName_63 LS xs d hd a1 h1 _ ih _ _ _ _ _
def f_X5_writeName_27 (a1 : Nat)  (l2 : Int32) (l3 : Int32) (s : fS) : Option fS := f_X5_writeName_30 a1 fuel l2 l3 (0 : Int32) s
theorem g_X5_writeName_27 (LS : Nat) (xs : Nat → Int32) (d : Nat) (hd : 3 ≤ d) (a1 : Nat) (h1 : isSp a1 = true)   (l2 : Int32) (l3 : Int32)  (s : fS) : fo cvV t_X5_writeName LS xs (mi_call mi_ms false LS xs d) (27, [some (.ref 5), some (.ref a1), some (.int l2), some (.int l3), none, none], [], enc s) (f_X5_writeName_27 a1 l2 l3 s) := by
  unfold f_X5_writeName_27
  refine fo_st rfl rfl ?_
  refine fo_st rfl rfl ?_
  exact g_X5_writeName_30 LS xs d hd a1 h1 fuel _ _ _ _ _
def f_X5_writeName_13 (a1 : Nat)  (l2 : Int32) (t0 : Int32) (s : fS) : Option fS := (bif decide (t0 = 0) then f_X5_writeName_27 a1 l2 t0 s else ((f_X3_add 3 (34 : Int32) s).bind fun qx1 => f_X5_writeName_27 a1 l2 t0 qx1))
theorem g_X5_writeName_13 (LS : Nat) (xs : Nat → Int32) (d : Nat) (hd : 3 ≤ d) (a1 : Nat) (h1 : isSp a1 = true)   (l2 : Int32) (t0 : Int32)  (s : fS) : fo cvV t_X5_writeName LS xs (mi_call mi_ms false LS xs d) (13, [some (.ref 5), some (.ref a1), some (.int l2), none, none, none], [.int t0], enc s) (f_X5_writeName_13 a1 l2 t0 s) := by
  unfold f_X5_writeName_13
  refine fo_st rfl rfl ?_
  refine fo_st rfl rfl ?_
  refine fo_b rfl rfl ?_ ?_
  · exact g_X5_writeName_27 LS xs d hd a1 h1 _ _ _
  · refine fo_st rfl rfl ?_
    refine fo_get rfl (eg_5 _) rfl ?_
    refine fo_st rfl rfl ?_
    refine fo_callV (As := [.ref 3, .int (34 : Int32)]) (rest := []) rfl rfl rfl rfl (mi_rcv_of (eg_row _ rfl)) (c_X3_add LS xs d (by omega) _ _ rfl _) (fun qx1 => ?_)
    exact g_X5_writeName_27 LS xs d hd a1 h1 _ _ _
def f_X5_writeName_0 (a1 : Nat)  (l2 : Int32) (s : fS) : Option fS := ((f_X4_isPlainName a1 l2 s).bind fun qx1 => (bif decide (¬ qx1.1 = 0) then f_X5_writeName_13 a1 l2 (0 : Int32) qx1.2 else f_X5_writeName_13 a1 l2 (1 : Int32) qx1.2))
theorem g_X5_writeName_0 (LS : Nat) (xs : Nat → Int32) (d : Nat) (hd : 3 ≤ d) (a1 : Nat) (h1 : isSp a1 = true)   (l2 : Int32)  (s : fS) : fo cvV t_X5_writeName LS xs (mi_call mi_ms false LS xs d) (0, [some (.ref 5), some (.ref a1), some (.int l2), none, none, none], [], enc s) (f_X5_writeName_0 a1 l2 s) := by
  unfold f_X5_writeName_0
  refine fo_st rfl rfl ?_
  refine fo_st rfl rfl ?_
  refine fo_callI (As := [.ref a1, .int l2]) (rest := []) rfl rfl rfl rfl (mi_rcv_of (eg_sp _ h1)) (c_X4_isPlainName LS xs d (by omega) _ _ h1 _) (fun qx1 => ?_)
  refine fo_b rfl rfl ?_ ?_
  · refine fo_st rfl rfl ?_
    exact g_X5_writeName_13 LS xs d hd a1 h1 _ _ _
  · refine fo_st rfl rfl ?_
    refine fo_st rfl rfl ?_
    exact g_X5_writeName_13 LS xs d hd a1 h1 _ _ _
def f_X5_writeName (a1 : Nat) (l2 : Int32) (s : fS) : Option fS := f_X5_writeName_0 a1 l2 s
theorem c_X5_writeName (LS : Nat) (xs : Nat → Int32) (d : Nat) (hd : 4 ≤ d) (a1 : Nat) (l2 : Int32) (h1 : isSp a1 = true) (s : fS) : fm mi_ms cvV LS xs d 71 [.ref 5, .ref a1, .int l2] (enc s) (f_X5_writeName a1 l2 s) := by
  obtain ⟨e, rfl⟩ : ∃ e, d = e + 1 := ⟨d - 1, by omega⟩
  exact fm_of (M := m_X5_writeName) rfl rfl (fun _ => ⟨_, rfl⟩) (g_X5_writeName_0 LS xs e (by omega) a1 h1 l2 s)
def f_X5_writeHead_0 (b1 : Bool)  (l2 : Int32) (s : fS) : Option fS := ((f_X3_add 3 (37 : Int32) s).bind fun qx1 => ((f_X3_add 3 (32 : Int32) qx1).bind fun qx2 => ((f_X5_writeName (gadr b1 + 8) l2 qx2).bind fun qx3 => ((f_X3_add 3 (32 : Int32) qx3).bind fun qx4 => ((f_X3_at (gadr b1 + 18) l2 qx4).bind fun qx5 => ((f_X5_letterOfKind qx5.1 qx5.2).bind fun qx6 => ((f_X3_add 3 qx6.1 qx6.2).bind fun qx7 => some qx7)))))))
theorem g_X5_writeHead_0 (LS : Nat) (xs : Nat → Int32) (d : Nat) (hd : 4 ≤ d) (b1 : Bool)    (l2 : Int32)  (s : fS) : fo cvV t_X5_writeHead LS xs (mi_call mi_ms false LS xs d) (0, [some (.ref 5), some (.ref (gadr b1)), some (.int l2)], [], enc s) (f_X5_writeHead_0 b1 l2 s) := by
  unfold f_X5_writeHead_0
  refine fo_st rfl rfl ?_
  refine fo_get rfl (eg_5 _) rfl ?_
  refine fo_st rfl rfl ?_
  refine fo_callV (As := [.ref 3, .int (37 : Int32)]) (rest := []) rfl rfl rfl rfl (mi_rcv_of (eg_row _ rfl)) (c_X3_add LS xs d (by omega) _ _ rfl _) (fun qx1 => ?_)
  refine fo_st rfl rfl ?_
  refine fo_get rfl (eg_5 _) rfl ?_
  refine fo_st rfl rfl ?_
  refine fo_callV (As := [.ref 3, .int (32 : Int32)]) (rest := []) rfl rfl rfl rfl (mi_rcv_of (eg_row _ rfl)) (c_X3_add LS xs d (by omega) _ _ rfl _) (fun qx2 => ?_)
  refine fo_st rfl rfl ?_
  refine fo_st rfl rfl ?_
  refine fo_get rfl (eg_gr _ _) rfl ?_
  refine fo_st rfl rfl ?_
  refine fo_callV (As := [.ref 5, .ref (gadr b1 + 8), .int l2]) (rest := []) rfl rfl rfl rfl (mi_rcv_of (eg_5 _)) (c_X5_writeName LS xs d (by omega) _ _ (gk_8 _) _) (fun qx3 => ?_)
  refine fo_st rfl rfl ?_
  refine fo_get rfl (eg_5 _) rfl ?_
  refine fo_st rfl rfl ?_
  refine fo_callV (As := [.ref 3, .int (32 : Int32)]) (rest := []) rfl rfl rfl rfl (mi_rcv_of (eg_row _ rfl)) (c_X3_add LS xs d (by omega) _ _ rfl _) (fun qx4 => ?_)
  refine fo_st rfl rfl ?_
  refine fo_get rfl (eg_5 _) rfl ?_
  refine fo_st rfl rfl ?_
  refine fo_get rfl (eg_gr _ _) rfl ?_
  refine fo_st rfl rfl ?_
  refine fo_callI (As := [.ref (gadr b1 + 18), .int l2]) (rest := [.ref 3]) rfl rfl rfl rfl (mi_rcv_of (eg_row _ (gk_18 _))) (c_X3_at LS xs d (by omega) _ _ (gk_18 _) _) (fun qx5 => ?_)
  refine fo_callI (As := [.int qx5.1]) (rest := [.ref 3]) rfl rfl rfl rfl True.intro (c_X5_letterOfKind LS xs d (by omega) _ _) (fun qx6 => ?_)
  refine fo_callV (As := [.ref 3, .int qx6.1]) (rest := []) rfl rfl rfl rfl (mi_rcv_of (eg_row _ rfl)) (c_X3_add LS xs d (by omega) _ _ rfl _) (fun qx7 => ?_)
  exact fo_ret rfl rfl rfl
def f_X5_writeHead (b1 : Bool) (l2 : Int32) (s : fS) : Option fS := f_X5_writeHead_0 b1 l2 s
theorem c_X5_writeHead (LS : Nat) (xs : Nat → Int32) (d : Nat) (hd : 5 ≤ d) (b1 : Bool) (l2 : Int32)  (s : fS) : fm mi_ms cvV LS xs d 67 [.ref 5, .ref (gadr b1), .int l2] (enc s) (f_X5_writeHead b1 l2 s) := by
  obtain ⟨e, rfl⟩ : ∃ e, d = e + 1 := ⟨d - 1, by omega⟩
  exact fm_of (M := m_X5_writeHead) rfl rfl (fun _ => ⟨_, rfl⟩) (g_X5_writeHead_0 LS xs e (by omega) b1 l2 s)
def f_X5_writeThousandths_93   (l1 : Int32) (l2 : Int32) (l3 : Int32) (l4 : Int32) (s : fS) : Option fS := some s
theorem g_X5_writeThousandths_93 (LS : Nat) (xs : Nat → Int32) (d : Nat) (hd : 2 ≤ d)     (l1 : Int32) (l2 : Int32) (l3 : Int32) (l4 : Int32)  (s : fS) : fo cvV t_X5_writeThousandths LS xs (mi_call mi_ms false LS xs d) (93, [some (.ref 5), some (.int l1), some (.int l2), some (.int l3), some (.int l4)], [], enc s) (f_X5_writeThousandths_93 l1 l2 l3 l4 s) := by
  unfold f_X5_writeThousandths_93
  exact fo_ret rfl rfl rfl
def f_X5_writeThousandths_55   : Nat → Int32 → Int32 → Int32 → Int32 → fS → Option fS
  | 0, _, _, _, _, _ => none
  | n + 1, l1, l2, l3, l4, s => (bif decide ((3 : Int32) ≤ l4) then f_X5_writeThousandths_93 l1 l2 l3 l4 s else (bif decide (l3 ≤ 0) then f_X5_writeThousandths_93 l1 l2 l3 l4 s else ((f_X3_add 3 ((48 : Int32) + (l3 / (100 : Int32))) s).bind fun qx1 => f_X5_writeThousandths_55 n l1 l2 ((mi_irem l3 (100 : Int32)) * (10 : Int32)) (l4 + Int32.ofInt (1)) qx1)))
theorem g_X5_writeThousandths_55 (LS : Nat) (xs : Nat → Int32) (d : Nat) (hd : 2 ≤ d)     (n : Nat) : ∀ (l1 : Int32) (l2 : Int32) (l3 : Int32) (l4 : Int32) (s : fS), fo cvV t_X5_writeThousandths LS xs (mi_call mi_ms false LS xs d) (55, [some (.ref 5), some (.int l1), some (.int l2), some (.int l3), some (.int l4)], [], enc s) (f_X5_writeThousandths_55 n l1 l2 l3 l4 s) := by
  induction n with
  | zero => intro l1 l2 l3 l4 s; exact fo_none
  | succ n ih =>
    intro l1 l2 l3 l4 s
    rw [f_X5_writeThousandths_55]
    refine fo_st rfl rfl ?_
    refine fo_st rfl rfl ?_
    refine fo_b rfl rfl ?_ ?_
    · exact g_X5_writeThousandths_93 LS xs d hd _ _ _ _ _
    · refine fo_st rfl rfl ?_
      refine fo_b rfl rfl ?_ ?_
      · exact g_X5_writeThousandths_93 LS xs d hd _ _ _ _ _
      · refine fo_st rfl rfl ?_
        refine fo_get rfl (eg_5 _) rfl ?_
        refine fo_st rfl rfl ?_
        refine fo_st rfl rfl ?_
        refine fo_st rfl rfl ?_
        refine fo_st rfl rfl ?_
        refine fo_st rfl rfl ?_
        refine fo_callV (As := [.ref 3, .int ((48 : Int32) + (l3 / (100 : Int32)))]) (rest := []) rfl rfl rfl rfl (mi_rcv_of (eg_row _ rfl)) (c_X3_add LS xs d (by omega) _ _ rfl _) (fun qx1 => ?_)
        refine fo_st rfl rfl ?_
        refine fo_st rfl rfl ?_
        refine fo_st rfl rfl ?_
        refine fo_st rfl rfl ?_
        refine fo_st rfl rfl ?_
        refine fo_st rfl rfl ?_
        refine fo_st rfl rfl ?_
        refine fo_st rfl rfl ?_
        exact ih _ _ _ _ _
def f_X5_writeThousandths_52   (l1 : Int32) (l2 : Int32) (l3 : Int32) (s : fS) : Option fS := f_X5_writeThousandths_55 fuel l1 l2 l3 (0 : Int32) s
theorem g_X5_writeThousandths_52 (LS : Nat) (xs : Nat → Int32) (d : Nat) (hd : 2 ≤ d)     (l1 : Int32) (l2 : Int32) (l3 : Int32)  (s : fS) : fo cvV t_X5_writeThousandths LS xs (mi_call mi_ms false LS xs d) (52, [some (.ref 5), some (.int l1), some (.int l2), some (.int l3), none], [], enc s) (f_X5_writeThousandths_52 l1 l2 l3 s) := by
  unfold f_X5_writeThousandths_52
  refine fo_st rfl rfl ?_
  refine fo_st rfl rfl ?_
  exact g_X5_writeThousandths_55 LS xs d hd fuel _ _ _ _ _
def f_X5_writeThousandths_24   (l1 : Int32) (l2 : Int32) (s : fS) : Option fS := ((f_X5_writeWhole (l2 / (1000 : Int32)) s).bind fun qx1 => (bif decide ((mi_irem l2 (1000 : Int32)) ≤ 0) then f_X5_writeThousandths_52 l1 l2 (mi_irem l2 (1000 : Int32)) qx1 else ((f_X3_add 3 (46 : Int32) qx1).bind fun qx2 => f_X5_writeThousandths_52 l1 l2 (mi_irem l2 (1000 : Int32)) qx2)))
theorem g_X5_writeThousandths_24 (LS : Nat) (xs : Nat → Int32) (d : Nat) (hd : 2 ≤ d)     (l1 : Int32) (l2 : Int32)  (s : fS) : fo cvV t_X5_writeThousandths LS xs (mi_call mi_ms false LS xs d) (24, [some (.ref 5), some (.int l1), some (.int l2), none, none], [], enc s) (f_X5_writeThousandths_24 l1 l2 s) := by
  unfold f_X5_writeThousandths_24
  refine fo_st rfl rfl ?_
  refine fo_st rfl rfl ?_
  refine fo_st rfl rfl ?_
  refine fo_st rfl rfl ?_
  refine fo_callV (As := [.ref 5, .int (l2 / (1000 : Int32))]) (rest := []) rfl rfl rfl rfl (mi_rcv_of (eg_5 _)) (c_X5_writeWhole LS xs d (by omega) _ _) (fun qx1 => ?_)
  refine fo_st rfl rfl ?_
  refine fo_st rfl rfl ?_
  refine fo_st rfl rfl ?_
  refine fo_st rfl rfl ?_
  refine fo_st rfl rfl ?_
  refine fo_b rfl rfl ?_ ?_
  · exact g_X5_writeThousandths_52 LS xs d hd _ _ _ _
  · refine fo_st rfl rfl ?_
    refine fo_get rfl (eg_5 _) rfl ?_
    refine fo_st rfl rfl ?_
    refine fo_callV (As := [.ref 3, .int (46 : Int32)]) (rest := []) rfl rfl rfl rfl (mi_rcv_of (eg_row _ rfl)) (c_X3_add LS xs d (by omega) _ _ rfl _) (fun qx2 => ?_)
    exact g_X5_writeThousandths_52 LS xs d hd _ _ _ _
def f_X5_writeThousandths_10   (l1 : Int32) (t0 : Int32) (s : fS) : Option fS := (bif decide (0 ≤ l1) then f_X5_writeThousandths_24 l1 t0 s else ((f_X3_add 3 (45 : Int32) s).bind fun qx1 => f_X5_writeThousandths_24 l1 t0 qx1))
theorem g_X5_writeThousandths_10 (LS : Nat) (xs : Nat → Int32) (d : Nat) (hd : 2 ≤ d)     (l1 : Int32) (t0 : Int32)  (s : fS) : fo cvV t_X5_writeThousandths LS xs (mi_call mi_ms false LS xs d) (10, [some (.ref 5), some (.int l1), none, none, none], [.int t0], enc s) (f_X5_writeThousandths_10 l1 t0 s) := by
  unfold f_X5_writeThousandths_10
  refine fo_st rfl rfl ?_
  refine fo_st rfl rfl ?_
  refine fo_b rfl rfl ?_ ?_
  · exact g_X5_writeThousandths_24 LS xs d hd _ _ _
  · refine fo_st rfl rfl ?_
    refine fo_get rfl (eg_5 _) rfl ?_
    refine fo_st rfl rfl ?_
    refine fo_callV (As := [.ref 3, .int (45 : Int32)]) (rest := []) rfl rfl rfl rfl (mi_rcv_of (eg_row _ rfl)) (c_X3_add LS xs d (by omega) _ _ rfl _) (fun qx1 => ?_)
    exact g_X5_writeThousandths_24 LS xs d hd _ _ _
def f_X5_writeThousandths_0   (l1 : Int32) (s : fS) : Option fS := (bif decide (0 ≤ l1) then f_X5_writeThousandths_10 l1 l1 s else f_X5_writeThousandths_10 l1 (-l1) s)
theorem g_X5_writeThousandths_0 (LS : Nat) (xs : Nat → Int32) (d : Nat) (hd : 2 ≤ d)     (l1 : Int32)  (s : fS) : fo cvV t_X5_writeThousandths LS xs (mi_call mi_ms false LS xs d) (0, [some (.ref 5), some (.int l1), none, none, none], [], enc s) (f_X5_writeThousandths_0 l1 s) := by
  unfold f_X5_writeThousandths_0
  refine fo_st rfl rfl ?_
  refine fo_b rfl rfl ?_ ?_
  · refine fo_st rfl rfl ?_
    exact g_X5_writeThousandths_10 LS xs d hd _ _ _
  · refine fo_st rfl rfl ?_
    refine fo_st rfl rfl ?_
    refine fo_st rfl rfl ?_
    exact g_X5_writeThousandths_10 LS xs d hd _ _ _
def f_X5_writeThousandths (l1 : Int32) (s : fS) : Option fS := f_X5_writeThousandths_0 l1 s
theorem c_X5_writeThousandths (LS : Nat) (xs : Nat → Int32) (d : Nat) (hd : 3 ≤ d) (l1 : Int32)  (s : fS) : fm mi_ms cvV LS xs d 72 [.ref 5, .int l1] (enc s) (f_X5_writeThousandths l1 s) := by
  obtain ⟨e, rfl⟩ : ∃ e, d = e + 1 := ⟨d - 1, by omega⟩
  exact fm_of (M := m_X5_writeThousandths) rfl rfl (fun _ => ⟨_, rfl⟩) (g_X5_writeThousandths_0 LS xs e (by omega) l1 s)
def f_X5_writeValue_52 (b1 : Bool)  (l2 : Int32) (l3 : Int32) (s : fS) : Option fS := some s
theorem g_X5_writeValue_52 (LS : Nat) (xs : Nat → Int32) (d : Nat) (hd : 4 ≤ d) (b1 : Bool)    (l2 : Int32) (l3 : Int32)  (s : fS) : fo cvV t_X5_writeValue LS xs (mi_call mi_ms false LS xs d) (52, [some (.ref 5), some (.ref (gadr b1)), some (.int l2), some (.int l3)], [], enc s) (f_X5_writeValue_52 b1 l2 l3 s) := by
  unfold f_X5_writeValue_52
  exact fo_ret rfl rfl rfl
def f_X5_writeValue_0 (b1 : Bool)  (l2 : Int32) (l3 : Int32) (s : fS) : Option fS := ((f_X3_at (gadr b1 + 31) l2 s).bind fun qx1 => (bif decide (¬ qx1.1 = 0) then (bif decide (¬ l3 = (2 : Int32)) then ((f_X3_at (gadr b1 + 33) l2 qx1.2).bind fun qx2 => ((f_X5_writeThousandths qx2.1 qx2.2).bind fun qx3 => f_X5_writeValue_52 b1 l2 l3 qx3)) else ((f_X5_writeName (gadr b1 + 26) l2 qx1.2).bind fun qx4 => f_X5_writeValue_52 b1 l2 l3 qx4)) else ((f_X3_add 3 (45 : Int32) qx1.2).bind fun qx5 => f_X5_writeValue_52 b1 l2 l3 qx5)))
theorem g_X5_writeValue_0 (LS : Nat) (xs : Nat → Int32) (d : Nat) (hd : 4 ≤ d) (b1 : Bool)    (l2 : Int32) (l3 : Int32)  (s : fS) : fo cvV t_X5_writeValue LS xs (mi_call mi_ms false LS xs d) (0, [some (.ref 5), some (.ref (gadr b1)), some (.int l2), some (.int l3)], [], enc s) (f_X5_writeValue_0 b1 l2 l3 s) := by
  unfold f_X5_writeValue_0
  refine fo_st rfl rfl ?_
  refine fo_get rfl (eg_gr _ _) rfl ?_
  refine fo_st rfl rfl ?_
  refine fo_callI (As := [.ref (gadr b1 + 31), .int l2]) (rest := []) rfl rfl rfl rfl (mi_rcv_of (eg_row _ (gk_31 _))) (c_X3_at LS xs d (by omega) _ _ (gk_31 _) _) (fun qx1 => ?_)
  refine fo_b rfl rfl ?_ ?_
  · refine fo_st rfl rfl ?_
    refine fo_st rfl rfl ?_
    refine fo_b rfl rfl ?_ ?_
    · refine fo_st rfl rfl ?_
      refine fo_st rfl rfl ?_
      refine fo_get rfl (eg_gr _ _) rfl ?_
      refine fo_st rfl rfl ?_
      refine fo_callI (As := [.ref (gadr b1 + 33), .int l2]) (rest := [.ref 5]) rfl rfl rfl rfl (mi_rcv_of (eg_row _ (gk_33 _))) (c_X3_at LS xs d (by omega) _ _ (gk_33 _) _) (fun qx2 => ?_)
      refine fo_callV (As := [.ref 5, .int qx2.1]) (rest := []) rfl rfl rfl rfl (mi_rcv_of (eg_5 _)) (c_X5_writeThousandths LS xs d (by omega) _ _) (fun qx3 => ?_)
      exact g_X5_writeValue_52 LS xs d hd b1 _ _ _
    · refine fo_st rfl rfl ?_
      refine fo_st rfl rfl ?_
      refine fo_get rfl (eg_gr _ _) rfl ?_
      refine fo_st rfl rfl ?_
      refine fo_callV (As := [.ref 5, .ref (gadr b1 + 26), .int l2]) (rest := []) rfl rfl rfl rfl (mi_rcv_of (eg_5 _)) (c_X5_writeName LS xs d (by omega) _ _ (gk_26 _) _) (fun qx4 => ?_)
      refine fo_st rfl rfl ?_
      exact g_X5_writeValue_52 LS xs d hd b1 _ _ _
  · refine fo_st rfl rfl ?_
    refine fo_get rfl (eg_5 _) rfl ?_
    refine fo_st rfl rfl ?_
    refine fo_callV (As := [.ref 3, .int (45 : Int32)]) (rest := []) rfl rfl rfl rfl (mi_rcv_of (eg_row _ rfl)) (c_X3_add LS xs d (by omega) _ _ rfl _) (fun qx5 => ?_)
    refine fo_st rfl rfl ?_
    exact g_X5_writeValue_52 LS xs d hd b1 _ _ _
def f_X5_writeValue (b1 : Bool) (l2 : Int32) (l3 : Int32) (s : fS) : Option fS := f_X5_writeValue_0 b1 l2 l3 s
theorem c_X5_writeValue (LS : Nat) (xs : Nat → Int32) (d : Nat) (hd : 5 ≤ d) (b1 : Bool) (l2 : Int32) (l3 : Int32)  (s : fS) : fm mi_ms cvV LS xs d 70 [.ref 5, .ref (gadr b1), .int l2, .int l3] (enc s) (f_X5_writeValue b1 l2 l3 s) := by
  obtain ⟨e, rfl⟩ : ∃ e, d = e + 1 := ⟨d - 1, by omega⟩
  exact fm_of (M := m_X5_writeValue) rfl rfl (fun _ => ⟨_, rfl⟩) (g_X5_writeValue_0 LS xs e (by omega) b1 l2 l3 s)
def f_X5_writeArc_43 (b1 : Bool)  : Nat → Int32 → Int32 → fS → Option fS
  | 0, _, _, _ => none
  | n + 1, l2, l3, s => (bif decide ((gI s (gadr b1 + 18) 1) ≤ l3) then some s else ((f_X3_add 3 (32 : Int32) s).bind fun qx1 => ((f_X1_roomOf b1 l2 l3 qx1).bind fun qx2 => ((f_X3_at (gadr b1 + 18) l3 qx2.2).bind fun qx3 => ((f_X5_writeValue b1 qx2.1 qx3.1 qx3.2).bind fun qx4 => f_X5_writeArc_43 b1 n l2 (l3 + Int32.ofInt (1)) qx4)))))
theorem g_X5_writeArc_43 (LS : Nat) (xs : Nat → Int32) (d : Nat) (hd : 5 ≤ d) (b1 : Bool)    (n : Nat) : ∀ (l2 : Int32) (l3 : Int32) (s : fS), fo cvV t_X5_writeArc LS xs (mi_call mi_ms false LS xs d) (43, [some (.ref 5), some (.ref (gadr b1)), some (.int l2), some (.int l3)], [], enc s) (f_X5_writeArc_43 b1 n l2 l3 s) := by
  induction n with
  | zero => intro l2 l3 s; exact fo_none
  | succ n ih =>
    intro l2 l3 s
    rw [f_X5_writeArc_43]
    refine fo_st rfl rfl ?_
    refine fo_st rfl rfl ?_
    refine fo_get rfl (eg_gr _ _) rfl ?_
    refine fo_get rfl (eg_row _ (gk_18 _)) rfl ?_
    refine fo_b rfl rfl ?_ ?_
    · exact fo_ret rfl rfl rfl
    · refine fo_st rfl rfl ?_
      refine fo_get rfl (eg_5 _) rfl ?_
      refine fo_st rfl rfl ?_
      refine fo_callV (As := [.ref 3, .int (32 : Int32)]) (rest := []) rfl rfl rfl rfl (mi_rcv_of (eg_row _ rfl)) (c_X3_add LS xs d (by omega) _ _ rfl _) (fun qx1 => ?_)
      refine fo_st rfl rfl ?_
      refine fo_st rfl rfl ?_
      refine fo_st rfl rfl ?_
      refine fo_st rfl rfl ?_
      refine fo_st rfl rfl ?_
      refine fo_callI (As := [.ref (gadr b1), .int l2, .int l3]) (rest := [.ref (gadr b1), .ref 5]) rfl rfl rfl rfl (mi_rcv_of (eg_gr _ _)) (c_X1_roomOf LS xs d (by omega) _ _ _ _) (fun qx2 => ?_)
      refine fo_st rfl rfl ?_
      refine fo_get rfl (eg_gr _ _) rfl ?_
      refine fo_st rfl rfl ?_
      refine fo_callI (As := [.ref (gadr b1 + 18), .int l3]) (rest := [.int qx2.1, .ref (gadr b1), .ref 5]) rfl rfl rfl rfl (mi_rcv_of (eg_row _ (gk_18 _))) (c_X3_at LS xs d (by omega) _ _ (gk_18 _) _) (fun qx3 => ?_)
      refine fo_callV (As := [.ref 5, .ref (gadr b1), .int qx2.1, .int qx3.1]) (rest := []) rfl rfl rfl rfl (mi_rcv_of (eg_5 _)) (c_X5_writeValue LS xs d (by omega) _ _ _ _) (fun qx4 => ?_)
      refine fo_st rfl rfl ?_
      refine fo_st rfl rfl ?_
      exact ih _ _ _
def f_X5_writeArc_0 (b1 : Bool)  (l2 : Int32) (s : fS) : Option fS := ((f_X3_at (gadr b1 + 20) l2 s).bind fun qx1 => ((f_X5_writeName (gadr b1 + 3) qx1.1 qx1.2).bind fun qx2 => ((f_X3_add 3 (32 : Int32) qx2).bind fun qx3 => ((f_X3_at (gadr b1 + 22) l2 qx3).bind fun qx4 => ((f_X5_writeName (gadr b1 + 3) qx4.1 qx4.2).bind fun qx5 => f_X5_writeArc_43 b1 fuel l2 (0 : Int32) qx5)))))
theorem g_X5_writeArc_0 (LS : Nat) (xs : Nat → Int32) (d : Nat) (hd : 5 ≤ d) (b1 : Bool)    (l2 : Int32)  (s : fS) : fo cvV t_X5_writeArc LS xs (mi_call mi_ms false LS xs d) (0, [some (.ref 5), some (.ref (gadr b1)), some (.int l2), none], [], enc s) (f_X5_writeArc_0 b1 l2 s) := by
  unfold f_X5_writeArc_0
  refine fo_st rfl rfl ?_
  refine fo_st rfl rfl ?_
  refine fo_get rfl (eg_gr _ _) rfl ?_
  refine fo_st rfl rfl ?_
  refine fo_get rfl (eg_gr _ _) rfl ?_
  refine fo_st rfl rfl ?_
  refine fo_callI (As := [.ref (gadr b1 + 20), .int l2]) (rest := [.ref (gadr b1 + 3), .ref 5]) rfl rfl rfl rfl (mi_rcv_of (eg_row _ (gk_20 _))) (c_X3_at LS xs d (by omega) _ _ (gk_20 _) _) (fun qx1 => ?_)
  refine fo_callV (As := [.ref 5, .ref (gadr b1 + 3), .int qx1.1]) (rest := []) rfl rfl rfl rfl (mi_rcv_of (eg_5 _)) (c_X5_writeName LS xs d (by omega) _ _ (gk_3 _) _) (fun qx2 => ?_)
  refine fo_st rfl rfl ?_
  refine fo_get rfl (eg_5 _) rfl ?_
  refine fo_st rfl rfl ?_
  refine fo_callV (As := [.ref 3, .int (32 : Int32)]) (rest := []) rfl rfl rfl rfl (mi_rcv_of (eg_row _ rfl)) (c_X3_add LS xs d (by omega) _ _ rfl _) (fun qx3 => ?_)
  refine fo_st rfl rfl ?_
  refine fo_st rfl rfl ?_
  refine fo_get rfl (eg_gr _ _) rfl ?_
  refine fo_st rfl rfl ?_
  refine fo_get rfl (eg_gr _ _) rfl ?_
  refine fo_st rfl rfl ?_
  refine fo_callI (As := [.ref (gadr b1 + 22), .int l2]) (rest := [.ref (gadr b1 + 3), .ref 5]) rfl rfl rfl rfl (mi_rcv_of (eg_row _ (gk_22 _))) (c_X3_at LS xs d (by omega) _ _ (gk_22 _) _) (fun qx4 => ?_)
  refine fo_callV (As := [.ref 5, .ref (gadr b1 + 3), .int qx4.1]) (rest := []) rfl rfl rfl rfl (mi_rcv_of (eg_5 _)) (c_X5_writeName LS xs d (by omega) _ _ (gk_3 _) _) (fun qx5 => ?_)
  refine fo_st rfl rfl ?_
  refine fo_st rfl rfl ?_
  exact g_X5_writeArc_43 LS xs d hd b1 fuel _ _ _
def f_X5_writeArc (b1 : Bool) (l2 : Int32) (s : fS) : Option fS := f_X5_writeArc_0 b1 l2 s
theorem c_X5_writeArc (LS : Nat) (xs : Nat → Int32) (d : Nat) (hd : 6 ≤ d) (b1 : Bool) (l2 : Int32)  (s : fS) : fm mi_ms cvV LS xs d 69 [.ref 5, .ref (gadr b1), .int l2] (enc s) (f_X5_writeArc b1 l2 s) := by
  obtain ⟨e, rfl⟩ : ∃ e, d = e + 1 := ⟨d - 1, by omega⟩
  exact fm_of (M := m_X5_writeArc) rfl rfl (fun _ => ⟨_, rfl⟩) (g_X5_writeArc_0 LS xs e (by omega) b1 l2 s)
def f_X5_writeGraph_106 (b1 : Bool) (r17 : Int32 → Int32 → Int32 → Int32 → fS → Option fS) (l2 : Int32) (l3 : Int32) (l4 : Int32) (l5 : Int32) (s : fS) : Option fS := ((f_X3_add 3 (10 : Int32) s).bind fun qx1 => r17 l2 l3 l4 (l5 + Int32.ofInt (1)) qx1)
theorem g_X5_writeGraph_106 (LS : Nat) (xs : Nat → Int32) (d : Nat) (hd : 6 ≤ d) (b1 : Bool)  (r17 : Int32 → Int32 → Int32 → Int32 → fS → Option fS) (q17 : ∀ (l2 : Int32) (l3 : Int32) (l4 : Int32) (l5 : Int32) (s : fS), fo cvV t_X5_writeGraph LS xs (mi_call mi_ms false LS xs d) (17, [some (.ref 5), some (.ref (gadr b1)), some (.int l2), some (.int l3), some (.int l4), some (.int l5)], [], enc s) (r17 l2 l3 l4 l5 s)) (l2 : Int32) (l3 : Int32) (l4 : Int32) (l5 : Int32)  (s : fS) : fo cvV t_X5_writeGraph LS xs (mi_call mi_ms false LS xs d) (106, [some (.ref 5), some (.ref (gadr b1)), some (.int l2), some (.int l3), some (.int l4), some (.int l5)], [], enc s) (f_X5_writeGraph_106 b1 r17 l2 l3 l4 l5 s) := by
  unfold f_X5_writeGraph_106
  refine fo_st rfl rfl ?_
  refine fo_get rfl (eg_5 _) rfl ?_
  refine fo_st rfl rfl ?_
  refine fo_callV (As := [.ref 3, .int (10 : Int32)]) (rest := []) rfl rfl rfl rfl (mi_rcv_of (eg_row _ rfl)) (c_X3_add LS xs d (by omega) _ _ rfl _) (fun qx1 => ?_)
  refine fo_st rfl rfl ?_
  refine fo_st rfl rfl ?_
  exact q17 _ _ _ _ _
def f_X5_writeGraph_17 (b1 : Bool)  : Nat → Int32 → Int32 → Int32 → Int32 → fS → Option fS
  | 0, _, _, _, _, _ => none
  | n + 1, l2, l3, l4, l5, s => (bif decide ((gI s (gadr b1 + 35) 1) ≤ l5) then some s else ((f_X3_at (gadr b1 + 35) l5 s).bind fun qx1 => (bif decide (qx1.1.toInt = 0) then ((f_X5_writeComment b1 l2 qx1.2).bind fun qx2 => f_X5_writeGraph_106 b1 (fun l2' l3' l4' l5' s' => f_X5_writeGraph_17 b1 n l2' l3' l4' l5' s') (l2 + Int32.ofInt (1)) l3 l4 l5 qx2) else (bif decide (qx1.1.toInt = 1) then ((f_X5_writeCount b1 qx1.2).bind fun qx3 => f_X5_writeGraph_106 b1 (fun l2' l3' l4' l5' s' => f_X5_writeGraph_17 b1 n l2' l3' l4' l5' s') l2 l3 l4 l5 qx3) else (bif decide (qx1.1.toInt = 2) then ((f_X5_writeHead b1 l3 qx1.2).bind fun qx4 => f_X5_writeGraph_106 b1 (fun l2' l3' l4' l5' s' => f_X5_writeGraph_17 b1 n l2' l3' l4' l5' s') l2 (l3 + Int32.ofInt (1)) l4 l5 qx4) else ((f_X5_writeArc b1 l4 qx1.2).bind fun qx5 => f_X5_writeGraph_106 b1 (fun l2' l3' l4' l5' s' => f_X5_writeGraph_17 b1 n l2' l3' l4' l5' s') l2 l3 (l4 + Int32.ofInt (1)) l5 qx5))))))
theorem g_X5_writeGraph_17 (LS : Nat) (xs : Nat → Int32) (d : Nat) (hd : 6 ≤ d) (b1 : Bool)    (n : Nat) : ∀ (l2 : Int32) (l3 : Int32) (l4 : Int32) (l5 : Int32) (s : fS), fo cvV t_X5_writeGraph LS xs (mi_call mi_ms false LS xs d) (17, [some (.ref 5), some (.ref (gadr b1)), some (.int l2), some (.int l3), some (.int l4), some (.int l5)], [], enc s) (f_X5_writeGraph_17 b1 n l2 l3 l4 l5 s) := by
  induction n with
  | zero => intro l2 l3 l4 l5 s; exact fo_none
  | succ n ih =>
    intro l2 l3 l4 l5 s
    rw [f_X5_writeGraph_17]
    refine fo_st rfl rfl ?_
    refine fo_st rfl rfl ?_
    refine fo_get rfl (eg_gr _ _) rfl ?_
    refine fo_get rfl (eg_row _ (gk_35 _)) rfl ?_
    refine fo_b rfl rfl ?_ ?_
    · exact fo_ret rfl rfl rfl
    · refine fo_st rfl rfl ?_
      refine fo_get rfl (eg_gr _ _) rfl ?_
      refine fo_st rfl rfl ?_
      refine fo_callI (As := [.ref (gadr b1 + 35), .int l5]) (rest := []) rfl rfl rfl rfl (mi_rcv_of (eg_row _ (gk_35 _))) (c_X3_at LS xs d (by omega) _ _ (gk_35 _) _) (fun qx1 => ?_)
      refine fo_tab rfl rfl ?_
      refine fo_lk ?_ ?_
      · refine fo_st rfl rfl ?_
        refine fo_st rfl rfl ?_
        refine fo_st rfl rfl ?_
        refine fo_callV (As := [.ref 5, .ref (gadr b1), .int l2]) (rest := []) rfl rfl rfl rfl (mi_rcv_of (eg_5 _)) (c_X5_writeComment LS xs d (by omega) _ _ _) (fun qx2 => ?_)
        refine fo_st rfl rfl ?_
        refine fo_st rfl rfl ?_
        exact g_X5_writeGraph_106 LS xs d hd b1 _ ih _ _ _ _ _
      · refine fo_lk ?_ ?_
        · refine fo_st rfl rfl ?_
          refine fo_st rfl rfl ?_
          refine fo_callV (As := [.ref 5, .ref (gadr b1)]) (rest := []) rfl rfl rfl rfl (mi_rcv_of (eg_5 _)) (c_X5_writeCount LS xs d (by omega) _ _) (fun qx3 => ?_)
          refine fo_st rfl rfl ?_
          exact g_X5_writeGraph_106 LS xs d hd b1 _ ih _ _ _ _ _
        · refine fo_lk ?_ ?_
          · refine fo_st rfl rfl ?_
            refine fo_st rfl rfl ?_
            refine fo_st rfl rfl ?_
            refine fo_callV (As := [.ref 5, .ref (gadr b1), .int l3]) (rest := []) rfl rfl rfl rfl (mi_rcv_of (eg_5 _)) (c_X5_writeHead LS xs d (by omega) _ _ _) (fun qx4 => ?_)
            refine fo_st rfl rfl ?_
            refine fo_st rfl rfl ?_
            exact g_X5_writeGraph_106 LS xs d hd b1 _ ih _ _ _ _ _
          · show fo _ _ _ _ _ (96, _, _, _) _
            refine fo_st rfl rfl ?_
            refine fo_st rfl rfl ?_
            refine fo_st rfl rfl ?_
            refine fo_callV (As := [.ref 5, .ref (gadr b1), .int l4]) (rest := []) rfl rfl rfl rfl (mi_rcv_of (eg_5 _)) (c_X5_writeArc LS xs d (by omega) _ _ _) (fun qx5 => ?_)
            refine fo_st rfl rfl ?_
            exact g_X5_writeGraph_106 LS xs d hd b1 _ ih _ _ _ _ _
def f_X5_writeGraph_0 (b1 : Bool)   (s : fS) : Option fS := ((f_X3_clear 3 s).bind fun qx1 => f_X5_writeGraph_17 b1 fuel (0 : Int32) (0 : Int32) (0 : Int32) (0 : Int32) qx1)
theorem g_X5_writeGraph_0 (LS : Nat) (xs : Nat → Int32) (d : Nat) (hd : 6 ≤ d) (b1 : Bool)      (s : fS) : fo cvV t_X5_writeGraph LS xs (mi_call mi_ms false LS xs d) (0, [some (.ref 5), some (.ref (gadr b1)), none, none, none, none], [], enc s) (f_X5_writeGraph_0 b1 s) := by
  unfold f_X5_writeGraph_0
  refine fo_st rfl rfl ?_
  refine fo_get rfl (eg_5 _) rfl ?_
  refine fo_callV (As := [.ref 3]) (rest := []) rfl rfl rfl rfl (mi_rcv_of (eg_row _ rfl)) (c_X3_clear LS xs d (by omega) _ rfl _) (fun qx1 => ?_)
  refine fo_st rfl rfl ?_
  refine fo_st rfl rfl ?_
  refine fo_st rfl rfl ?_
  refine fo_st rfl rfl ?_
  refine fo_st rfl rfl ?_
  refine fo_st rfl rfl ?_
  refine fo_st rfl rfl ?_
  refine fo_st rfl rfl ?_
  exact g_X5_writeGraph_17 LS xs d hd b1 fuel _ _ _ _ _
def f_X5_writeGraph (b1 : Bool) (s : fS) : Option fS := f_X5_writeGraph_0 b1 s
theorem c_X5_writeGraph (LS : Nat) (xs : Nat → Int32) (d : Nat) (hd : 7 ≤ d) (b1 : Bool)  (s : fS) : fm mi_ms cvV LS xs d 64 [.ref 5, .ref (gadr b1)] (enc s) (f_X5_writeGraph b1 s) := by
  obtain ⟨e, rfl⟩ : ∃ e, d = e + 1 := ⟨d - 1, by omega⟩
  exact fm_of (M := m_X5_writeGraph) rfl rfl (fun _ => ⟨_, rfl⟩) (g_X5_writeGraph_0 LS xs e (by omega) b1 s)
end FM4
