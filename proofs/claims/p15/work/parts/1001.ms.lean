section FM1
def f_X4_add_0 (a0 : Nat)  (l1 : Int32) (l2 : Int32) (s : fS) : Option fS := ((f_X3_add (a0 + 1) l1 s).bind fun qx1 => ((f_X3_add (a0 + 3) l2 qx1).bind fun qx2 => some (sI qx2 a0 3 (gI qx2 (a0 + 3) 1))))
theorem g_X4_add_0 (LS : Nat) (xs : Nat → Int32) (d : Nat) (hd : 1 ≤ d) (a0 : Nat) (h0 : isSp a0 = true)   (l1 : Int32) (l2 : Int32)  (s : fS) : fo cvV t_X4_add LS xs (mi_call mi_ms false LS xs d) (0, [some (.ref a0), some (.int l1), some (.int l2)], [], enc s) (f_X4_add_0 a0 l1 l2 s) := by
  unfold f_X4_add_0
  refine fo_st rfl rfl ?_
  refine fo_get rfl (eg_sp _ h0) rfl ?_
  refine fo_st rfl rfl ?_
  refine fo_callV (As := [.ref (a0 + 1), .int l1]) (rest := []) rfl rfl rfl rfl (mi_rcv_of (eg_row _ (sp_st h0))) (c_X3_add LS xs d (by omega) _ _ (sp_st h0) _) (fun qx1 => ?_)
  refine fo_st rfl rfl ?_
  refine fo_get rfl (eg_sp _ h0) rfl ?_
  refine fo_st rfl rfl ?_
  refine fo_callV (As := [.ref (a0 + 3), .int l2]) (rest := []) rfl rfl rfl rfl (mi_rcv_of (eg_row _ (sp_ln h0))) (c_X3_add LS xs d (by omega) _ _ (sp_ln h0) _) (fun qx2 => ?_)
  refine fo_st rfl rfl ?_
  refine fo_st rfl rfl ?_
  refine fo_get rfl (eg_sp _ h0) rfl ?_
  refine fo_get rfl (eg_row _ (sp_ln h0)) rfl ?_
  refine fo_put rfl (eg_sp _ h0) rfl rfl (es_sp _ h0 _) ?_
  exact fo_ret rfl rfl rfl
def f_X4_add (a0 : Nat) (l1 : Int32) (l2 : Int32) (s : fS) : Option fS := f_X4_add_0 a0 l1 l2 s
theorem c_X4_add (LS : Nat) (xs : Nat → Int32) (d : Nat) (hd : 2 ≤ d) (a0 : Nat) (l1 : Int32) (l2 : Int32) (h0 : isSp a0 = true) (s : fS) : fm mi_ms cvV LS xs d 56 [.ref a0, .int l1, .int l2] (enc s) (f_X4_add a0 l1 l2 s) := by
  obtain ⟨e, rfl⟩ : ∃ e, d = e + 1 := ⟨d - 1, by omega⟩
  exact fm_of (M := m_X4_add) rfl rfl (fun _ => ⟨_, rfl⟩) (g_X4_add_0 LS xs e (by omega) a0 h0 l1 l2 s)
def f_X1_addValue_0 (b0 : Bool)  (l1 : Int32) (l2 : Int32) (l3 : Int32) (s : fS) : Option fS := ((f_X3_add (gadr b0 + 31) l1 s).bind fun qx1 => ((f_X3_add (gadr b0 + 33) l2 qx1).bind fun qx2 => ((f_X4_add (gadr b0 + 26) l3 ((gI qx2 (gadr b0 + 1) 1) - l3) qx2).bind fun qx3 => some qx3)))
theorem g_X1_addValue_0 (LS : Nat) (xs : Nat → Int32) (d : Nat) (hd : 2 ≤ d) (b0 : Bool)    (l1 : Int32) (l2 : Int32) (l3 : Int32)  (s : fS) : fo cvV t_X1_addValue LS xs (mi_call mi_ms false LS xs d) (0, [some (.ref (gadr b0)), some (.int l1), some (.int l2), some (.int l3)], [], enc s) (f_X1_addValue_0 b0 l1 l2 l3 s) := by
  unfold f_X1_addValue_0
  refine fo_st rfl rfl ?_
  refine fo_get rfl (eg_gr _ _) rfl ?_
  refine fo_st rfl rfl ?_
  refine fo_callV (As := [.ref (gadr b0 + 31), .int l1]) (rest := []) rfl rfl rfl rfl (mi_rcv_of (eg_row _ (gk_31 _))) (c_X3_add LS xs d (by omega) _ _ (gk_31 _) _) (fun qx1 => ?_)
  refine fo_st rfl rfl ?_
  refine fo_get rfl (eg_gr _ _) rfl ?_
  refine fo_st rfl rfl ?_
  refine fo_callV (As := [.ref (gadr b0 + 33), .int l2]) (rest := []) rfl rfl rfl rfl (mi_rcv_of (eg_row _ (gk_33 _))) (c_X3_add LS xs d (by omega) _ _ (gk_33 _) _) (fun qx2 => ?_)
  refine fo_st rfl rfl ?_
  refine fo_get rfl (eg_gr _ _) rfl ?_
  refine fo_st rfl rfl ?_
  refine fo_st rfl rfl ?_
  refine fo_get rfl (eg_gr _ _) rfl ?_
  refine fo_get rfl (eg_row _ (gk_1 _)) rfl ?_
  refine fo_st rfl rfl ?_
  refine fo_st rfl rfl ?_
  refine fo_callV (As := [.ref (gadr b0 + 26), .int l3, .int ((gI qx2 (gadr b0 + 1) 1) - l3)]) (rest := []) rfl rfl rfl rfl (mi_rcv_of (eg_sp _ (gk_26 _))) (c_X4_add LS xs d (by omega) _ _ _ (gk_26 _) _) (fun qx3 => ?_)
  exact fo_ret rfl rfl rfl
def f_X1_addValue (b0 : Bool) (l1 : Int32) (l2 : Int32) (l3 : Int32) (s : fS) : Option fS := f_X1_addValue_0 b0 l1 l2 l3 s
theorem c_X1_addValue (LS : Nat) (xs : Nat → Int32) (d : Nat) (hd : 3 ≤ d) (b0 : Bool) (l1 : Int32) (l2 : Int32) (l3 : Int32)  (s : fS) : fm mi_ms cvV LS xs d 18 [.ref (gadr b0), .int l1, .int l2, .int l3] (enc s) (f_X1_addValue b0 l1 l2 l3 s) := by
  obtain ⟨e, rfl⟩ : ∃ e, d = e + 1 := ⟨d - 1, by omega⟩
  exact fm_of (M := m_X1_addValue) rfl rfl (fun _ => ⟨_, rfl⟩) (g_X1_addValue_0 LS xs e (by omega) b0 l1 l2 l3 s)
def f_X3_cut_0 (a0 : Nat)  (l1 : Int32) (s : fS) : Option fS := some (sI s a0 1 (if (0 : Int32) < (if l1 < (gI s a0 1) then l1 else (gI s a0 1)) then (if l1 < (gI s a0 1) then l1 else (gI s a0 1)) else (0 : Int32)))
theorem g_X3_cut_0 (LS : Nat) (xs : Nat → Int32) (d : Nat) (hd : 0 ≤ d) (a0 : Nat) (h0 : isRow a0 = true)   (l1 : Int32)  (s : fS) : fo cvV t_X3_cut LS xs (mi_call mi_ms false LS xs d) (0, [some (.ref a0), some (.int l1)], [], enc s) (f_X3_cut_0 a0 l1 s) := by
  unfold f_X3_cut_0
  refine fo_st rfl rfl ?_
  refine fo_st rfl rfl ?_
  refine fo_st rfl rfl ?_
  refine fo_get rfl (eg_row _ h0) rfl ?_
  refine fo_st rfl rfl ?_
  refine fo_st rfl rfl ?_
  refine fo_st rfl rfl ?_
  refine fo_put rfl (eg_row _ h0) rfl rfl (es_row _ h0 _) ?_
  exact fo_ret rfl rfl rfl
def f_X3_cut (a0 : Nat) (l1 : Int32) (s : fS) : Option fS := f_X3_cut_0 a0 l1 s
theorem c_X3_cut (LS : Nat) (xs : Nat → Int32) (d : Nat) (hd : 1 ≤ d) (a0 : Nat) (l1 : Int32) (h0 : isRow a0 = true) (s : fS) : fm mi_ms cvV LS xs d 48 [.ref a0, .int l1] (enc s) (f_X3_cut a0 l1 s) := by
  obtain ⟨e, rfl⟩ : ∃ e, d = e + 1 := ⟨d - 1, by omega⟩
  exact fm_of (M := m_X3_cut) rfl rfl (fun _ => ⟨_, rfl⟩) (g_X3_cut_0 LS xs e (by omega) a0 h0 l1 s)
def f_X4_cut_0 (a0 : Nat)  (l1 : Int32) (s : fS) : Option fS := ((f_X3_cut (a0 + 1) l1 s).bind fun qx1 => ((f_X3_cut (a0 + 3) l1 qx1).bind fun qx2 => some (sI qx2 a0 3 (gI qx2 (a0 + 3) 1))))
theorem g_X4_cut_0 (LS : Nat) (xs : Nat → Int32) (d : Nat) (hd : 1 ≤ d) (a0 : Nat) (h0 : isSp a0 = true)   (l1 : Int32)  (s : fS) : fo cvV t_X4_cut LS xs (mi_call mi_ms false LS xs d) (0, [some (.ref a0), some (.int l1)], [], enc s) (f_X4_cut_0 a0 l1 s) := by
  unfold f_X4_cut_0
  refine fo_st rfl rfl ?_
  refine fo_get rfl (eg_sp _ h0) rfl ?_
  refine fo_st rfl rfl ?_
  refine fo_callV (As := [.ref (a0 + 1), .int l1]) (rest := []) rfl rfl rfl rfl (mi_rcv_of (eg_row _ (sp_st h0))) (c_X3_cut LS xs d (by omega) _ _ (sp_st h0) _) (fun qx1 => ?_)
  refine fo_st rfl rfl ?_
  refine fo_get rfl (eg_sp _ h0) rfl ?_
  refine fo_st rfl rfl ?_
  refine fo_callV (As := [.ref (a0 + 3), .int l1]) (rest := []) rfl rfl rfl rfl (mi_rcv_of (eg_row _ (sp_ln h0))) (c_X3_cut LS xs d (by omega) _ _ (sp_ln h0) _) (fun qx2 => ?_)
  refine fo_st rfl rfl ?_
  refine fo_st rfl rfl ?_
  refine fo_get rfl (eg_sp _ h0) rfl ?_
  refine fo_get rfl (eg_row _ (sp_ln h0)) rfl ?_
  refine fo_put rfl (eg_sp _ h0) rfl rfl (es_sp _ h0 _) ?_
  exact fo_ret rfl rfl rfl
def f_X4_cut (a0 : Nat) (l1 : Int32) (s : fS) : Option fS := f_X4_cut_0 a0 l1 s
theorem c_X4_cut (LS : Nat) (xs : Nat → Int32) (d : Nat) (hd : 2 ≤ d) (a0 : Nat) (l1 : Int32) (h0 : isSp a0 = true) (s : fS) : fm mi_ms cvV LS xs d 55 [.ref a0, .int l1] (enc s) (f_X4_cut a0 l1 s) := by
  obtain ⟨e, rfl⟩ : ∃ e, d = e + 1 := ⟨d - 1, by omega⟩
  exact fm_of (M := m_X4_cut) rfl rfl (fun _ => ⟨_, rfl⟩) (g_X4_cut_0 LS xs e (by omega) a0 h0 l1 s)
def f_X1_leaveArcOut_0 (b0 : Bool)   (s : fS) : Option fS := ((f_X1_roomOf b0 (gI s (gadr b0 + 20) 1) (0 : Int32) s).bind fun qx1 => ((f_X3_cut (gadr b0 + 31) qx1.1 qx1.2).bind fun qx2 => ((f_X3_cut (gadr b0 + 33) qx1.1 qx2).bind fun qx3 => ((f_X4_cut (gadr b0 + 26) qx1.1 qx3).bind fun qx4 => some (sI qx4 (gadr b0) 12 ((gI qx4 (gadr b0) 12) + (1 : Int32)))))))
theorem g_X1_leaveArcOut_0 (LS : Nat) (xs : Nat → Int32) (d : Nat) (hd : 2 ≤ d) (b0 : Bool)      (s : fS) : fo cvV t_X1_leaveArcOut LS xs (mi_call mi_ms false LS xs d) (0, [some (.ref (gadr b0)), none], [], enc s) (f_X1_leaveArcOut_0 b0 s) := by
  unfold f_X1_leaveArcOut_0
  refine fo_st rfl rfl ?_
  refine fo_st rfl rfl ?_
  refine fo_get rfl (eg_gr _ _) rfl ?_
  refine fo_get rfl (eg_row _ (gk_20 _)) rfl ?_
  refine fo_st rfl rfl ?_
  refine fo_callI (As := [.ref (gadr b0), .int (gI s (gadr b0 + 20) 1), .int (0 : Int32)]) (rest := []) rfl rfl rfl rfl (mi_rcv_of (eg_gr _ _)) (c_X1_roomOf LS xs d (by omega) _ _ _ _) (fun qx1 => ?_)
  refine fo_st rfl rfl ?_
  refine fo_st rfl rfl ?_
  refine fo_get rfl (eg_gr _ _) rfl ?_
  refine fo_st rfl rfl ?_
  refine fo_callV (As := [.ref (gadr b0 + 31), .int qx1.1]) (rest := []) rfl rfl rfl rfl (mi_rcv_of (eg_row _ (gk_31 _))) (c_X3_cut LS xs d (by omega) _ _ (gk_31 _) _) (fun qx2 => ?_)
  refine fo_st rfl rfl ?_
  refine fo_get rfl (eg_gr _ _) rfl ?_
  refine fo_st rfl rfl ?_
  refine fo_callV (As := [.ref (gadr b0 + 33), .int qx1.1]) (rest := []) rfl rfl rfl rfl (mi_rcv_of (eg_row _ (gk_33 _))) (c_X3_cut LS xs d (by omega) _ _ (gk_33 _) _) (fun qx3 => ?_)
  refine fo_st rfl rfl ?_
  refine fo_get rfl (eg_gr _ _) rfl ?_
  refine fo_st rfl rfl ?_
  refine fo_callV (As := [.ref (gadr b0 + 26), .int qx1.1]) (rest := []) rfl rfl rfl rfl (mi_rcv_of (eg_sp _ (gk_26 _))) (c_X4_cut LS xs d (by omega) _ _ (gk_26 _) _) (fun qx4 => ?_)
  refine fo_st rfl rfl ?_
  refine fo_st rfl rfl ?_
  refine fo_get rfl (eg_gr _ _) rfl ?_
  refine fo_st rfl rfl ?_
  refine fo_st rfl rfl ?_
  refine fo_put rfl (eg_gr _ _) rfl rfl (es_gr_12 _ _ _) ?_
  exact fo_ret rfl rfl rfl
def f_X1_leaveArcOut (b0 : Bool) (s : fS) : Option fS := f_X1_leaveArcOut_0 b0 s
theorem c_X1_leaveArcOut (LS : Nat) (xs : Nat → Int32) (d : Nat) (hd : 3 ≤ d) (b0 : Bool)  (s : fS) : fm mi_ms cvV LS xs d 19 [.ref (gadr b0)] (enc s) (f_X1_leaveArcOut b0 s) := by
  obtain ⟨e, rfl⟩ : ∃ e, d = e + 1 := ⟨d - 1, by omega⟩
  exact fm_of (M := m_X1_leaveArcOut) rfl rfl (fun _ => ⟨_, rfl⟩) (g_X1_leaveArcOut_0 LS xs e (by omega) b0 s)
def f_X1_guessKind_46 (b0 : Bool) (r4 : Int32 → Int32 → Int32 → fS → Option (Int32 × fS)) (l1 : Int32) (l2 : Int32) (l3 : Int32) (l4 : Int32) (s : fS) : Option (Int32 × fS) := r4 l1 l2 (l3 + Int32.ofInt (1)) s
theorem g_X1_guessKind_46 (LS : Nat) (xs : Nat → Int32) (d : Nat) (hd : 1 ≤ d) (b0 : Bool)  (r4 : Int32 → Int32 → Int32 → fS → Option (Int32 × fS)) (q4 : ∀ (l1 : Int32) (l2 : Int32) (l3 : Int32) (d4 : Option Value) (s : fS), fo cvI t_X1_guessKind LS xs (mi_call mi_ms false LS xs d) (4, [some (.ref (gadr b0)), some (.int l1), some (.int l2), some (.int l3), d4], [], enc s) (r4 l1 l2 l3 s)) (l1 : Int32) (l2 : Int32) (l3 : Int32) (l4 : Int32)  (s : fS) : fo cvI t_X1_guessKind LS xs (mi_call mi_ms false LS xs d) (46, [some (.ref (gadr b0)), some (.int l1), some (.int l2), some (.int l3), some (.int l4)], [], enc s) (f_X1_guessKind_46 b0 r4 l1 l2 l3 l4 s) := by
  unfold f_X1_guessKind_46
  refine fo_st rfl rfl ?_
  refine fo_st rfl rfl ?_
  exact q4 _ _ _ _ _
def f_X1_guessKind_4 (b0 : Bool)  : Nat → Int32 → Int32 → Int32 → fS → Option (Int32 × fS)
  | 0, _, _, _, _ => none
  | n + 1, l1, l2, l3, s => (bif decide ((gI s (gadr b0 + 20) 1) ≤ l3) then some (l2, s) else ((f_X1_roomOf b0 l3 l1 s).bind fun qx1 => ((f_X3_at (gadr b0 + 31) qx1.1 qx1.2).bind fun qx2 => (bif decide (¬ qx2.1 = (3 : Int32)) then (bif decide (¬ qx2.1 = (2 : Int32)) then f_X1_guessKind_46 b0 (fun l1' l2' l3' s' => f_X1_guessKind_4 b0 n l1' l2' l3' s') l1 l2 l3 qx2.1 qx2.2 else f_X1_guessKind_46 b0 (fun l1' l2' l3' s' => f_X1_guessKind_4 b0 n l1' l2' l3' s') l1 (1 : Int32) l3 qx2.1 qx2.2) else some ((2 : Int32), qx2.2)))))
theorem g_X1_guessKind_4 (LS : Nat) (xs : Nat → Int32) (d : Nat) (hd : 1 ≤ d) (b0 : Bool)    (n : Nat) : ∀ (l1 : Int32) (l2 : Int32) (l3 : Int32) (d4 : Option Value) (s : fS), fo cvI t_X1_guessKind LS xs (mi_call mi_ms false LS xs d) (4, [some (.ref (gadr b0)), some (.int l1), some (.int l2), some (.int l3), d4], [], enc s) (f_X1_guessKind_4 b0 n l1 l2 l3 s) := by
  induction n with
  | zero => intro l1 l2 l3 d4 s; exact fo_none
  | succ n ih =>
    intro l1 l2 l3 d4 s
    rw [f_X1_guessKind_4]
    refine fo_st rfl rfl ?_
    refine fo_st rfl rfl ?_
    refine fo_get rfl (eg_gr _ _) rfl ?_
    refine fo_get rfl (eg_row _ (gk_20 _)) rfl ?_
    refine fo_b rfl rfl ?_ ?_
    · refine fo_st rfl rfl ?_
      exact fo_ret rfl rfl rfl
    · refine fo_st rfl rfl ?_
      refine fo_get rfl (eg_gr _ _) rfl ?_
      refine fo_st rfl rfl ?_
      refine fo_st rfl rfl ?_
      refine fo_st rfl rfl ?_
      refine fo_callI (As := [.ref (gadr b0), .int l3, .int l1]) (rest := [.ref (gadr b0 + 31)]) rfl rfl rfl rfl (mi_rcv_of (eg_gr _ _)) (c_X1_roomOf LS xs d (by omega) _ _ _ _) (fun qx1 => ?_)
      refine fo_callI (As := [.ref (gadr b0 + 31), .int qx1.1]) (rest := []) rfl rfl rfl rfl (mi_rcv_of (eg_row _ (gk_31 _))) (c_X3_at LS xs d (by omega) _ _ (gk_31 _) _) (fun qx2 => ?_)
      refine fo_std rfl rfl rfl rfl rfl ?_
      refine fo_st rfl rfl ?_
      refine fo_st rfl rfl ?_
      refine fo_b rfl rfl ?_ ?_
      · refine fo_st rfl rfl ?_
        refine fo_st rfl rfl ?_
        refine fo_b rfl rfl ?_ ?_
        · exact g_X1_guessKind_46 LS xs d hd b0 _ ih _ _ _ _ _
        · refine fo_st rfl rfl ?_
          refine fo_st rfl rfl ?_
          exact g_X1_guessKind_46 LS xs d hd b0 _ ih _ _ _ _ _
      · refine fo_st rfl rfl ?_
        exact fo_ret rfl rfl rfl
def f_X1_guessKind_0 (b0 : Bool)  (l1 : Int32) (s : fS) : Option (Int32 × fS) := f_X1_guessKind_4 b0 fuel l1 (0 : Int32) (0 : Int32) s
theorem g_X1_guessKind_0 (LS : Nat) (xs : Nat → Int32) (d : Nat) (hd : 1 ≤ d) (b0 : Bool)    (l1 : Int32)  (s : fS) : fo cvI t_X1_guessKind LS xs (mi_call mi_ms false LS xs d) (0, [some (.ref (gadr b0)), some (.int l1), none, none, none], [], enc s) (f_X1_guessKind_0 b0 l1 s) := by
  unfold f_X1_guessKind_0
  refine fo_st rfl rfl ?_
  refine fo_st rfl rfl ?_
  refine fo_st rfl rfl ?_
  refine fo_st rfl rfl ?_
  exact g_X1_guessKind_4 LS xs d hd b0 fuel _ _ _ _ _
def f_X1_guessKind (b0 : Bool) (l1 : Int32) (s : fS) : Option (Int32 × fS) := f_X1_guessKind_0 b0 l1 s
theorem c_X1_guessKind (LS : Nat) (xs : Nat → Int32) (d : Nat) (hd : 2 ≤ d) (b0 : Bool) (l1 : Int32)  (s : fS) : fm mi_ms cvI LS xs d 21 [.ref (gadr b0), .int l1] (enc s) (f_X1_guessKind b0 l1 s) := by
  obtain ⟨e, rfl⟩ : ∃ e, d = e + 1 := ⟨d - 1, by omega⟩
  exact fm_of (M := m_X1_guessKind) rfl rfl (fun _ => ⟨_, rfl⟩) (g_X1_guessKind_0 LS xs e (by omega) b0 l1 s)
theorem p_X1_guessKind_46 (b0 : Bool) (r4 : Int32 → Int32 → Int32 → fS → Option (Int32 × fS)) (q4 : ∀ (l1 : Int32) (l2 : Int32) (l3 : Int32) (s : fS), pu s (r4 l1 l2 l3 s)) (l1 : Int32) (l2 : Int32) (l3 : Int32) (l4 : Int32) (s : fS) : pu s (f_X1_guessKind_46 b0 r4 l1 l2 l3 l4 s) := by
  unfold f_X1_guessKind_46
  exact q4 _ _ _ _
theorem p_X1_guessKind_4 (b0 : Bool)   (n : Nat) : ∀ (l1 : Int32) (l2 : Int32) (l3 : Int32) (s : fS), pu s (f_X1_guessKind_4 b0 n l1 l2 l3 s) := by
  induction n with
  | zero => intro l1 l2 l3 s; exact pu_none
  | succ n ih =>
    intro l1 l2 l3 s
    rw [f_X1_guessKind_4]
    refine pu_b ?_ ?_
    · exact pu_some rfl
    · refine pu_bind (p_X1_roomOf _ _ _ _) (fun v => ?_)
      refine pu_bind (p_X3_at _ _ _) (fun v => ?_)
      refine pu_b ?_ ?_
      · refine pu_b ?_ ?_
        · exact p_X1_guessKind_46 b0 _ ih _ _ _ _ _
        · exact p_X1_guessKind_46 b0 _ ih _ _ _ _ _
      · exact pu_some rfl
theorem p_X1_guessKind_0 (b0 : Bool)   (l1 : Int32) (s : fS) : pu s (f_X1_guessKind_0 b0 l1 s) := by
  unfold f_X1_guessKind_0
  exact p_X1_guessKind_4 b0 fuel _ _ _ _
theorem p_X1_guessKind (b0 : Bool) (l1 : Int32) (s : fS) : pu s (f_X1_guessKind b0 l1 s) := p_X1_guessKind_0 b0 l1 s
def f_X3_put_28 (a0 : Nat)  (l1 : Int32) (l2 : Int32) (s : fS) : Option fS := some s
theorem g_X3_put_28 (LS : Nat) (xs : Nat → Int32) (d : Nat) (hd : 0 ≤ d) (a0 : Nat) (h0 : isRow a0 = true)   (l1 : Int32) (l2 : Int32)  (s : fS) : fo cvV t_X3_put LS xs (mi_call mi_ms false LS xs d) (28, [some (.ref a0), some (.int l1), some (.int l2)], [], enc s) (f_X3_put_28 a0 l1 l2 s) := by
  unfold f_X3_put_28
  exact fo_ret rfl rfl rfl
def f_X3_put_0 (a0 : Nat)  (l1 : Int32) (l2 : Int32) (s : fS) : Option fS := (bif decide (l1 < 0) then f_X3_put_28 a0 l1 l2 s else (bif decide ((gI s a0 1) ≤ l1) then f_X3_put_28 a0 l1 l2 s else (bif decide ((Int32.ofNat (gA s (a0 + 1)).length) ≤ l1) then f_X3_put_28 a0 l1 l2 s else fchk (mi_in l1 (gA s (a0 + 1)).length) (f_X3_put_28 a0 l1 l2 (sA s (a0 + 1) ((gA s (a0 + 1)).set l1.toNatClampNeg l2))))))
theorem g_X3_put_0 (LS : Nat) (xs : Nat → Int32) (d : Nat) (hd : 0 ≤ d) (a0 : Nat) (h0 : isRow a0 = true)   (l1 : Int32) (l2 : Int32)  (s : fS) : fo cvV t_X3_put LS xs (mi_call mi_ms false LS xs d) (0, [some (.ref a0), some (.int l1), some (.int l2)], [], enc s) (f_X3_put_0 a0 l1 l2 s) := by
  unfold f_X3_put_0
  refine fo_st rfl rfl ?_
  refine fo_b rfl rfl ?_ ?_
  · exact g_X3_put_28 LS xs d hd a0 h0 _ _ _
  · refine fo_st rfl rfl ?_
    refine fo_st rfl rfl ?_
    refine fo_get rfl (eg_row _ h0) rfl ?_
    refine fo_b rfl rfl ?_ ?_
    · exact g_X3_put_28 LS xs d hd a0 h0 _ _ _
    · refine fo_st rfl rfl ?_
      refine fo_st rfl rfl ?_
      refine fo_get rfl (eg_row _ h0) rfl ?_
      refine fo_alen rfl (eg_ar _ (row_ar h0)) ?_
      refine fo_b rfl rfl ?_ ?_
      · exact g_X3_put_28 LS xs d hd a0 h0 _ _ _
      · refine fo_st rfl rfl ?_
        refine fo_get rfl (eg_row _ h0) rfl ?_
        refine fo_st rfl rfl ?_
        refine fo_st rfl rfl ?_
        refine fo_iast rfl (eg_ar _ (row_ar h0)) (es_ar _ (row_ar h0) _) ?_
        exact g_X3_put_28 LS xs d hd a0 h0 _ _ _
def f_X3_put (a0 : Nat) (l1 : Int32) (l2 : Int32) (s : fS) : Option fS := f_X3_put_0 a0 l1 l2 s
theorem c_X3_put (LS : Nat) (xs : Nat → Int32) (d : Nat) (hd : 1 ≤ d) (a0 : Nat) (l1 : Int32) (l2 : Int32) (h0 : isRow a0 = true) (s : fS) : fm mi_ms cvV LS xs d 50 [.ref a0, .int l1, .int l2] (enc s) (f_X3_put a0 l1 l2 s) := by
  obtain ⟨e, rfl⟩ : ∃ e, d = e + 1 := ⟨d - 1, by omega⟩
  exact fm_of (M := m_X3_put) rfl rfl (fun _ => ⟨_, rfl⟩) (g_X3_put_0 LS xs e (by omega) a0 h0 l1 l2 s)
def f_X1_settleKinds_38 (b0 : Bool) (r2 : Int32 → fS → Option fS) (l1 : Int32) (s : fS) : Option fS := r2 (l1 + Int32.ofInt (1)) s
theorem g_X1_settleKinds_38 (LS : Nat) (xs : Nat → Int32) (d : Nat) (hd : 2 ≤ d) (b0 : Bool)  (r2 : Int32 → fS → Option fS) (q2 : ∀ (l1 : Int32) (s : fS), fo cvV t_X1_settleKinds LS xs (mi_call mi_ms false LS xs d) (2, [some (.ref (gadr b0)), some (.int l1)], [], enc s) (r2 l1 s)) (l1 : Int32)  (s : fS) : fo cvV t_X1_settleKinds LS xs (mi_call mi_ms false LS xs d) (38, [some (.ref (gadr b0)), some (.int l1)], [], enc s) (f_X1_settleKinds_38 b0 r2 l1 s) := by
  unfold f_X1_settleKinds_38
  refine fo_st rfl rfl ?_
  refine fo_st rfl rfl ?_
  exact q2 _ _
def f_X1_settleKinds_2 (b0 : Bool)  : Nat → Int32 → fS → Option fS
  | 0, _, _ => none
  | n + 1, l1, s => (bif decide ((gI s (gadr b0 + 18) 1) ≤ l1) then some s else ((f_X3_at (gadr b0 + 18) l1 s).bind fun qx1 => (bif decide (¬ qx1.1 = (3 : Int32)) then f_X1_settleKinds_38 b0 (fun l1' s' => f_X1_settleKinds_2 b0 n l1' s') l1 qx1.2 else ((f_X1_guessKind b0 l1 qx1.2).bind fun qx2 => ((f_X3_put (gadr b0 + 18) l1 qx2.1 qx2.2).bind fun qx3 => f_X1_settleKinds_38 b0 (fun l1' s' => f_X1_settleKinds_2 b0 n l1' s') l1 qx3)))))
theorem g_X1_settleKinds_2 (LS : Nat) (xs : Nat → Int32) (d : Nat) (hd : 2 ≤ d) (b0 : Bool)    (n : Nat) : ∀ (l1 : Int32) (s : fS), fo cvV t_X1_settleKinds LS xs (mi_call mi_ms false LS xs d) (2, [some (.ref (gadr b0)), some (.int l1)], [], enc s) (f_X1_settleKinds_2 b0 n l1 s) := by
  induction n with
  | zero => intro l1 s; exact fo_none
  | succ n ih =>
    intro l1 s
    rw [f_X1_settleKinds_2]
    refine fo_st rfl rfl ?_
    refine fo_st rfl rfl ?_
    refine fo_get rfl (eg_gr _ _) rfl ?_
    refine fo_get rfl (eg_row _ (gk_18 _)) rfl ?_
    refine fo_b rfl rfl ?_ ?_
    · exact fo_ret rfl rfl rfl
    · refine fo_st rfl rfl ?_
      refine fo_get rfl (eg_gr _ _) rfl ?_
      refine fo_st rfl rfl ?_
      refine fo_callI (As := [.ref (gadr b0 + 18), .int l1]) (rest := []) rfl rfl rfl rfl (mi_rcv_of (eg_row _ (gk_18 _))) (c_X3_at LS xs d (by omega) _ _ (gk_18 _) _) (fun qx1 => ?_)
      refine fo_st rfl rfl ?_
      refine fo_b rfl rfl ?_ ?_
      · exact g_X1_settleKinds_38 LS xs d hd b0 _ ih _ _
      · refine fo_st rfl rfl ?_
        refine fo_get rfl (eg_gr _ _) rfl ?_
        refine fo_st rfl rfl ?_
        refine fo_st rfl rfl ?_
        refine fo_st rfl rfl ?_
        refine fo_callI (As := [.ref (gadr b0), .int l1]) (rest := [.int l1, .ref (gadr b0 + 18)]) rfl rfl rfl rfl (mi_rcv_of (eg_gr _ _)) (c_X1_guessKind LS xs d (by omega) _ _ _) (fun qx2 => ?_)
        refine fo_callV (As := [.ref (gadr b0 + 18), .int l1, .int qx2.1]) (rest := []) rfl rfl rfl rfl (mi_rcv_of (eg_row _ (gk_18 _))) (c_X3_put LS xs d (by omega) _ _ _ (gk_18 _) _) (fun qx3 => ?_)
        exact g_X1_settleKinds_38 LS xs d hd b0 _ ih _ _
def f_X1_settleKinds_0 (b0 : Bool)   (s : fS) : Option fS := f_X1_settleKinds_2 b0 fuel (0 : Int32) s
theorem g_X1_settleKinds_0 (LS : Nat) (xs : Nat → Int32) (d : Nat) (hd : 2 ≤ d) (b0 : Bool)      (s : fS) : fo cvV t_X1_settleKinds LS xs (mi_call mi_ms false LS xs d) (0, [some (.ref (gadr b0)), none], [], enc s) (f_X1_settleKinds_0 b0 s) := by
  unfold f_X1_settleKinds_0
  refine fo_st rfl rfl ?_
  refine fo_st rfl rfl ?_
  exact g_X1_settleKinds_2 LS xs d hd b0 fuel _ _
def f_X1_settleKinds (b0 : Bool) (s : fS) : Option fS := f_X1_settleKinds_0 b0 s
theorem c_X1_settleKinds (LS : Nat) (xs : Nat → Int32) (d : Nat) (hd : 3 ≤ d) (b0 : Bool)  (s : fS) : fm mi_ms cvV LS xs d 20 [.ref (gadr b0)] (enc s) (f_X1_settleKinds b0 s) := by
  obtain ⟨e, rfl⟩ : ∃ e, d = e + 1 := ⟨d - 1, by omega⟩
  exact fm_of (M := m_X1_settleKinds) rfl rfl (fun _ => ⟨_, rfl⟩) (g_X1_settleKinds_0 LS xs e (by omega) b0 s)
def f_X2_countIsTrue_0    (s : fS) : Option (Int32 × fS) := (bif decide (¬ (gI s 80 4) = 0) then (bif decide ((gI s (gadr (gP2 s)) 13) = (gI s (gadr (gP2 s) + 3) 3)) then ((f_X1_arcCount (gP2 s) s).bind fun qx1 => (bif decide ((gI s (gadr (gP2 s)) 14) = qx1.1) then some ((1 : Int32), qx1.2) else ((f_X0_wrongElsewhere (7 : Int32) (gI qx1.2 80 4) (gI qx1.2 80 6) qx1.2).bind fun qx2 => fchk (fbl qx2.1) (some (qx2.1, qx2.2))))) else ((f_X0_wrongElsewhere (7 : Int32) (gI s 80 4) (gI s 80 5) s).bind fun qx3 => fchk (fbl qx3.1) (some (qx3.1, qx3.2)))) else some ((1 : Int32), s))
theorem g_X2_countIsTrue_0 (LS : Nat) (xs : Nat → Int32) (d : Nat) (hd : 1 ≤ d)       (s : fS) : fo cvI t_X2_countIsTrue LS xs (mi_call mi_ms false LS xs d) (0, [some (.ref 80)], [], enc s) (f_X2_countIsTrue_0 s) := by
  unfold f_X2_countIsTrue_0
  refine fo_st rfl rfl ?_
  refine fo_get rfl (eg_2 _) rfl ?_
  refine fo_b rfl rfl ?_ ?_
  · refine fo_st rfl rfl ?_
    refine fo_get rfl (eg_2 _) rfl ?_
    refine fo_get rfl (eg_gr _ _) rfl ?_
    refine fo_st rfl rfl ?_
    refine fo_get rfl (eg_2 _) rfl ?_
    refine fo_get rfl (eg_gr _ _) rfl ?_
    refine fo_get rfl (eg_sp _ (gk_3 _)) rfl ?_
    refine fo_b rfl rfl ?_ ?_
    · refine fo_st rfl rfl ?_
      refine fo_get rfl (eg_2 _) rfl ?_
      refine fo_get rfl (eg_gr _ _) rfl ?_
      refine fo_st rfl rfl ?_
      refine fo_get rfl (eg_2 _) rfl ?_
      refine fo_callI (As := [.ref (gadr (gP2 s))]) (rest := [.int (gI s (gadr (gP2 s)) 14)]) rfl rfl rfl rfl (mi_rcv_of (eg_gr _ _)) (c_X1_arcCount LS xs d (by omega) _ _) (fun qx1 => ?_)
      refine fo_b rfl rfl ?_ ?_
      · refine fo_st rfl rfl ?_
        exact fo_ret rfl rfl rfl
      · refine fo_st rfl rfl ?_
        refine fo_get rfl (eg_2 _) rfl ?_
        refine fo_st rfl rfl ?_
        refine fo_st rfl rfl ?_
        refine fo_get rfl (eg_2 _) rfl ?_
        refine fo_st rfl rfl ?_
        refine fo_get rfl (eg_2 _) rfl ?_
        refine fo_callI (As := [.ref 81, .int (7 : Int32), .int (gI qx1.2 80 4), .int (gI qx1.2 80 6)]) (rest := []) rfl rfl rfl rfl (mi_rcv_of (eg_0 _)) (c_X0_wrongElsewhere LS xs d (by omega) _ _ _ _) (fun qx2 => ?_)
        exact fo_ret2 rfl rfl
    · refine fo_st rfl rfl ?_
      refine fo_get rfl (eg_2 _) rfl ?_
      refine fo_st rfl rfl ?_
      refine fo_st rfl rfl ?_
      refine fo_get rfl (eg_2 _) rfl ?_
      refine fo_st rfl rfl ?_
      refine fo_get rfl (eg_2 _) rfl ?_
      refine fo_callI (As := [.ref 81, .int (7 : Int32), .int (gI s 80 4), .int (gI s 80 5)]) (rest := []) rfl rfl rfl rfl (mi_rcv_of (eg_0 _)) (c_X0_wrongElsewhere LS xs d (by omega) _ _ _ _) (fun qx3 => ?_)
      exact fo_ret2 rfl rfl
  · refine fo_st rfl rfl ?_
    exact fo_ret rfl rfl rfl
def f_X2_countIsTrue  (s : fS) : Option (Int32 × fS) := f_X2_countIsTrue_0 s
theorem c_X2_countIsTrue (LS : Nat) (xs : Nat → Int32) (d : Nat) (hd : 2 ≤ d)   (s : fS) : fm mi_ms cvI LS xs d 24 [.ref 80] (enc s) (f_X2_countIsTrue  s) := by
  obtain ⟨e, rfl⟩ : ∃ e, d = e + 1 := ⟨d - 1, by omega⟩
  exact fm_of (M := m_X2_countIsTrue) rfl rfl (fun _ => ⟨_, rfl⟩) (g_X2_countIsTrue_0 LS xs e (by omega) s)
def f_X6_isPrintable_17   (l0 : Int32) (t0 : Int32) (s : fS) : Option (Int32 × fS) := fchk (fbl t0) (some (t0, s))
theorem g_X6_isPrintable_17 (LS : Nat) (xs : Nat → Int32) (d : Nat) (hd : 0 ≤ d)     (l0 : Int32) (t0 : Int32)  (s : fS) : fo cvI t_X6_isPrintable LS xs (mi_call mi_ms false LS xs d) (17, [some (.int l0)], [.int t0], enc s) (f_X6_isPrintable_17 l0 t0 s) := by
  unfold f_X6_isPrintable_17
  exact fo_ret2 rfl rfl
def f_X6_isPrintable_16   (l0 : Int32) (s : fS) : Option (Int32 × fS) := f_X6_isPrintable_17 l0 (0 : Int32) s
theorem g_X6_isPrintable_16 (LS : Nat) (xs : Nat → Int32) (d : Nat) (hd : 0 ≤ d)     (l0 : Int32)  (s : fS) : fo cvI t_X6_isPrintable LS xs (mi_call mi_ms false LS xs d) (16, [some (.int l0)], [], enc s) (f_X6_isPrintable_16 l0 s) := by
  unfold f_X6_isPrintable_16
  refine fo_st rfl rfl ?_
  exact g_X6_isPrintable_17 LS xs d hd _ _ _
def f_X6_isPrintable_0   (l0 : Int32) (s : fS) : Option (Int32 × fS) := (bif decide (l0 < (32 : Int32)) then f_X6_isPrintable_16 l0 s else (bif decide ((126 : Int32) < l0) then f_X6_isPrintable_16 l0 s else f_X6_isPrintable_17 l0 (1 : Int32) s))
theorem g_X6_isPrintable_0 (LS : Nat) (xs : Nat → Int32) (d : Nat) (hd : 0 ≤ d)     (l0 : Int32)  (s : fS) : fo cvI t_X6_isPrintable LS xs (mi_call mi_ms false LS xs d) (0, [some (.int l0)], [], enc s) (f_X6_isPrintable_0 l0 s) := by
  unfold f_X6_isPrintable_0
  refine fo_st rfl rfl ?_
  refine fo_st rfl rfl ?_
  refine fo_b rfl rfl ?_ ?_
  · exact g_X6_isPrintable_16 LS xs d hd _ _
  · refine fo_st rfl rfl ?_
    refine fo_st rfl rfl ?_
    refine fo_b rfl rfl ?_ ?_
    · exact g_X6_isPrintable_16 LS xs d hd _ _
    · refine fo_st rfl rfl ?_
      refine fo_st rfl rfl ?_
      exact g_X6_isPrintable_17 LS xs d hd _ _ _
def f_X6_isPrintable (l0 : Int32) (s : fS) : Option (Int32 × fS) := f_X6_isPrintable_0 l0 s
theorem c_X6_isPrintable (LS : Nat) (xs : Nat → Int32) (d : Nat) (hd : 1 ≤ d) (l0 : Int32)  (s : fS) : fm mi_ms cvI LS xs d 93 [.int l0] (enc s) (f_X6_isPrintable l0 s) := by
  obtain ⟨e, rfl⟩ : ∃ e, d = e + 1 := ⟨d - 1, by omega⟩
  exact fm_of (M := m_X6_isPrintable) rfl rfl (fun _ => ⟨_, rfl⟩) (g_X6_isPrintable_0 LS xs e (by omega) l0 s)
theorem p_X6_isPrintable_17    (l0 : Int32) (t0 : Int32) (s : fS) : pu s (f_X6_isPrintable_17 l0 t0 s) := by
  unfold f_X6_isPrintable_17
  refine pu_ck ?_
  exact pu_some rfl
theorem p_X6_isPrintable_16    (l0 : Int32) (s : fS) : pu s (f_X6_isPrintable_16 l0 s) := by
  unfold f_X6_isPrintable_16
  exact p_X6_isPrintable_17 _ _ _
theorem p_X6_isPrintable_0    (l0 : Int32) (s : fS) : pu s (f_X6_isPrintable_0 l0 s) := by
  unfold f_X6_isPrintable_0
  refine pu_b ?_ ?_
  · exact p_X6_isPrintable_16 _ _
  · refine pu_b ?_ ?_
    · exact p_X6_isPrintable_16 _ _
    · exact p_X6_isPrintable_17 _ _ _
theorem p_X6_isPrintable (l0 : Int32) (s : fS) : pu s (f_X6_isPrintable l0 s) := p_X6_isPrintable_0 l0 s
def f_X2_readComment_118   (l1 : Int32) (l2 : Int32) (s : fS) : Option (Int32 × fS) := ((f_X4_add (gadr (gP2 s) + 13) l1 ((gI s (gadr (gP2 s) + 1) 1) - l1) s).bind fun qx1 => ((f_X3_add (gadr (gP2 qx1) + 35) (0 : Int32) qx1).bind fun qx2 => some ((1 : Int32), qx2)))
theorem g_X2_readComment_118 (LS : Nat) (xs : Nat → Int32) (d : Nat) (hd : 2 ≤ d)     (l1 : Int32) (l2 : Int32)  (s : fS) : fo cvI t_X2_readComment LS xs (mi_call mi_ms false LS xs d) (118, [some (.ref 80), some (.int l1), some (.int l2)], [], enc s) (f_X2_readComment_118 l1 l2 s) := by
  unfold f_X2_readComment_118
  refine fo_st rfl rfl ?_
  refine fo_get rfl (eg_2 _) rfl ?_
  refine fo_get rfl (eg_gr _ _) rfl ?_
  refine fo_st rfl rfl ?_
  refine fo_st rfl rfl ?_
  refine fo_get rfl (eg_2 _) rfl ?_
  refine fo_get rfl (eg_gr _ _) rfl ?_
  refine fo_get rfl (eg_row _ (gk_1 _)) rfl ?_
  refine fo_st rfl rfl ?_
  refine fo_st rfl rfl ?_
  refine fo_callV (As := [.ref (gadr (gP2 s) + 13), .int l1, .int ((gI s (gadr (gP2 s) + 1) 1) - l1)]) (rest := []) rfl rfl rfl rfl (mi_rcv_of (eg_sp _ (gk_13 _))) (c_X4_add LS xs d (by omega) _ _ _ (gk_13 _) _) (fun qx1 => ?_)
  refine fo_st rfl rfl ?_
  refine fo_get rfl (eg_2 _) rfl ?_
  refine fo_get rfl (eg_gr _ _) rfl ?_
  refine fo_st rfl rfl ?_
  refine fo_callV (As := [.ref (gadr (gP2 qx1) + 35), .int (0 : Int32)]) (rest := []) rfl rfl rfl rfl (mi_rcv_of (eg_row _ (gk_35 _))) (c_X3_add LS xs d (by omega) _ _ (gk_35 _) _) (fun qx2 => ?_)
  refine fo_st rfl rfl ?_
  exact fo_ret rfl rfl rfl
def f_X2_readComment_20   : Nat → Int32 → Int32 → fS → Option (Int32 × fS)
  | 0, _, _, _ => none
  | n + 1, l1, l2, s => (bif decide ((20 : Int32) < l2) then f_X2_readComment_118 l1 l2 s else (bif decide ((gI s 81 2) = (-1 : Int32)) then f_X2_readComment_118 l1 l2 s else ((f_X6_isPrintable (gI s 81 2) s).bind fun qx1 => (bif decide (¬ qx1.1 = 0) then (bif decide (¬ l2 = (20 : Int32)) then ((f_X3_add (gadr (gP2 qx1.2) + 1) (gI qx1.2 81 2) qx1.2).bind fun qx2 => ((f_X0_step qx2).bind fun qx3 => f_X2_readComment_20 n l1 (l2 + Int32.ofInt (1)) qx3)) else ((f_X0_wrong (2 : Int32) (gI qx1.2 81 1) qx1.2).bind fun qx4 => fchk (fbl qx4.1) (some (qx4.1, qx4.2)))) else ((f_X0_wrong (1 : Int32) (gI qx1.2 81 1) qx1.2).bind fun qx5 => fchk (fbl qx5.1) (some (qx5.1, qx5.2)))))))
theorem g_X2_readComment_20 (LS : Nat) (xs : Nat → Int32) (d : Nat) (hd : 2 ≤ d)     (n : Nat) : ∀ (l1 : Int32) (l2 : Int32) (s : fS), fo cvI t_X2_readComment LS xs (mi_call mi_ms false LS xs d) (20, [some (.ref 80), some (.int l1), some (.int l2)], [], enc s) (f_X2_readComment_20 n l1 l2 s) := by
  induction n with
  | zero => intro l1 l2 s; exact fo_none
  | succ n ih =>
    intro l1 l2 s
    rw [f_X2_readComment_20]
    refine fo_st rfl rfl ?_
    refine fo_st rfl rfl ?_
    refine fo_b rfl rfl ?_ ?_
    · exact g_X2_readComment_118 LS xs d hd _ _ _
    · refine fo_st rfl rfl ?_
      refine fo_get rfl (eg_2 _) rfl ?_
      refine fo_get rfl (eg_0 _) rfl ?_
      refine fo_st rfl rfl ?_
      refine fo_b rfl rfl ?_ ?_
      · exact g_X2_readComment_118 LS xs d hd _ _ _
      · refine fo_st rfl rfl ?_
        refine fo_get rfl (eg_2 _) rfl ?_
        refine fo_get rfl (eg_0 _) rfl ?_
        refine fo_callI (As := [.int (gI s 81 2)]) (rest := []) rfl rfl rfl rfl True.intro (c_X6_isPrintable LS xs d (by omega) _ _) (fun qx1 => ?_)
        refine fo_b rfl rfl ?_ ?_
        · refine fo_st rfl rfl ?_
          refine fo_st rfl rfl ?_
          refine fo_b rfl rfl ?_ ?_
          · refine fo_st rfl rfl ?_
            refine fo_get rfl (eg_2 _) rfl ?_
            refine fo_get rfl (eg_gr _ _) rfl ?_
            refine fo_st rfl rfl ?_
            refine fo_get rfl (eg_2 _) rfl ?_
            refine fo_get rfl (eg_0 _) rfl ?_
            refine fo_callV (As := [.ref (gadr (gP2 qx1.2) + 1), .int (gI qx1.2 81 2)]) (rest := []) rfl rfl rfl rfl (mi_rcv_of (eg_row _ (gk_1 _))) (c_X3_add LS xs d (by omega) _ _ (gk_1 _) _) (fun qx2 => ?_)
            refine fo_st rfl rfl ?_
            refine fo_get rfl (eg_2 _) rfl ?_
            refine fo_callV (As := [.ref 81]) (rest := []) rfl rfl rfl rfl (mi_rcv_of (eg_0 _)) (c_X0_step LS xs d (by omega)  _) (fun qx3 => ?_)
            refine fo_st rfl rfl ?_
            refine fo_st rfl rfl ?_
            exact ih _ _ _
          · refine fo_st rfl rfl ?_
            refine fo_get rfl (eg_2 _) rfl ?_
            refine fo_st rfl rfl ?_
            refine fo_st rfl rfl ?_
            refine fo_get rfl (eg_2 _) rfl ?_
            refine fo_get rfl (eg_0 _) rfl ?_
            refine fo_callI (As := [.ref 81, .int (2 : Int32), .int (gI qx1.2 81 1)]) (rest := []) rfl rfl rfl rfl (mi_rcv_of (eg_0 _)) (c_X0_wrong LS xs d (by omega) _ _ _) (fun qx4 => ?_)
            exact fo_ret2 rfl rfl
        · refine fo_st rfl rfl ?_
          refine fo_get rfl (eg_2 _) rfl ?_
          refine fo_st rfl rfl ?_
          refine fo_st rfl rfl ?_
          refine fo_get rfl (eg_2 _) rfl ?_
          refine fo_get rfl (eg_0 _) rfl ?_
          refine fo_callI (As := [.ref 81, .int (1 : Int32), .int (gI qx1.2 81 1)]) (rest := []) rfl rfl rfl rfl (mi_rcv_of (eg_0 _)) (c_X0_wrong LS xs d (by omega) _ _ _) (fun qx5 => ?_)
          exact fo_ret2 rfl rfl
def f_X2_readComment_0    (s : fS) : Option (Int32 × fS) := ((f_X0_step s).bind fun qx1 => f_X2_readComment_20 fuel (gI qx1 (gadr (gP2 qx1) + 1) 1) (0 : Int32) qx1)
theorem g_X2_readComment_0 (LS : Nat) (xs : Nat → Int32) (d : Nat) (hd : 2 ≤ d)       (s : fS) : fo cvI t_X2_readComment LS xs (mi_call mi_ms false LS xs d) (0, [some (.ref 80), none, none], [], enc s) (f_X2_readComment_0 s) := by
  unfold f_X2_readComment_0
  refine fo_st rfl rfl ?_
  refine fo_get rfl (eg_2 _) rfl ?_
  refine fo_callV (As := [.ref 81]) (rest := []) rfl rfl rfl rfl (mi_rcv_of (eg_0 _)) (c_X0_step LS xs d (by omega)  _) (fun qx1 => ?_)
  refine fo_st rfl rfl ?_
  refine fo_get rfl (eg_2 _) rfl ?_
  refine fo_get rfl (eg_gr _ _) rfl ?_
  refine fo_get rfl (eg_row _ (gk_1 _)) rfl ?_
  refine fo_st rfl rfl ?_
  refine fo_st rfl rfl ?_
  refine fo_st rfl rfl ?_
  exact g_X2_readComment_20 LS xs d hd fuel _ _ _
def f_X2_readComment  (s : fS) : Option (Int32 × fS) := f_X2_readComment_0 s
theorem c_X2_readComment (LS : Nat) (xs : Nat → Int32) (d : Nat) (hd : 3 ≤ d)   (s : fS) : fm mi_ms cvI LS xs d 26 [.ref 80] (enc s) (f_X2_readComment  s) := by
  obtain ⟨e, rfl⟩ : ∃ e, d = e + 1 := ⟨d - 1, by omega⟩
  exact fm_of (M := m_X2_readComment) rfl rfl (fun _ => ⟨_, rfl⟩) (g_X2_readComment_0 LS xs e (by omega) s)
def f_X6_isFigure_17   (l0 : Int32) (t0 : Int32) (s : fS) : Option (Int32 × fS) := fchk (fbl t0) (some (t0, s))
theorem g_X6_isFigure_17 (LS : Nat) (xs : Nat → Int32) (d : Nat) (hd : 0 ≤ d)     (l0 : Int32) (t0 : Int32)  (s : fS) : fo cvI t_X6_isFigure LS xs (mi_call mi_ms false LS xs d) (17, [some (.int l0)], [.int t0], enc s) (f_X6_isFigure_17 l0 t0 s) := by
  unfold f_X6_isFigure_17
  exact fo_ret2 rfl rfl
def f_X6_isFigure_16   (l0 : Int32) (s : fS) : Option (Int32 × fS) := f_X6_isFigure_17 l0 (0 : Int32) s
theorem g_X6_isFigure_16 (LS : Nat) (xs : Nat → Int32) (d : Nat) (hd : 0 ≤ d)     (l0 : Int32)  (s : fS) : fo cvI t_X6_isFigure LS xs (mi_call mi_ms false LS xs d) (16, [some (.int l0)], [], enc s) (f_X6_isFigure_16 l0 s) := by
  unfold f_X6_isFigure_16
  refine fo_st rfl rfl ?_
  exact g_X6_isFigure_17 LS xs d hd _ _ _
def f_X6_isFigure_0   (l0 : Int32) (s : fS) : Option (Int32 × fS) := (bif decide (l0 < (48 : Int32)) then f_X6_isFigure_16 l0 s else (bif decide ((57 : Int32) < l0) then f_X6_isFigure_16 l0 s else f_X6_isFigure_17 l0 (1 : Int32) s))
theorem g_X6_isFigure_0 (LS : Nat) (xs : Nat → Int32) (d : Nat) (hd : 0 ≤ d)     (l0 : Int32)  (s : fS) : fo cvI t_X6_isFigure LS xs (mi_call mi_ms false LS xs d) (0, [some (.int l0)], [], enc s) (f_X6_isFigure_0 l0 s) := by
  unfold f_X6_isFigure_0
  refine fo_st rfl rfl ?_
  refine fo_st rfl rfl ?_
  refine fo_b rfl rfl ?_ ?_
  · exact g_X6_isFigure_16 LS xs d hd _ _
  · refine fo_st rfl rfl ?_
    refine fo_st rfl rfl ?_
    refine fo_b rfl rfl ?_ ?_
    · exact g_X6_isFigure_16 LS xs d hd _ _
    · refine fo_st rfl rfl ?_
      refine fo_st rfl rfl ?_
      exact g_X6_isFigure_17 LS xs d hd _ _ _
def f_X6_isFigure (l0 : Int32) (s : fS) : Option (Int32 × fS) := f_X6_isFigure_0 l0 s
theorem c_X6_isFigure (LS : Nat) (xs : Nat → Int32) (d : Nat) (hd : 1 ≤ d) (l0 : Int32)  (s : fS) : fm mi_ms cvI LS xs d 91 [.int l0] (enc s) (f_X6_isFigure l0 s) := by
  obtain ⟨e, rfl⟩ : ∃ e, d = e + 1 := ⟨d - 1, by omega⟩
  exact fm_of (M := m_X6_isFigure) rfl rfl (fun _ => ⟨_, rfl⟩) (g_X6_isFigure_0 LS xs e (by omega) l0 s)
theorem p_X6_isFigure_17    (l0 : Int32) (t0 : Int32) (s : fS) : pu s (f_X6_isFigure_17 l0 t0 s) := by
  unfold f_X6_isFigure_17
  refine pu_ck ?_
  exact pu_some rfl
theorem p_X6_isFigure_16    (l0 : Int32) (s : fS) : pu s (f_X6_isFigure_16 l0 s) := by
  unfold f_X6_isFigure_16
  exact p_X6_isFigure_17 _ _ _
theorem p_X6_isFigure_0    (l0 : Int32) (s : fS) : pu s (f_X6_isFigure_0 l0 s) := by
  unfold f_X6_isFigure_0
  refine pu_b ?_ ?_
  · exact p_X6_isFigure_16 _ _
  · refine pu_b ?_ ?_
    · exact p_X6_isFigure_16 _ _
    · exact p_X6_isFigure_17 _ _ _
theorem p_X6_isFigure (l0 : Int32) (s : fS) : pu s (f_X6_isFigure l0 s) := p_X6_isFigure_0 l0 s
def f_X2_readNumber_110   (l1 : Int32) (s : fS) : Option (Int32 × fS) := some ((1 : Int32), s)
theorem g_X2_readNumber_110 (LS : Nat) (xs : Nat → Int32) (d : Nat) (hd : 1 ≤ d)     (l1 : Int32)  (s : fS) : fo cvI t_X2_readNumber LS xs (mi_call mi_ms false LS xs d) (110, [some (.ref 80), some (.int l1)], [], enc s) (f_X2_readNumber_110 l1 s) := by
  unfold f_X2_readNumber_110
  refine fo_st rfl rfl ?_
  exact fo_ret rfl rfl rfl
def f_X2_readNumber_36   : Nat → Int32 → fS → Option (Int32 × fS)
  | 0, _, _ => none
  | n + 1, l1, s => (bif decide ((2 : Int32) < l1) then f_X2_readNumber_110 l1 s else ((f_X6_isFigure (gI s 81 2) s).bind fun qx1 => (bif decide (qx1.1 = 0) then f_X2_readNumber_110 l1 qx1.2 else (bif decide (¬ l1 = (2 : Int32)) then ((f_X0_step (sI qx1.2 80 7 (((gI qx1.2 80 7) * (10 : Int32)) + ((gI qx1.2 81 2) - (48 : Int32))))).bind fun qx2 => f_X2_readNumber_36 n (l1 + Int32.ofInt (1)) qx2) else ((f_X0_wrong (2 : Int32) (gI qx1.2 81 1) qx1.2).bind fun qx3 => fchk (fbl qx3.1) (some (qx3.1, qx3.2)))))))
theorem g_X2_readNumber_36 (LS : Nat) (xs : Nat → Int32) (d : Nat) (hd : 1 ≤ d)     (n : Nat) : ∀ (l1 : Int32) (s : fS), fo cvI t_X2_readNumber LS xs (mi_call mi_ms false LS xs d) (36, [some (.ref 80), some (.int l1)], [], enc s) (f_X2_readNumber_36 n l1 s) := by
  induction n with
  | zero => intro l1 s; exact fo_none
  | succ n ih =>
    intro l1 s
    rw [f_X2_readNumber_36]
    refine fo_st rfl rfl ?_
    refine fo_st rfl rfl ?_
    refine fo_b rfl rfl ?_ ?_
    · exact g_X2_readNumber_110 LS xs d hd _ _
    · refine fo_st rfl rfl ?_
      refine fo_get rfl (eg_2 _) rfl ?_
      refine fo_get rfl (eg_0 _) rfl ?_
      refine fo_callI (As := [.int (gI s 81 2)]) (rest := []) rfl rfl rfl rfl True.intro (c_X6_isFigure LS xs d (by omega) _ _) (fun qx1 => ?_)
      refine fo_b rfl rfl ?_ ?_
      · exact g_X2_readNumber_110 LS xs d hd _ _
      · refine fo_st rfl rfl ?_
        refine fo_st rfl rfl ?_
        refine fo_b rfl rfl ?_ ?_
        · refine fo_st rfl rfl ?_
          refine fo_st rfl rfl ?_
          refine fo_get rfl (eg_2 _) rfl ?_
          refine fo_st rfl rfl ?_
          refine fo_st rfl rfl ?_
          refine fo_st rfl rfl ?_
          refine fo_get rfl (eg_2 _) rfl ?_
          refine fo_get rfl (eg_0 _) rfl ?_
          refine fo_st rfl rfl ?_
          refine fo_st rfl rfl ?_
          refine fo_st rfl rfl ?_
          refine fo_put rfl (eg_2 _) rfl rfl (es_2_7 _ _) ?_
          refine fo_st rfl rfl ?_
          refine fo_get rfl (eg_2 _) rfl ?_
          refine fo_callV (As := [.ref 81]) (rest := []) rfl rfl rfl rfl (mi_rcv_of (eg_0 _)) (c_X0_step LS xs d (by omega)  _) (fun qx2 => ?_)
          refine fo_st rfl rfl ?_
          refine fo_st rfl rfl ?_
          exact ih _ _
        · refine fo_st rfl rfl ?_
          refine fo_get rfl (eg_2 _) rfl ?_
          refine fo_st rfl rfl ?_
          refine fo_st rfl rfl ?_
          refine fo_get rfl (eg_2 _) rfl ?_
          refine fo_get rfl (eg_0 _) rfl ?_
          refine fo_callI (As := [.ref 81, .int (2 : Int32), .int (gI qx1.2 81 1)]) (rest := []) rfl rfl rfl rfl (mi_rcv_of (eg_0 _)) (c_X0_wrong LS xs d (by omega) _ _ _) (fun qx3 => ?_)
          exact fo_ret2 rfl rfl
def f_X2_readNumber_0    (s : fS) : Option (Int32 × fS) := ((f_X6_isFigure (gI s 81 2) s).bind fun qx1 => (bif decide (¬ qx1.1 = 0) then f_X2_readNumber_36 fuel (0 : Int32) (sI qx1.2 80 7 (0 : Int32)) else ((f_X0_wrong (1 : Int32) (gI qx1.2 81 1) qx1.2).bind fun qx2 => fchk (fbl qx2.1) (some (qx2.1, qx2.2)))))
theorem g_X2_readNumber_0 (LS : Nat) (xs : Nat → Int32) (d : Nat) (hd : 1 ≤ d)       (s : fS) : fo cvI t_X2_readNumber LS xs (mi_call mi_ms false LS xs d) (0, [some (.ref 80), none], [], enc s) (f_X2_readNumber_0 s) := by
  unfold f_X2_readNumber_0
  refine fo_st rfl rfl ?_
  refine fo_get rfl (eg_2 _) rfl ?_
  refine fo_get rfl (eg_0 _) rfl ?_
  refine fo_callI (As := [.int (gI s 81 2)]) (rest := []) rfl rfl rfl rfl True.intro (c_X6_isFigure LS xs d (by omega) _ _) (fun qx1 => ?_)
  refine fo_b rfl rfl ?_ ?_
  · refine fo_st rfl rfl ?_
    refine fo_st rfl rfl ?_
    refine fo_put rfl (eg_2 _) rfl rfl (es_2_7 _ _) ?_
    refine fo_st rfl rfl ?_
    refine fo_st rfl rfl ?_
    exact g_X2_readNumber_36 LS xs d hd fuel _ _
  · refine fo_st rfl rfl ?_
    refine fo_get rfl (eg_2 _) rfl ?_
    refine fo_st rfl rfl ?_
    refine fo_st rfl rfl ?_
    refine fo_get rfl (eg_2 _) rfl ?_
    refine fo_get rfl (eg_0 _) rfl ?_
    refine fo_callI (As := [.ref 81, .int (1 : Int32), .int (gI qx1.2 81 1)]) (rest := []) rfl rfl rfl rfl (mi_rcv_of (eg_0 _)) (c_X0_wrong LS xs d (by omega) _ _ _) (fun qx2 => ?_)
    exact fo_ret2 rfl rfl
def f_X2_readNumber  (s : fS) : Option (Int32 × fS) := f_X2_readNumber_0 s
theorem c_X2_readNumber (LS : Nat) (xs : Nat → Int32) (d : Nat) (hd : 2 ≤ d)   (s : fS) : fm mi_ms cvI LS xs d 28 [.ref 80] (enc s) (f_X2_readNumber  s) := by
  obtain ⟨e, rfl⟩ : ∃ e, d = e + 1 := ⟨d - 1, by omega⟩
  exact fm_of (M := m_X2_readNumber) rfl rfl (fun _ => ⟨_, rfl⟩) (g_X2_readNumber_0 LS xs e (by omega) s)
def f_X2_readGap_0    (s : fS) : Option (Int32 × fS) := (bif decide ((gI s 81 2) = (32 : Int32)) then ((f_X0_skipBlanks s).bind fun qx1 => some ((1 : Int32), qx1)) else ((f_X0_wrong (1 : Int32) (gI s 81 1) s).bind fun qx2 => fchk (fbl qx2.1) (some (qx2.1, qx2.2))))
theorem g_X2_readGap_0 (LS : Nat) (xs : Nat → Int32) (d : Nat) (hd : 2 ≤ d)       (s : fS) : fo cvI t_X2_readGap LS xs (mi_call mi_ms false LS xs d) (0, [some (.ref 80)], [], enc s) (f_X2_readGap_0 s) := by
  unfold f_X2_readGap_0
  refine fo_st rfl rfl ?_
  refine fo_get rfl (eg_2 _) rfl ?_
  refine fo_get rfl (eg_0 _) rfl ?_
  refine fo_st rfl rfl ?_
  refine fo_b rfl rfl ?_ ?_
  · refine fo_st rfl rfl ?_
    refine fo_get rfl (eg_2 _) rfl ?_
    refine fo_callV (As := [.ref 81]) (rest := []) rfl rfl rfl rfl (mi_rcv_of (eg_0 _)) (c_X0_skipBlanks LS xs d (by omega)  _) (fun qx1 => ?_)
    refine fo_st rfl rfl ?_
    exact fo_ret rfl rfl rfl
  · refine fo_st rfl rfl ?_
    refine fo_get rfl (eg_2 _) rfl ?_
    refine fo_st rfl rfl ?_
    refine fo_st rfl rfl ?_
    refine fo_get rfl (eg_2 _) rfl ?_
    refine fo_get rfl (eg_0 _) rfl ?_
    refine fo_callI (As := [.ref 81, .int (1 : Int32), .int (gI s 81 1)]) (rest := []) rfl rfl rfl rfl (mi_rcv_of (eg_0 _)) (c_X0_wrong LS xs d (by omega) _ _ _) (fun qx2 => ?_)
    exact fo_ret2 rfl rfl
def f_X2_readGap  (s : fS) : Option (Int32 × fS) := f_X2_readGap_0 s
theorem c_X2_readGap (LS : Nat) (xs : Nat → Int32) (d : Nat) (hd : 3 ≤ d)   (s : fS) : fm mi_ms cvI LS xs d 44 [.ref 80] (enc s) (f_X2_readGap  s) := by
  obtain ⟨e, rfl⟩ : ∃ e, d = e + 1 := ⟨d - 1, by omega⟩
  exact fm_of (M := m_X2_readGap) rfl rfl (fun _ => ⟨_, rfl⟩) (g_X2_readGap_0 LS xs e (by omega) s)
def f_X2_readLineEnd_41   (t0 : Int32) (s : fS) : Option (Int32 × fS) := fchk (fbl t0) (some (t0, s))
theorem g_X2_readLineEnd_41 (LS : Nat) (xs : Nat → Int32) (d : Nat) (hd : 2 ≤ d)     (t0 : Int32)  (s : fS) : fo cvI t_X2_readLineEnd LS xs (mi_call mi_ms false LS xs d) (41, [some (.ref 80)], [.int t0], enc s) (f_X2_readLineEnd_41 t0 s) := by
  unfold f_X2_readLineEnd_41
  exact fo_ret2 rfl rfl
def f_X2_readLineEnd_36    (s : fS) : Option (Int32 × fS) := f_X2_readLineEnd_41 (1 : Int32) s
theorem g_X2_readLineEnd_36 (LS : Nat) (xs : Nat → Int32) (d : Nat) (hd : 2 ≤ d)       (s : fS) : fo cvI t_X2_readLineEnd LS xs (mi_call mi_ms false LS xs d) (36, [some (.ref 80)], [], enc s) (f_X2_readLineEnd_36 s) := by
  unfold f_X2_readLineEnd_36
  refine fo_st rfl rfl ?_
  refine fo_st rfl rfl ?_
  exact g_X2_readLineEnd_41 LS xs d hd _ _
def f_X2_readLineEnd_0    (s : fS) : Option (Int32 × fS) := ((f_X0_skipBlanks s).bind fun qx1 => (bif decide ((gI qx1 81 2) = (-1 : Int32)) then f_X2_readLineEnd_36 qx1 else ((f_X0_wrong (1 : Int32) (gI qx1 81 1) qx1).bind fun qx2 => (bif decide (qx2.1 = 0) then f_X2_readLineEnd_41 (0 : Int32) qx2.2 else f_X2_readLineEnd_36 qx2.2))))
theorem g_X2_readLineEnd_0 (LS : Nat) (xs : Nat → Int32) (d : Nat) (hd : 2 ≤ d)       (s : fS) : fo cvI t_X2_readLineEnd LS xs (mi_call mi_ms false LS xs d) (0, [some (.ref 80)], [], enc s) (f_X2_readLineEnd_0 s) := by
  unfold f_X2_readLineEnd_0
  refine fo_st rfl rfl ?_
  refine fo_get rfl (eg_2 _) rfl ?_
  refine fo_callV (As := [.ref 81]) (rest := []) rfl rfl rfl rfl (mi_rcv_of (eg_0 _)) (c_X0_skipBlanks LS xs d (by omega)  _) (fun qx1 => ?_)
  refine fo_st rfl rfl ?_
  refine fo_get rfl (eg_2 _) rfl ?_
  refine fo_get rfl (eg_0 _) rfl ?_
  refine fo_st rfl rfl ?_
  refine fo_b rfl rfl ?_ ?_
  · exact g_X2_readLineEnd_36 LS xs d hd _
  · refine fo_st rfl rfl ?_
    refine fo_get rfl (eg_2 _) rfl ?_
    refine fo_st rfl rfl ?_
    refine fo_st rfl rfl ?_
    refine fo_get rfl (eg_2 _) rfl ?_
    refine fo_get rfl (eg_0 _) rfl ?_
    refine fo_callI (As := [.ref 81, .int (1 : Int32), .int (gI qx1 81 1)]) (rest := []) rfl rfl rfl rfl (mi_rcv_of (eg_0 _)) (c_X0_wrong LS xs d (by omega) _ _ _) (fun qx2 => ?_)
    refine fo_b rfl rfl ?_ ?_
    · refine fo_st rfl rfl ?_
      exact g_X2_readLineEnd_41 LS xs d hd _ _
    · exact g_X2_readLineEnd_36 LS xs d hd _
def f_X2_readLineEnd  (s : fS) : Option (Int32 × fS) := f_X2_readLineEnd_0 s
theorem c_X2_readLineEnd (LS : Nat) (xs : Nat → Int32) (d : Nat) (hd : 3 ≤ d)   (s : fS) : fm mi_ms cvI LS xs d 45 [.ref 80] (enc s) (f_X2_readLineEnd  s) := by
  obtain ⟨e, rfl⟩ : ∃ e, d = e + 1 := ⟨d - 1, by omega⟩
  exact fm_of (M := m_X2_readLineEnd) rfl rfl (fun _ => ⟨_, rfl⟩) (g_X2_readLineEnd_0 LS xs e (by omega) s)
def f_X2_readCount_0    (s : fS) : Option (Int32 × fS) := (bif decide ((gI s 80 4) = 0) then ((f_X0_step (sI s 80 4 (gI s 81 3))).bind fun qx1 => ((f_X2_readGap qx1).bind fun qx2 => (bif decide (¬ qx2.1 = 0) then ((f_X0_placeOf (gI qx2.2 81 1) qx2.2).bind fun qx3 => ((f_X2_readNumber (sI qx3.2 80 5 qx3.1)).bind fun qx4 => (bif decide (¬ qx4.1 = 0) then ((f_X2_readGap (sI qx4.2 (gadr (gP2 qx4.2)) 13 (gI qx4.2 80 7))).bind fun qx5 => (bif decide (¬ qx5.1 = 0) then ((f_X0_placeOf (gI qx5.2 81 1) qx5.2).bind fun qx6 => ((f_X2_readNumber (sI qx6.2 80 6 qx6.1)).bind fun qx7 => (bif decide (¬ qx7.1 = 0) then ((f_X3_add (gadr (gP2 qx7.2) + 35) (1 : Int32) (sI qx7.2 (gadr (gP2 qx7.2)) 14 (gI qx7.2 80 7))).bind fun qx8 => ((f_X2_readLineEnd qx8).bind fun qx9 => fchk (fbl qx9.1) (some (qx9.1, qx9.2)))) else some ((0 : Int32), qx7.2)))) else some ((0 : Int32), qx5.2))) else some ((0 : Int32), qx4.2)))) else some ((0 : Int32), qx2.2)))) else ((f_X0_wrong (4 : Int32) (gI s 81 1) s).bind fun qx10 => fchk (fbl qx10.1) (some (qx10.1, qx10.2))))
theorem g_X2_readCount_0 (LS : Nat) (xs : Nat → Int32) (d : Nat) (hd : 3 ≤ d)       (s : fS) : fo cvI t_X2_readCount LS xs (mi_call mi_ms false LS xs d) (0, [some (.ref 80)], [], enc s) (f_X2_readCount_0 s) := by
  unfold f_X2_readCount_0
  refine fo_st rfl rfl ?_
  refine fo_get rfl (eg_2 _) rfl ?_
  refine fo_b rfl rfl ?_ ?_
  · refine fo_st rfl rfl ?_
    refine fo_st rfl rfl ?_
    refine fo_get rfl (eg_2 _) rfl ?_
    refine fo_get rfl (eg_0 _) rfl ?_
    refine fo_put rfl (eg_2 _) rfl rfl (es_2_4 _ _) ?_
    refine fo_st rfl rfl ?_
    refine fo_get rfl (eg_2 _) rfl ?_
    refine fo_callV (As := [.ref 81]) (rest := []) rfl rfl rfl rfl (mi_rcv_of (eg_0 _)) (c_X0_step LS xs d (by omega)  _) (fun qx1 => ?_)
    refine fo_st rfl rfl ?_
    refine fo_callI (As := [.ref 80]) (rest := []) rfl rfl rfl rfl (mi_rcv_of (eg_2 _)) (c_X2_readGap LS xs d (by omega)  _) (fun qx2 => ?_)
    refine fo_b rfl rfl ?_ ?_
    · refine fo_st rfl rfl ?_
      refine fo_st rfl rfl ?_
      refine fo_get rfl (eg_2 _) rfl ?_
      refine fo_st rfl rfl ?_
      refine fo_get rfl (eg_2 _) rfl ?_
      refine fo_get rfl (eg_0 _) rfl ?_
      refine fo_callI (As := [.ref 81, .int (gI qx2.2 81 1)]) (rest := [.ref 80]) rfl rfl rfl rfl (mi_rcv_of (eg_0 _)) (c_X0_placeOf LS xs d (by omega) _ _) (fun qx3 => ?_)
      refine fo_put rfl (eg_2 _) rfl rfl (es_2_5 _ _) ?_
      refine fo_st rfl rfl ?_
      refine fo_callI (As := [.ref 80]) (rest := []) rfl rfl rfl rfl (mi_rcv_of (eg_2 _)) (c_X2_readNumber LS xs d (by omega)  _) (fun qx4 => ?_)
      refine fo_b rfl rfl ?_ ?_
      · refine fo_st rfl rfl ?_
        refine fo_get rfl (eg_2 _) rfl ?_
        refine fo_st rfl rfl ?_
        refine fo_get rfl (eg_2 _) rfl ?_
        refine fo_put rfl (eg_gr _ _) rfl rfl (es_gr_13 _ _ _) ?_
        refine fo_st rfl rfl ?_
        refine fo_callI (As := [.ref 80]) (rest := []) rfl rfl rfl rfl (mi_rcv_of (eg_2 _)) (c_X2_readGap LS xs d (by omega)  _) (fun qx5 => ?_)
        refine fo_b rfl rfl ?_ ?_
        · refine fo_st rfl rfl ?_
          refine fo_st rfl rfl ?_
          refine fo_get rfl (eg_2 _) rfl ?_
          refine fo_st rfl rfl ?_
          refine fo_get rfl (eg_2 _) rfl ?_
          refine fo_get rfl (eg_0 _) rfl ?_
          refine fo_callI (As := [.ref 81, .int (gI qx5.2 81 1)]) (rest := [.ref 80]) rfl rfl rfl rfl (mi_rcv_of (eg_0 _)) (c_X0_placeOf LS xs d (by omega) _ _) (fun qx6 => ?_)
          refine fo_put rfl (eg_2 _) rfl rfl (es_2_6 _ _) ?_
          refine fo_st rfl rfl ?_
          refine fo_callI (As := [.ref 80]) (rest := []) rfl rfl rfl rfl (mi_rcv_of (eg_2 _)) (c_X2_readNumber LS xs d (by omega)  _) (fun qx7 => ?_)
          refine fo_b rfl rfl ?_ ?_
          · refine fo_st rfl rfl ?_
            refine fo_get rfl (eg_2 _) rfl ?_
            refine fo_st rfl rfl ?_
            refine fo_get rfl (eg_2 _) rfl ?_
            refine fo_put rfl (eg_gr _ _) rfl rfl (es_gr_14 _ _ _) ?_
            refine fo_st rfl rfl ?_
            refine fo_get rfl (eg_2 _) rfl ?_
            refine fo_get rfl (eg_gr _ _) rfl ?_
            refine fo_st rfl rfl ?_
            refine fo_callV (As := [.ref (gadr (gP2 qx7.2) + 35), .int (1 : Int32)]) (rest := []) rfl rfl rfl rfl (mi_rcv_of (eg_row _ (gk_35 _))) (c_X3_add LS xs d (by omega) _ _ (gk_35 _) _) (fun qx8 => ?_)
            refine fo_st rfl rfl ?_
            refine fo_callI (As := [.ref 80]) (rest := []) rfl rfl rfl rfl (mi_rcv_of (eg_2 _)) (c_X2_readLineEnd LS xs d (by omega)  _) (fun qx9 => ?_)
            exact fo_ret2 rfl rfl
          · refine fo_st rfl rfl ?_
            exact fo_ret rfl rfl rfl
        · refine fo_st rfl rfl ?_
          exact fo_ret rfl rfl rfl
      · refine fo_st rfl rfl ?_
        exact fo_ret rfl rfl rfl
    · refine fo_st rfl rfl ?_
      exact fo_ret rfl rfl rfl
  · refine fo_st rfl rfl ?_
    refine fo_get rfl (eg_2 _) rfl ?_
    refine fo_st rfl rfl ?_
    refine fo_st rfl rfl ?_
    refine fo_get rfl (eg_2 _) rfl ?_
    refine fo_get rfl (eg_0 _) rfl ?_
    refine fo_callI (As := [.ref 81, .int (4 : Int32), .int (gI s 81 1)]) (rest := []) rfl rfl rfl rfl (mi_rcv_of (eg_0 _)) (c_X0_wrong LS xs d (by omega) _ _ _) (fun qx10 => ?_)
    exact fo_ret2 rfl rfl
def f_X2_readCount  (s : fS) : Option (Int32 × fS) := f_X2_readCount_0 s
theorem c_X2_readCount (LS : Nat) (xs : Nat → Int32) (d : Nat) (hd : 4 ≤ d)   (s : fS) : fm mi_ms cvI LS xs d 27 [.ref 80] (enc s) (f_X2_readCount  s) := by
  obtain ⟨e, rfl⟩ : ∃ e, d = e + 1 := ⟨d - 1, by omega⟩
  exact fm_of (M := m_X2_readCount) rfl rfl (fun _ => ⟨_, rfl⟩) (g_X2_readCount_0 LS xs e (by omega) s)
def f_X2_kindOfLetter_0   (l0 : Int32) (s : fS) : Option (Int32 × fS) := (bif decide (l0.toInt = 100) then some ((1 : Int32), s) else (bif decide (l0.toInt = 103) then some ((3 : Int32), s) else (bif decide (l0.toInt = 116) then some ((2 : Int32), s) else (bif decide (l0.toInt = 119) then some ((0 : Int32), s) else some ((-1 : Int32), s)))))
theorem g_X2_kindOfLetter_0 (LS : Nat) (xs : Nat → Int32) (d : Nat) (hd : 0 ≤ d)     (l0 : Int32)  (s : fS) : fo cvI t_X2_kindOfLetter LS xs (mi_call mi_ms false LS xs d) (0, [some (.int l0)], [], enc s) (f_X2_kindOfLetter_0 l0 s) := by
  unfold f_X2_kindOfLetter_0
  refine fo_st rfl rfl ?_
  refine fo_sw rfl ?_
  refine fo_lk ?_ ?_
  · refine fo_st rfl rfl ?_
    exact fo_ret rfl rfl rfl
  · refine fo_lk ?_ ?_
    · refine fo_st rfl rfl ?_
      exact fo_ret rfl rfl rfl
    · refine fo_lk ?_ ?_
      · refine fo_st rfl rfl ?_
        exact fo_ret rfl rfl rfl
      · refine fo_lk ?_ ?_
        · refine fo_st rfl rfl ?_
          exact fo_ret rfl rfl rfl
        · show fo _ _ _ _ _ (52, _, _, _) _
          refine fo_st rfl rfl ?_
          exact fo_ret rfl rfl rfl
def f_X2_kindOfLetter (l0 : Int32) (s : fS) : Option (Int32 × fS) := f_X2_kindOfLetter_0 l0 s
theorem c_X2_kindOfLetter (LS : Nat) (xs : Nat → Int32) (d : Nat) (hd : 1 ≤ d) (l0 : Int32)  (s : fS) : fm mi_ms cvI LS xs d 30 [.int l0] (enc s) (f_X2_kindOfLetter l0 s) := by
  obtain ⟨e, rfl⟩ : ∃ e, d = e + 1 := ⟨d - 1, by omega⟩
  exact fm_of (M := m_X2_kindOfLetter) rfl rfl (fun _ => ⟨_, rfl⟩) (g_X2_kindOfLetter_0 LS xs e (by omega) l0 s)
theorem p_X2_kindOfLetter_0    (l0 : Int32) (s : fS) : pu s (f_X2_kindOfLetter_0 l0 s) := by
  unfold f_X2_kindOfLetter_0
  refine pu_b ?_ ?_
  · exact pu_some rfl
  · refine pu_b ?_ ?_
    · exact pu_some rfl
    · refine pu_b ?_ ?_
      · exact pu_some rfl
      · refine pu_b ?_ ?_
        · exact pu_some rfl
        · exact pu_some rfl
theorem p_X2_kindOfLetter (l0 : Int32) (s : fS) : pu s (f_X2_kindOfLetter l0 s) := p_X2_kindOfLetter_0 l0 s
def f_X6_isPlain_35   (l0 : Int32) (t0 : Int32) (s : fS) : Option (Int32 × fS) := fchk (fbl t0) (some (t0, s))
theorem g_X6_isPlain_35 (LS : Nat) (xs : Nat → Int32) (d : Nat) (hd : 0 ≤ d)     (l0 : Int32) (t0 : Int32)  (s : fS) : fo cvI t_X6_isPlain LS xs (mi_call mi_ms false LS xs d) (35, [some (.int l0)], [.int t0], enc s) (f_X6_isPlain_35 l0 t0 s) := by
  unfold f_X6_isPlain_35
  exact fo_ret2 rfl rfl
def f_X6_isPlain_30   (l0 : Int32) (s : fS) : Option (Int32 × fS) := f_X6_isPlain_35 l0 (1 : Int32) s
theorem g_X6_isPlain_30 (LS : Nat) (xs : Nat → Int32) (d : Nat) (hd : 0 ≤ d)     (l0 : Int32)  (s : fS) : fo cvI t_X6_isPlain LS xs (mi_call mi_ms false LS xs d) (30, [some (.int l0)], [], enc s) (f_X6_isPlain_30 l0 s) := by
  unfold f_X6_isPlain_30
  refine fo_st rfl rfl ?_
  refine fo_st rfl rfl ?_
  exact g_X6_isPlain_35 LS xs d hd _ _ _
def f_X6_isPlain_24   (l0 : Int32) (s : fS) : Option (Int32 × fS) := (bif decide (¬ l0 = (95 : Int32)) then f_X6_isPlain_35 l0 (0 : Int32) s else f_X6_isPlain_30 l0 s)
theorem g_X6_isPlain_24 (LS : Nat) (xs : Nat → Int32) (d : Nat) (hd : 0 ≤ d)     (l0 : Int32)  (s : fS) : fo cvI t_X6_isPlain LS xs (mi_call mi_ms false LS xs d) (24, [some (.int l0)], [], enc s) (f_X6_isPlain_24 l0 s) := by
  unfold f_X6_isPlain_24
  refine fo_st rfl rfl ?_
  refine fo_st rfl rfl ?_
  refine fo_b rfl rfl ?_ ?_
  · refine fo_st rfl rfl ?_
    exact g_X6_isPlain_35 LS xs d hd _ _ _
  · exact g_X6_isPlain_30 LS xs d hd _ _
def f_X6_isPlain_12   (l0 : Int32) (s : fS) : Option (Int32 × fS) := (bif decide (l0 < (48 : Int32)) then f_X6_isPlain_24 l0 s else (bif decide (l0 ≤ (57 : Int32)) then f_X6_isPlain_30 l0 s else f_X6_isPlain_24 l0 s))
theorem g_X6_isPlain_12 (LS : Nat) (xs : Nat → Int32) (d : Nat) (hd : 0 ≤ d)     (l0 : Int32)  (s : fS) : fo cvI t_X6_isPlain LS xs (mi_call mi_ms false LS xs d) (12, [some (.int l0)], [], enc s) (f_X6_isPlain_12 l0 s) := by
  unfold f_X6_isPlain_12
  refine fo_st rfl rfl ?_
  refine fo_st rfl rfl ?_
  refine fo_b rfl rfl ?_ ?_
  · exact g_X6_isPlain_24 LS xs d hd _ _
  · refine fo_st rfl rfl ?_
    refine fo_st rfl rfl ?_
    refine fo_b rfl rfl ?_ ?_
    · exact g_X6_isPlain_30 LS xs d hd _ _
    · exact g_X6_isPlain_24 LS xs d hd _ _
def f_X6_isPlain_0   (l0 : Int32) (s : fS) : Option (Int32 × fS) := (bif decide (l0 < (97 : Int32)) then f_X6_isPlain_12 l0 s else (bif decide (l0 ≤ (122 : Int32)) then f_X6_isPlain_30 l0 s else f_X6_isPlain_12 l0 s))
theorem g_X6_isPlain_0 (LS : Nat) (xs : Nat → Int32) (d : Nat) (hd : 0 ≤ d)     (l0 : Int32)  (s : fS) : fo cvI t_X6_isPlain LS xs (mi_call mi_ms false LS xs d) (0, [some (.int l0)], [], enc s) (f_X6_isPlain_0 l0 s) := by
  unfold f_X6_isPlain_0
  refine fo_st rfl rfl ?_
  refine fo_st rfl rfl ?_
  refine fo_b rfl rfl ?_ ?_
  · exact g_X6_isPlain_12 LS xs d hd _ _
  · refine fo_st rfl rfl ?_
    refine fo_st rfl rfl ?_
    refine fo_b rfl rfl ?_ ?_
    · exact g_X6_isPlain_30 LS xs d hd _ _
    · exact g_X6_isPlain_12 LS xs d hd _ _
def f_X6_isPlain (l0 : Int32) (s : fS) : Option (Int32 × fS) := f_X6_isPlain_0 l0 s
theorem c_X6_isPlain (LS : Nat) (xs : Nat → Int32) (d : Nat) (hd : 1 ≤ d) (l0 : Int32)  (s : fS) : fm mi_ms cvI LS xs d 92 [.int l0] (enc s) (f_X6_isPlain l0 s) := by
  obtain ⟨e, rfl⟩ : ∃ e, d = e + 1 := ⟨d - 1, by omega⟩
  exact fm_of (M := m_X6_isPlain) rfl rfl (fun _ => ⟨_, rfl⟩) (g_X6_isPlain_0 LS xs e (by omega) l0 s)
end FM1
