section FM0
def f_X0_step_90   (l1 : Int32) (t0 : Int32) (s : fS) : Option fS := some (sI s 81 2 t0)
theorem g_X0_step_90 (LS : Nat) (xs : Nat → Int32) (d : Nat) (hd : 0 ≤ d)     (l1 : Int32) (t0 : Int32)  (s : fS) : fo cvV t_X0_step LS xs (mi_call mi_ms false LS xs d) (90, [some (.ref 81), some (.int l1)], [.int t0, .ref 81], enc s) (f_X0_step_90 l1 t0 s) := by
  unfold f_X0_step_90
  refine fo_put rfl (eg_0 _) rfl rfl (es_0_2 _ _) ?_
  exact fo_ret rfl rfl rfl
def f_X0_step_89   (l1 : Int32) (s : fS) : Option fS := f_X0_step_90 l1 (-1 : Int32) s
theorem g_X0_step_89 (LS : Nat) (xs : Nat → Int32) (d : Nat) (hd : 0 ≤ d)     (l1 : Int32)  (s : fS) : fo cvV t_X0_step LS xs (mi_call mi_ms false LS xs d) (89, [some (.ref 81), some (.int l1)], [.ref 81], enc s) (f_X0_step_89 l1 s) := by
  unfold f_X0_step_89
  refine fo_st rfl rfl ?_
  exact g_X0_step_90 LS xs d hd _ _ _
def f_X0_step_51   (t0 : Int32) (s : fS) : Option fS := (bif decide (t0 = 0) then f_X0_step_89 t0 s else fchk (mi_in (gI s 81 1) (gA s 2).length) ((bif decide (((gA s 2).getD (gI s 81 1).toNatClampNeg 0) = (10 : Int32)) then f_X0_step_89 t0 s else fchk (mi_in (gI s 81 1) (gA s 2).length) (f_X0_step_90 t0 ((gA s 2).getD (gI s 81 1).toNatClampNeg 0) s))))
theorem g_X0_step_51 (LS : Nat) (xs : Nat → Int32) (d : Nat) (hd : 0 ≤ d)     (t0 : Int32)  (s : fS) : fo cvV t_X0_step LS xs (mi_call mi_ms false LS xs d) (51, [some (.ref 81), none], [.int t0], enc s) (f_X0_step_51 t0 s) := by
  unfold f_X0_step_51
  refine fo_st rfl rfl ?_
  refine fo_st rfl rfl ?_
  refine fo_st rfl rfl ?_
  refine fo_b rfl rfl ?_ ?_
  · exact g_X0_step_89 LS xs d hd _ _
  · refine fo_st rfl rfl ?_
    refine fo_get rfl (eg_0 _) rfl ?_
    refine fo_get rfl (eg_row _ rfl) rfl ?_
    refine fo_st rfl rfl ?_
    refine fo_get rfl (eg_0 _) rfl ?_
    refine fo_iald rfl (eg_ar _ rfl) ?_
    refine fo_st rfl rfl ?_
    refine fo_b rfl rfl ?_ ?_
    · exact g_X0_step_89 LS xs d hd _ _
    · refine fo_st rfl rfl ?_
      refine fo_get rfl (eg_0 _) rfl ?_
      refine fo_get rfl (eg_row _ rfl) rfl ?_
      refine fo_st rfl rfl ?_
      refine fo_get rfl (eg_0 _) rfl ?_
      refine fo_iald rfl (eg_ar _ rfl) ?_
      refine fo_st rfl rfl ?_
      exact g_X0_step_90 LS xs d hd _ _ _
def f_X0_step_50    (s : fS) : Option fS := f_X0_step_51 (0 : Int32) s
theorem g_X0_step_50 (LS : Nat) (xs : Nat → Int32) (d : Nat) (hd : 0 ≤ d)       (s : fS) : fo cvV t_X0_step LS xs (mi_call mi_ms false LS xs d) (50, [some (.ref 81), none], [], enc s) (f_X0_step_50 s) := by
  unfold f_X0_step_50
  refine fo_st rfl rfl ?_
  exact g_X0_step_51 LS xs d hd _ _
def f_X0_step_0    (s : fS) : Option fS := (bif decide (((gI s 81 1) + (1 : Int32)) < 0) then f_X0_step_50 (sI s 81 1 ((gI s 81 1) + (1 : Int32))) else (bif decide ((gI s 1 1) ≤ ((gI s 81 1) + (1 : Int32))) then f_X0_step_50 (sI s 81 1 ((gI s 81 1) + (1 : Int32))) else (bif decide ((Int32.ofNat (gA s 2).length) ≤ ((gI s 81 1) + (1 : Int32))) then f_X0_step_50 (sI s 81 1 ((gI s 81 1) + (1 : Int32))) else f_X0_step_51 (1 : Int32) (sI s 81 1 ((gI s 81 1) + (1 : Int32))))))
theorem g_X0_step_0 (LS : Nat) (xs : Nat → Int32) (d : Nat) (hd : 0 ≤ d)       (s : fS) : fo cvV t_X0_step LS xs (mi_call mi_ms false LS xs d) (0, [some (.ref 81), none], [], enc s) (f_X0_step_0 s) := by
  unfold f_X0_step_0
  refine fo_st rfl rfl ?_
  refine fo_st rfl rfl ?_
  refine fo_get rfl (eg_0 _) rfl ?_
  refine fo_st rfl rfl ?_
  refine fo_st rfl rfl ?_
  refine fo_put rfl (eg_0 _) rfl rfl (es_0_1 _ _) ?_
  refine fo_st rfl rfl ?_
  refine fo_get rfl (eg_0 _) rfl ?_
  refine fo_b rfl rfl ?_ ?_
  · exact g_X0_step_50 LS xs d hd _
  · refine fo_st rfl rfl ?_
    refine fo_get rfl (eg_0 _) rfl ?_
    refine fo_st rfl rfl ?_
    refine fo_get rfl (eg_0 _) rfl ?_
    refine fo_get rfl (eg_row _ rfl) rfl ?_
    refine fo_b rfl rfl ?_ ?_
    · exact g_X0_step_50 LS xs d hd _
    · refine fo_st rfl rfl ?_
      refine fo_get rfl (eg_0 _) rfl ?_
      refine fo_st rfl rfl ?_
      refine fo_get rfl (eg_0 _) rfl ?_
      refine fo_get rfl (eg_row _ rfl) rfl ?_
      refine fo_alen rfl (eg_ar _ rfl) ?_
      refine fo_b rfl rfl ?_ ?_
      · exact g_X0_step_50 LS xs d hd _
      · refine fo_st rfl rfl ?_
        refine fo_st rfl rfl ?_
        exact g_X0_step_51 LS xs d hd _ _
def f_X0_step  (s : fS) : Option fS := f_X0_step_0 s
theorem c_X0_step (LS : Nat) (xs : Nat → Int32) (d : Nat) (hd : 1 ≤ d)   (s : fS) : fm mi_ms cvV LS xs d 4 [.ref 81] (enc s) (f_X0_step  s) := by
  obtain ⟨e, rfl⟩ : ∃ e, d = e + 1 := ⟨d - 1, by omega⟩
  exact fm_of (M := m_X0_step) rfl rfl (fun _ => ⟨_, rfl⟩) (g_X0_step_0 LS xs e (by omega) s)
def f_X0_nextLine_0    (s : fS) : Option fS := ((f_X0_step s).bind fun qx1 => some (sI (sI qx1 81 3 ((gI qx1 81 3) + (1 : Int32))) 81 4 (gI qx1 81 1)))
theorem g_X0_nextLine_0 (LS : Nat) (xs : Nat → Int32) (d : Nat) (hd : 1 ≤ d)       (s : fS) : fo cvV t_X0_nextLine LS xs (mi_call mi_ms false LS xs d) (0, [some (.ref 81)], [], enc s) (f_X0_nextLine_0 s) := by
  unfold f_X0_nextLine_0
  refine fo_st rfl rfl ?_
  refine fo_callV (As := [.ref 81]) (rest := []) rfl rfl rfl rfl (mi_rcv_of (eg_0 _)) (c_X0_step LS xs d (by omega)  _) (fun qx1 => ?_)
  refine fo_st rfl rfl ?_
  refine fo_st rfl rfl ?_
  refine fo_get rfl (eg_0 _) rfl ?_
  refine fo_st rfl rfl ?_
  refine fo_st rfl rfl ?_
  refine fo_put rfl (eg_0 _) rfl rfl (es_0_3 _ _) ?_
  refine fo_st rfl rfl ?_
  refine fo_st rfl rfl ?_
  refine fo_get rfl (eg_0 _) rfl ?_
  refine fo_put rfl (eg_0 _) rfl rfl (es_0_4 _ _) ?_
  exact fo_ret rfl rfl rfl
def f_X0_nextLine  (s : fS) : Option fS := f_X0_nextLine_0 s
theorem c_X0_nextLine (LS : Nat) (xs : Nat → Int32) (d : Nat) (hd : 2 ≤ d)   (s : fS) : fm mi_ms cvV LS xs d 3 [.ref 81] (enc s) (f_X0_nextLine  s) := by
  obtain ⟨e, rfl⟩ : ∃ e, d = e + 1 := ⟨d - 1, by omega⟩
  exact fm_of (M := m_X0_nextLine) rfl rfl (fun _ => ⟨_, rfl⟩) (g_X0_nextLine_0 LS xs e (by omega) s)
def f_X0_start_0    (s : fS) : Option fS := ((f_X0_nextLine (sI (sI (sI s 81 1 (-1 : Int32)) 81 3 (0 : Int32)) 81 5 (0 : Int32))).bind fun qx1 => some qx1)
theorem g_X0_start_0 (LS : Nat) (xs : Nat → Int32) (d : Nat) (hd : 2 ≤ d)       (s : fS) : fo cvV t_X0_start LS xs (mi_call mi_ms false LS xs d) (0, [some (.ref 81), some (.ref 1)], [], enc s) (f_X0_start_0 s) := by
  unfold f_X0_start_0
  refine fo_st rfl rfl ?_
  refine fo_st rfl rfl ?_
  refine fo_put rfl (eg_0 _) rfl rfl (es_0_0 _) ?_
  refine fo_st rfl rfl ?_
  refine fo_st rfl rfl ?_
  refine fo_put rfl (eg_0 _) rfl rfl (es_0_1 _ _) ?_
  refine fo_st rfl rfl ?_
  refine fo_st rfl rfl ?_
  refine fo_put rfl (eg_0 _) rfl rfl (es_0_3 _ _) ?_
  refine fo_st rfl rfl ?_
  refine fo_st rfl rfl ?_
  refine fo_put rfl (eg_0 _) rfl rfl (es_0_5 _ _) ?_
  refine fo_st rfl rfl ?_
  refine fo_callV (As := [.ref 81]) (rest := []) rfl rfl rfl rfl (mi_rcv_of (eg_0 _)) (c_X0_nextLine LS xs d (by omega)  _) (fun qx1 => ?_)
  exact fo_ret rfl rfl rfl
def f_X0_start  (s : fS) : Option fS := f_X0_start_0 s
theorem c_X0_start (LS : Nat) (xs : Nat → Int32) (d : Nat) (hd : 3 ≤ d)   (s : fS) : fm mi_ms cvV LS xs d 1 [.ref 81, .ref 1] (enc s) (f_X0_start  s) := by
  obtain ⟨e, rfl⟩ : ∃ e, d = e + 1 := ⟨d - 1, by omega⟩
  exact fm_of (M := m_X0_start) rfl rfl (fun _ => ⟨_, rfl⟩) (g_X0_start_0 LS xs e (by omega) s)
def f_X0_hasLine_19   (t0 : Int32) (s : fS) : Option (Int32 × fS) := fchk (fbl t0) (some (t0, s))
theorem g_X0_hasLine_19 (LS : Nat) (xs : Nat → Int32) (d : Nat) (hd : 0 ≤ d)     (t0 : Int32)  (s : fS) : fo cvI t_X0_hasLine LS xs (mi_call mi_ms false LS xs d) (19, [some (.ref 81)], [.int t0], enc s) (f_X0_hasLine_19 t0 s) := by
  unfold f_X0_hasLine_19
  exact fo_ret2 rfl rfl
def f_X0_hasLine_0    (s : fS) : Option (Int32 × fS) := (bif decide ((gI s 1 1) ≤ (gI s 81 1)) then f_X0_hasLine_19 (0 : Int32) s else f_X0_hasLine_19 (1 : Int32) s)
theorem g_X0_hasLine_0 (LS : Nat) (xs : Nat → Int32) (d : Nat) (hd : 0 ≤ d)       (s : fS) : fo cvI t_X0_hasLine LS xs (mi_call mi_ms false LS xs d) (0, [some (.ref 81)], [], enc s) (f_X0_hasLine_0 s) := by
  unfold f_X0_hasLine_0
  refine fo_st rfl rfl ?_
  refine fo_get rfl (eg_0 _) rfl ?_
  refine fo_st rfl rfl ?_
  refine fo_get rfl (eg_0 _) rfl ?_
  refine fo_get rfl (eg_row _ rfl) rfl ?_
  refine fo_b rfl rfl ?_ ?_
  · refine fo_st rfl rfl ?_
    exact g_X0_hasLine_19 LS xs d hd _ _
  · refine fo_st rfl rfl ?_
    refine fo_st rfl rfl ?_
    exact g_X0_hasLine_19 LS xs d hd _ _
def f_X0_hasLine  (s : fS) : Option (Int32 × fS) := f_X0_hasLine_0 s
theorem c_X0_hasLine (LS : Nat) (xs : Nat → Int32) (d : Nat) (hd : 1 ≤ d)   (s : fS) : fm mi_ms cvI LS xs d 2 [.ref 81] (enc s) (f_X0_hasLine  s) := by
  obtain ⟨e, rfl⟩ : ∃ e, d = e + 1 := ⟨d - 1, by omega⟩
  exact fm_of (M := m_X0_hasLine) rfl rfl (fun _ => ⟨_, rfl⟩) (g_X0_hasLine_0 LS xs e (by omega) s)
theorem p_X0_hasLine_19    (t0 : Int32) (s : fS) : pu s (f_X0_hasLine_19 t0 s) := by
  unfold f_X0_hasLine_19
  refine pu_ck ?_
  exact pu_some rfl
theorem p_X0_hasLine_0     (s : fS) : pu s (f_X0_hasLine_0 s) := by
  unfold f_X0_hasLine_0
  refine pu_b ?_ ?_
  · exact p_X0_hasLine_19 _ _
  · exact p_X0_hasLine_19 _ _
theorem p_X0_hasLine  (s : fS) : pu s (f_X0_hasLine  s) := p_X0_hasLine_0 s
def f_X0_skipBlanks_28   (l1 : Int32) (s : fS) : Option fS := some s
theorem g_X0_skipBlanks_28 (LS : Nat) (xs : Nat → Int32) (d : Nat) (hd : 1 ≤ d)     (l1 : Int32)  (s : fS) : fo cvV t_X0_skipBlanks LS xs (mi_call mi_ms false LS xs d) (28, [some (.ref 81), some (.int l1)], [], enc s) (f_X0_skipBlanks_28 l1 s) := by
  unfold f_X0_skipBlanks_28
  exact fo_ret rfl rfl rfl
def f_X0_skipBlanks_2   : Nat → Int32 → fS → Option fS
  | 0, _, _ => none
  | n + 1, l1, s => (bif decide ((600 : Int32) ≤ l1) then f_X0_skipBlanks_28 l1 s else (bif decide (¬ (gI s 81 2) = (32 : Int32)) then f_X0_skipBlanks_28 l1 s else ((f_X0_step s).bind fun qx1 => f_X0_skipBlanks_2 n (l1 + Int32.ofInt (1)) qx1)))
theorem g_X0_skipBlanks_2 (LS : Nat) (xs : Nat → Int32) (d : Nat) (hd : 1 ≤ d)     (n : Nat) : ∀ (l1 : Int32) (s : fS), fo cvV t_X0_skipBlanks LS xs (mi_call mi_ms false LS xs d) (2, [some (.ref 81), some (.int l1)], [], enc s) (f_X0_skipBlanks_2 n l1 s) := by
  induction n with
  | zero => intro l1 s; exact fo_none
  | succ n ih =>
    intro l1 s
    rw [f_X0_skipBlanks_2]
    refine fo_st rfl rfl ?_
    refine fo_st rfl rfl ?_
    refine fo_b rfl rfl ?_ ?_
    · exact g_X0_skipBlanks_28 LS xs d hd _ _
    · refine fo_st rfl rfl ?_
      refine fo_get rfl (eg_0 _) rfl ?_
      refine fo_st rfl rfl ?_
      refine fo_b rfl rfl ?_ ?_
      · exact g_X0_skipBlanks_28 LS xs d hd _ _
      · refine fo_st rfl rfl ?_
        refine fo_callV (As := [.ref 81]) (rest := []) rfl rfl rfl rfl (mi_rcv_of (eg_0 _)) (c_X0_step LS xs d (by omega)  _) (fun qx1 => ?_)
        refine fo_st rfl rfl ?_
        refine fo_st rfl rfl ?_
        exact ih _ _
def f_X0_skipBlanks_0    (s : fS) : Option fS := f_X0_skipBlanks_2 fuel (0 : Int32) s
theorem g_X0_skipBlanks_0 (LS : Nat) (xs : Nat → Int32) (d : Nat) (hd : 1 ≤ d)       (s : fS) : fo cvV t_X0_skipBlanks LS xs (mi_call mi_ms false LS xs d) (0, [some (.ref 81), none], [], enc s) (f_X0_skipBlanks_0 s) := by
  unfold f_X0_skipBlanks_0
  refine fo_st rfl rfl ?_
  refine fo_st rfl rfl ?_
  exact g_X0_skipBlanks_2 LS xs d hd fuel _ _
def f_X0_skipBlanks  (s : fS) : Option fS := f_X0_skipBlanks_0 s
theorem c_X0_skipBlanks (LS : Nat) (xs : Nat → Int32) (d : Nat) (hd : 2 ≤ d)   (s : fS) : fm mi_ms cvV LS xs d 5 [.ref 81] (enc s) (f_X0_skipBlanks  s) := by
  obtain ⟨e, rfl⟩ : ∃ e, d = e + 1 := ⟨d - 1, by omega⟩
  exact fm_of (M := m_X0_skipBlanks) rfl rfl (fun _ => ⟨_, rfl⟩) (g_X0_skipBlanks_0 LS xs e (by omega) s)
def f_X0_isWordEnd_22   (t0 : Int32) (s : fS) : Option (Int32 × fS) := fchk (fbl t0) (some (t0, s))
theorem g_X0_isWordEnd_22 (LS : Nat) (xs : Nat → Int32) (d : Nat) (hd : 0 ≤ d)     (t0 : Int32)  (s : fS) : fo cvI t_X0_isWordEnd LS xs (mi_call mi_ms false LS xs d) (22, [some (.ref 81)], [.int t0], enc s) (f_X0_isWordEnd_22 t0 s) := by
  unfold f_X0_isWordEnd_22
  exact fo_ret2 rfl rfl
def f_X0_isWordEnd_17    (s : fS) : Option (Int32 × fS) := f_X0_isWordEnd_22 (1 : Int32) s
theorem g_X0_isWordEnd_17 (LS : Nat) (xs : Nat → Int32) (d : Nat) (hd : 0 ≤ d)       (s : fS) : fo cvI t_X0_isWordEnd LS xs (mi_call mi_ms false LS xs d) (17, [some (.ref 81)], [], enc s) (f_X0_isWordEnd_17 s) := by
  unfold f_X0_isWordEnd_17
  refine fo_st rfl rfl ?_
  refine fo_st rfl rfl ?_
  exact g_X0_isWordEnd_22 LS xs d hd _ _
def f_X0_isWordEnd_0    (s : fS) : Option (Int32 × fS) := (bif decide ((gI s 81 2) = (32 : Int32)) then f_X0_isWordEnd_17 s else (bif decide (¬ (gI s 81 2) = (-1 : Int32)) then f_X0_isWordEnd_22 (0 : Int32) s else f_X0_isWordEnd_17 s))
theorem g_X0_isWordEnd_0 (LS : Nat) (xs : Nat → Int32) (d : Nat) (hd : 0 ≤ d)       (s : fS) : fo cvI t_X0_isWordEnd LS xs (mi_call mi_ms false LS xs d) (0, [some (.ref 81)], [], enc s) (f_X0_isWordEnd_0 s) := by
  unfold f_X0_isWordEnd_0
  refine fo_st rfl rfl ?_
  refine fo_get rfl (eg_0 _) rfl ?_
  refine fo_st rfl rfl ?_
  refine fo_b rfl rfl ?_ ?_
  · exact g_X0_isWordEnd_17 LS xs d hd _
  · refine fo_st rfl rfl ?_
    refine fo_get rfl (eg_0 _) rfl ?_
    refine fo_st rfl rfl ?_
    refine fo_b rfl rfl ?_ ?_
    · refine fo_st rfl rfl ?_
      exact g_X0_isWordEnd_22 LS xs d hd _ _
    · exact g_X0_isWordEnd_17 LS xs d hd _
def f_X0_isWordEnd  (s : fS) : Option (Int32 × fS) := f_X0_isWordEnd_0 s
theorem c_X0_isWordEnd (LS : Nat) (xs : Nat → Int32) (d : Nat) (hd : 1 ≤ d)   (s : fS) : fm mi_ms cvI LS xs d 6 [.ref 81] (enc s) (f_X0_isWordEnd  s) := by
  obtain ⟨e, rfl⟩ : ∃ e, d = e + 1 := ⟨d - 1, by omega⟩
  exact fm_of (M := m_X0_isWordEnd) rfl rfl (fun _ => ⟨_, rfl⟩) (g_X0_isWordEnd_0 LS xs e (by omega) s)
theorem p_X0_isWordEnd_22    (t0 : Int32) (s : fS) : pu s (f_X0_isWordEnd_22 t0 s) := by
  unfold f_X0_isWordEnd_22
  refine pu_ck ?_
  exact pu_some rfl
theorem p_X0_isWordEnd_17     (s : fS) : pu s (f_X0_isWordEnd_17 s) := by
  unfold f_X0_isWordEnd_17
  exact p_X0_isWordEnd_22 _ _
theorem p_X0_isWordEnd_0     (s : fS) : pu s (f_X0_isWordEnd_0 s) := by
  unfold f_X0_isWordEnd_0
  refine pu_b ?_ ?_
  · exact p_X0_isWordEnd_17 _
  · refine pu_b ?_ ?_
    · exact p_X0_isWordEnd_22 _ _
    · exact p_X0_isWordEnd_17 _
theorem p_X0_isWordEnd  (s : fS) : pu s (f_X0_isWordEnd  s) := p_X0_isWordEnd_0 s
def f_X0_placeOf_0   (l1 : Int32) (s : fS) : Option (Int32 × fS) := some (((l1 - (gI s 81 4)) + (1 : Int32)), s)
theorem g_X0_placeOf_0 (LS : Nat) (xs : Nat → Int32) (d : Nat) (hd : 0 ≤ d)     (l1 : Int32)  (s : fS) : fo cvI t_X0_placeOf LS xs (mi_call mi_ms false LS xs d) (0, [some (.ref 81), some (.int l1)], [], enc s) (f_X0_placeOf_0 l1 s) := by
  unfold f_X0_placeOf_0
  refine fo_st rfl rfl ?_
  refine fo_st rfl rfl ?_
  refine fo_get rfl (eg_0 _) rfl ?_
  refine fo_st rfl rfl ?_
  refine fo_st rfl rfl ?_
  refine fo_st rfl rfl ?_
  exact fo_ret rfl rfl rfl
def f_X0_placeOf (l1 : Int32) (s : fS) : Option (Int32 × fS) := f_X0_placeOf_0 l1 s
theorem c_X0_placeOf (LS : Nat) (xs : Nat → Int32) (d : Nat) (hd : 1 ≤ d) (l1 : Int32)  (s : fS) : fm mi_ms cvI LS xs d 7 [.ref 81, .int l1] (enc s) (f_X0_placeOf l1 s) := by
  obtain ⟨e, rfl⟩ : ∃ e, d = e + 1 := ⟨d - 1, by omega⟩
  exact fm_of (M := m_X0_placeOf) rfl rfl (fun _ => ⟨_, rfl⟩) (g_X0_placeOf_0 LS xs e (by omega) l1 s)
theorem p_X0_placeOf_0    (l1 : Int32) (s : fS) : pu s (f_X0_placeOf_0 l1 s) := by
  unfold f_X0_placeOf_0
  exact pu_some rfl
theorem p_X0_placeOf (l1 : Int32) (s : fS) : pu s (f_X0_placeOf l1 s) := p_X0_placeOf_0 l1 s
def f_X0_wrong_0   (l1 : Int32) (l2 : Int32) (s : fS) : Option (Int32 × fS) := some ((0 : Int32), (sI (sI (sI s 81 5 l1) 81 6 (gI s 81 3)) 81 7 ((l2 - (gI s 81 4)) + (1 : Int32))))
theorem g_X0_wrong_0 (LS : Nat) (xs : Nat → Int32) (d : Nat) (hd : 0 ≤ d)     (l1 : Int32) (l2 : Int32)  (s : fS) : fo cvI t_X0_wrong LS xs (mi_call mi_ms false LS xs d) (0, [some (.ref 81), some (.int l1), some (.int l2)], [], enc s) (f_X0_wrong_0 l1 l2 s) := by
  unfold f_X0_wrong_0
  refine fo_st rfl rfl ?_
  refine fo_st rfl rfl ?_
  refine fo_put rfl (eg_0 _) rfl rfl (es_0_5 _ _) ?_
  refine fo_st rfl rfl ?_
  refine fo_st rfl rfl ?_
  refine fo_get rfl (eg_0 _) rfl ?_
  refine fo_put rfl (eg_0 _) rfl rfl (es_0_6 _ _) ?_
  refine fo_st rfl rfl ?_
  refine fo_st rfl rfl ?_
  refine fo_st rfl rfl ?_
  refine fo_get rfl (eg_0 _) rfl ?_
  refine fo_st rfl rfl ?_
  refine fo_st rfl rfl ?_
  refine fo_st rfl rfl ?_
  refine fo_put rfl (eg_0 _) rfl rfl (es_0_7 _ _) ?_
  refine fo_st rfl rfl ?_
  exact fo_ret rfl rfl rfl
def f_X0_wrong (l1 : Int32) (l2 : Int32) (s : fS) : Option (Int32 × fS) := f_X0_wrong_0 l1 l2 s
theorem c_X0_wrong (LS : Nat) (xs : Nat → Int32) (d : Nat) (hd : 1 ≤ d) (l1 : Int32) (l2 : Int32)  (s : fS) : fm mi_ms cvI LS xs d 8 [.ref 81, .int l1, .int l2] (enc s) (f_X0_wrong l1 l2 s) := by
  obtain ⟨e, rfl⟩ : ∃ e, d = e + 1 := ⟨d - 1, by omega⟩
  exact fm_of (M := m_X0_wrong) rfl rfl (fun _ => ⟨_, rfl⟩) (g_X0_wrong_0 LS xs e (by omega) l1 l2 s)
def f_X0_wrongElsewhere_0   (l1 : Int32) (l2 : Int32) (l3 : Int32) (s : fS) : Option (Int32 × fS) := some ((0 : Int32), (sI (sI (sI s 81 5 l1) 81 6 l2) 81 7 l3))
theorem g_X0_wrongElsewhere_0 (LS : Nat) (xs : Nat → Int32) (d : Nat) (hd : 0 ≤ d)     (l1 : Int32) (l2 : Int32) (l3 : Int32)  (s : fS) : fo cvI t_X0_wrongElsewhere LS xs (mi_call mi_ms false LS xs d) (0, [some (.ref 81), some (.int l1), some (.int l2), some (.int l3)], [], enc s) (f_X0_wrongElsewhere_0 l1 l2 l3 s) := by
  unfold f_X0_wrongElsewhere_0
  refine fo_st rfl rfl ?_
  refine fo_st rfl rfl ?_
  refine fo_put rfl (eg_0 _) rfl rfl (es_0_5 _ _) ?_
  refine fo_st rfl rfl ?_
  refine fo_st rfl rfl ?_
  refine fo_put rfl (eg_0 _) rfl rfl (es_0_6 _ _) ?_
  refine fo_st rfl rfl ?_
  refine fo_st rfl rfl ?_
  refine fo_put rfl (eg_0 _) rfl rfl (es_0_7 _ _) ?_
  refine fo_st rfl rfl ?_
  exact fo_ret rfl rfl rfl
def f_X0_wrongElsewhere (l1 : Int32) (l2 : Int32) (l3 : Int32) (s : fS) : Option (Int32 × fS) := f_X0_wrongElsewhere_0 l1 l2 l3 s
theorem c_X0_wrongElsewhere (LS : Nat) (xs : Nat → Int32) (d : Nat) (hd : 1 ≤ d) (l1 : Int32) (l2 : Int32) (l3 : Int32)  (s : fS) : fm mi_ms cvI LS xs d 9 [.ref 81, .int l1, .int l2, .int l3] (enc s) (f_X0_wrongElsewhere l1 l2 l3 s) := by
  obtain ⟨e, rfl⟩ : ∃ e, d = e + 1 := ⟨d - 1, by omega⟩
  exact fm_of (M := m_X0_wrongElsewhere) rfl rfl (fun _ => ⟨_, rfl⟩) (g_X0_wrongElsewhere_0 LS xs e (by omega) l1 l2 l3 s)
def f_X3_clear_0 (a0 : Nat)   (s : fS) : Option fS := some (sI s a0 1 (0 : Int32))
theorem g_X3_clear_0 (LS : Nat) (xs : Nat → Int32) (d : Nat) (hd : 0 ≤ d) (a0 : Nat) (h0 : isRow a0 = true)     (s : fS) : fo cvV t_X3_clear LS xs (mi_call mi_ms false LS xs d) (0, [some (.ref a0)], [], enc s) (f_X3_clear_0 a0 s) := by
  unfold f_X3_clear_0
  refine fo_st rfl rfl ?_
  refine fo_st rfl rfl ?_
  refine fo_put rfl (eg_row _ h0) rfl rfl (es_row _ h0 _) ?_
  exact fo_ret rfl rfl rfl
def f_X3_clear (a0 : Nat) (s : fS) : Option fS := f_X3_clear_0 a0 s
theorem c_X3_clear (LS : Nat) (xs : Nat → Int32) (d : Nat) (hd : 1 ≤ d) (a0 : Nat) (h0 : isRow a0 = true) (s : fS) : fm mi_ms cvV LS xs d 47 [.ref a0] (enc s) (f_X3_clear a0 s) := by
  obtain ⟨e, rfl⟩ : ∃ e, d = e + 1 := ⟨d - 1, by omega⟩
  exact fm_of (M := m_X3_clear) rfl rfl (fun _ => ⟨_, rfl⟩) (g_X3_clear_0 LS xs e (by omega) a0 h0 s)
def f_X4_clear_0 (a0 : Nat)   (s : fS) : Option fS := ((f_X3_clear (a0 + 1) s).bind fun qx1 => ((f_X3_clear (a0 + 3) qx1).bind fun qx2 => some (sI qx2 a0 3 (0 : Int32))))
theorem g_X4_clear_0 (LS : Nat) (xs : Nat → Int32) (d : Nat) (hd : 1 ≤ d) (a0 : Nat) (h0 : isSp a0 = true)     (s : fS) : fo cvV t_X4_clear LS xs (mi_call mi_ms false LS xs d) (0, [some (.ref a0)], [], enc s) (f_X4_clear_0 a0 s) := by
  unfold f_X4_clear_0
  refine fo_st rfl rfl ?_
  refine fo_get rfl (eg_sp _ h0) rfl ?_
  refine fo_callV (As := [.ref (a0 + 1)]) (rest := []) rfl rfl rfl rfl (mi_rcv_of (eg_row _ (sp_st h0))) (c_X3_clear LS xs d (by omega) _ (sp_st h0) _) (fun qx1 => ?_)
  refine fo_st rfl rfl ?_
  refine fo_get rfl (eg_sp _ h0) rfl ?_
  refine fo_callV (As := [.ref (a0 + 3)]) (rest := []) rfl rfl rfl rfl (mi_rcv_of (eg_row _ (sp_ln h0))) (c_X3_clear LS xs d (by omega) _ (sp_ln h0) _) (fun qx2 => ?_)
  refine fo_st rfl rfl ?_
  refine fo_st rfl rfl ?_
  refine fo_put rfl (eg_sp _ h0) rfl rfl (es_sp _ h0 _) ?_
  exact fo_ret rfl rfl rfl
def f_X4_clear (a0 : Nat) (s : fS) : Option fS := f_X4_clear_0 a0 s
theorem c_X4_clear (LS : Nat) (xs : Nat → Int32) (d : Nat) (hd : 2 ≤ d) (a0 : Nat) (h0 : isSp a0 = true) (s : fS) : fm mi_ms cvV LS xs d 54 [.ref a0] (enc s) (f_X4_clear a0 s) := by
  obtain ⟨e, rfl⟩ : ∃ e, d = e + 1 := ⟨d - 1, by omega⟩
  exact fm_of (M := m_X4_clear) rfl rfl (fun _ => ⟨_, rfl⟩) (g_X4_clear_0 LS xs e (by omega) a0 h0 s)
def f_X1_clear_0 (b0 : Bool)   (s : fS) : Option fS := ((f_X3_clear (gadr b0 + 1) s).bind fun qx1 => ((f_X4_clear (gadr b0 + 3) qx1).bind fun qx2 => ((f_X4_clear (gadr b0 + 8) qx2).bind fun qx3 => ((f_X4_clear (gadr b0 + 13) qx3).bind fun qx4 => ((f_X3_clear (gadr b0 + 18) qx4).bind fun qx5 => ((f_X3_clear (gadr b0 + 20) qx5).bind fun qx6 => ((f_X3_clear (gadr b0 + 22) qx6).bind fun qx7 => ((f_X3_clear (gadr b0 + 24) qx7).bind fun qx8 => ((f_X4_clear (gadr b0 + 26) qx8).bind fun qx9 => ((f_X3_clear (gadr b0 + 31) qx9).bind fun qx10 => ((f_X3_clear (gadr b0 + 33) qx10).bind fun qx11 => ((f_X3_clear (gadr b0 + 35) qx11).bind fun qx12 => some (sI (sI (sI qx12 (gadr b0) 12 (0 : Int32)) (gadr b0) 13 (0 : Int32)) (gadr b0) 14 (0 : Int32))))))))))))))
theorem g_X1_clear_0 (LS : Nat) (xs : Nat → Int32) (d : Nat) (hd : 2 ≤ d) (b0 : Bool)      (s : fS) : fo cvV t_X1_clear LS xs (mi_call mi_ms false LS xs d) (0, [some (.ref (gadr b0))], [], enc s) (f_X1_clear_0 b0 s) := by
  unfold f_X1_clear_0
  refine fo_st rfl rfl ?_
  refine fo_get rfl (eg_gr _ _) rfl ?_
  refine fo_callV (As := [.ref (gadr b0 + 1)]) (rest := []) rfl rfl rfl rfl (mi_rcv_of (eg_row _ (gk_1 _))) (c_X3_clear LS xs d (by omega) _ (gk_1 _) _) (fun qx1 => ?_)
  refine fo_st rfl rfl ?_
  refine fo_get rfl (eg_gr _ _) rfl ?_
  refine fo_callV (As := [.ref (gadr b0 + 3)]) (rest := []) rfl rfl rfl rfl (mi_rcv_of (eg_sp _ (gk_3 _))) (c_X4_clear LS xs d (by omega) _ (gk_3 _) _) (fun qx2 => ?_)
  refine fo_st rfl rfl ?_
  refine fo_get rfl (eg_gr _ _) rfl ?_
  refine fo_callV (As := [.ref (gadr b0 + 8)]) (rest := []) rfl rfl rfl rfl (mi_rcv_of (eg_sp _ (gk_8 _))) (c_X4_clear LS xs d (by omega) _ (gk_8 _) _) (fun qx3 => ?_)
  refine fo_st rfl rfl ?_
  refine fo_get rfl (eg_gr _ _) rfl ?_
  refine fo_callV (As := [.ref (gadr b0 + 13)]) (rest := []) rfl rfl rfl rfl (mi_rcv_of (eg_sp _ (gk_13 _))) (c_X4_clear LS xs d (by omega) _ (gk_13 _) _) (fun qx4 => ?_)
  refine fo_st rfl rfl ?_
  refine fo_get rfl (eg_gr _ _) rfl ?_
  refine fo_callV (As := [.ref (gadr b0 + 18)]) (rest := []) rfl rfl rfl rfl (mi_rcv_of (eg_row _ (gk_18 _))) (c_X3_clear LS xs d (by omega) _ (gk_18 _) _) (fun qx5 => ?_)
  refine fo_st rfl rfl ?_
  refine fo_get rfl (eg_gr _ _) rfl ?_
  refine fo_callV (As := [.ref (gadr b0 + 20)]) (rest := []) rfl rfl rfl rfl (mi_rcv_of (eg_row _ (gk_20 _))) (c_X3_clear LS xs d (by omega) _ (gk_20 _) _) (fun qx6 => ?_)
  refine fo_st rfl rfl ?_
  refine fo_get rfl (eg_gr _ _) rfl ?_
  refine fo_callV (As := [.ref (gadr b0 + 22)]) (rest := []) rfl rfl rfl rfl (mi_rcv_of (eg_row _ (gk_22 _))) (c_X3_clear LS xs d (by omega) _ (gk_22 _) _) (fun qx7 => ?_)
  refine fo_st rfl rfl ?_
  refine fo_get rfl (eg_gr _ _) rfl ?_
  refine fo_callV (As := [.ref (gadr b0 + 24)]) (rest := []) rfl rfl rfl rfl (mi_rcv_of (eg_row _ (gk_24 _))) (c_X3_clear LS xs d (by omega) _ (gk_24 _) _) (fun qx8 => ?_)
  refine fo_st rfl rfl ?_
  refine fo_get rfl (eg_gr _ _) rfl ?_
  refine fo_callV (As := [.ref (gadr b0 + 26)]) (rest := []) rfl rfl rfl rfl (mi_rcv_of (eg_sp _ (gk_26 _))) (c_X4_clear LS xs d (by omega) _ (gk_26 _) _) (fun qx9 => ?_)
  refine fo_st rfl rfl ?_
  refine fo_get rfl (eg_gr _ _) rfl ?_
  refine fo_callV (As := [.ref (gadr b0 + 31)]) (rest := []) rfl rfl rfl rfl (mi_rcv_of (eg_row _ (gk_31 _))) (c_X3_clear LS xs d (by omega) _ (gk_31 _) _) (fun qx10 => ?_)
  refine fo_st rfl rfl ?_
  refine fo_get rfl (eg_gr _ _) rfl ?_
  refine fo_callV (As := [.ref (gadr b0 + 33)]) (rest := []) rfl rfl rfl rfl (mi_rcv_of (eg_row _ (gk_33 _))) (c_X3_clear LS xs d (by omega) _ (gk_33 _) _) (fun qx11 => ?_)
  refine fo_st rfl rfl ?_
  refine fo_get rfl (eg_gr _ _) rfl ?_
  refine fo_callV (As := [.ref (gadr b0 + 35)]) (rest := []) rfl rfl rfl rfl (mi_rcv_of (eg_row _ (gk_35 _))) (c_X3_clear LS xs d (by omega) _ (gk_35 _) _) (fun qx12 => ?_)
  refine fo_st rfl rfl ?_
  refine fo_st rfl rfl ?_
  refine fo_put rfl (eg_gr _ _) rfl rfl (es_gr_12 _ _ _) ?_
  refine fo_st rfl rfl ?_
  refine fo_st rfl rfl ?_
  refine fo_put rfl (eg_gr _ _) rfl rfl (es_gr_13 _ _ _) ?_
  refine fo_st rfl rfl ?_
  refine fo_st rfl rfl ?_
  refine fo_put rfl (eg_gr _ _) rfl rfl (es_gr_14 _ _ _) ?_
  exact fo_ret rfl rfl rfl
def f_X1_clear (b0 : Bool) (s : fS) : Option fS := f_X1_clear_0 b0 s
theorem c_X1_clear (LS : Nat) (xs : Nat → Int32) (d : Nat) (hd : 3 ≤ d) (b0 : Bool)  (s : fS) : fm mi_ms cvV LS xs d 11 [.ref (gadr b0)] (enc s) (f_X1_clear b0 s) := by
  obtain ⟨e, rfl⟩ : ∃ e, d = e + 1 := ⟨d - 1, by omega⟩
  exact fm_of (M := m_X1_clear) rfl rfl (fun _ => ⟨_, rfl⟩) (g_X1_clear_0 LS xs e (by omega) b0 s)
def f_X1_arcCount_0 (b0 : Bool)   (s : fS) : Option (Int32 × fS) := some ((gI s (gadr b0 + 20) 1), s)
theorem g_X1_arcCount_0 (LS : Nat) (xs : Nat → Int32) (d : Nat) (hd : 0 ≤ d) (b0 : Bool)      (s : fS) : fo cvI t_X1_arcCount LS xs (mi_call mi_ms false LS xs d) (0, [some (.ref (gadr b0))], [], enc s) (f_X1_arcCount_0 b0 s) := by
  unfold f_X1_arcCount_0
  refine fo_st rfl rfl ?_
  refine fo_get rfl (eg_gr _ _) rfl ?_
  refine fo_get rfl (eg_row _ (gk_20 _)) rfl ?_
  exact fo_ret rfl rfl rfl
def f_X1_arcCount (b0 : Bool) (s : fS) : Option (Int32 × fS) := f_X1_arcCount_0 b0 s
theorem c_X1_arcCount (LS : Nat) (xs : Nat → Int32) (d : Nat) (hd : 1 ≤ d) (b0 : Bool)  (s : fS) : fm mi_ms cvI LS xs d 12 [.ref (gadr b0)] (enc s) (f_X1_arcCount b0 s) := by
  obtain ⟨e, rfl⟩ : ∃ e, d = e + 1 := ⟨d - 1, by omega⟩
  exact fm_of (M := m_X1_arcCount) rfl rfl (fun _ => ⟨_, rfl⟩) (g_X1_arcCount_0 LS xs e (by omega) b0 s)
theorem p_X1_arcCount_0 (b0 : Bool)    (s : fS) : pu s (f_X1_arcCount_0 b0 s) := by
  unfold f_X1_arcCount_0
  exact pu_some rfl
theorem p_X1_arcCount (b0 : Bool) (s : fS) : pu s (f_X1_arcCount b0 s) := p_X1_arcCount_0 b0 s
def f_X3_has_26 (a0 : Nat)  (l1 : Int32) (t0 : Int32) (s : fS) : Option (Int32 × fS) := fchk (fbl t0) (some (t0, s))
theorem g_X3_has_26 (LS : Nat) (xs : Nat → Int32) (d : Nat) (hd : 0 ≤ d) (a0 : Nat) (h0 : isRow a0 = true)   (l1 : Int32) (t0 : Int32)  (s : fS) : fo cvI t_X3_has LS xs (mi_call mi_ms false LS xs d) (26, [some (.ref a0), some (.int l1)], [.int t0], enc s) (f_X3_has_26 a0 l1 t0 s) := by
  unfold f_X3_has_26
  exact fo_ret2 rfl rfl
def f_X3_has_25 (a0 : Nat)  (l1 : Int32) (s : fS) : Option (Int32 × fS) := f_X3_has_26 a0 l1 (0 : Int32) s
theorem g_X3_has_25 (LS : Nat) (xs : Nat → Int32) (d : Nat) (hd : 0 ≤ d) (a0 : Nat) (h0 : isRow a0 = true)   (l1 : Int32)  (s : fS) : fo cvI t_X3_has LS xs (mi_call mi_ms false LS xs d) (25, [some (.ref a0), some (.int l1)], [], enc s) (f_X3_has_25 a0 l1 s) := by
  unfold f_X3_has_25
  refine fo_st rfl rfl ?_
  exact g_X3_has_26 LS xs d hd a0 h0 _ _ _
def f_X3_has_0 (a0 : Nat)  (l1 : Int32) (s : fS) : Option (Int32 × fS) := (bif decide (l1 < 0) then f_X3_has_25 a0 l1 s else (bif decide ((gI s a0 1) ≤ l1) then f_X3_has_25 a0 l1 s else (bif decide ((Int32.ofNat (gA s (a0 + 1)).length) ≤ l1) then f_X3_has_25 a0 l1 s else f_X3_has_26 a0 l1 (1 : Int32) s)))
theorem g_X3_has_0 (LS : Nat) (xs : Nat → Int32) (d : Nat) (hd : 0 ≤ d) (a0 : Nat) (h0 : isRow a0 = true)   (l1 : Int32)  (s : fS) : fo cvI t_X3_has LS xs (mi_call mi_ms false LS xs d) (0, [some (.ref a0), some (.int l1)], [], enc s) (f_X3_has_0 a0 l1 s) := by
  unfold f_X3_has_0
  refine fo_st rfl rfl ?_
  refine fo_b rfl rfl ?_ ?_
  · exact g_X3_has_25 LS xs d hd a0 h0 _ _
  · refine fo_st rfl rfl ?_
    refine fo_st rfl rfl ?_
    refine fo_get rfl (eg_row _ h0) rfl ?_
    refine fo_b rfl rfl ?_ ?_
    · exact g_X3_has_25 LS xs d hd a0 h0 _ _
    · refine fo_st rfl rfl ?_
      refine fo_st rfl rfl ?_
      refine fo_get rfl (eg_row _ h0) rfl ?_
      refine fo_alen rfl (eg_ar _ (row_ar h0)) ?_
      refine fo_b rfl rfl ?_ ?_
      · exact g_X3_has_25 LS xs d hd a0 h0 _ _
      · refine fo_st rfl rfl ?_
        refine fo_st rfl rfl ?_
        exact g_X3_has_26 LS xs d hd a0 h0 _ _ _
def f_X3_has (a0 : Nat) (l1 : Int32) (s : fS) : Option (Int32 × fS) := f_X3_has_0 a0 l1 s
theorem c_X3_has (LS : Nat) (xs : Nat → Int32) (d : Nat) (hd : 1 ≤ d) (a0 : Nat) (l1 : Int32) (h0 : isRow a0 = true) (s : fS) : fm mi_ms cvI LS xs d 51 [.ref a0, .int l1] (enc s) (f_X3_has a0 l1 s) := by
  obtain ⟨e, rfl⟩ : ∃ e, d = e + 1 := ⟨d - 1, by omega⟩
  exact fm_of (M := m_X3_has) rfl rfl (fun _ => ⟨_, rfl⟩) (g_X3_has_0 LS xs e (by omega) a0 h0 l1 s)
theorem p_X3_has_26 (a0 : Nat)   (l1 : Int32) (t0 : Int32) (s : fS) : pu s (f_X3_has_26 a0 l1 t0 s) := by
  unfold f_X3_has_26
  refine pu_ck ?_
  exact pu_some rfl
theorem p_X3_has_25 (a0 : Nat)   (l1 : Int32) (s : fS) : pu s (f_X3_has_25 a0 l1 s) := by
  unfold f_X3_has_25
  exact p_X3_has_26 a0 _ _ _
theorem p_X3_has_0 (a0 : Nat)   (l1 : Int32) (s : fS) : pu s (f_X3_has_0 a0 l1 s) := by
  unfold f_X3_has_0
  refine pu_b ?_ ?_
  · exact p_X3_has_25 a0 _ _
  · refine pu_b ?_ ?_
    · exact p_X3_has_25 a0 _ _
    · refine pu_b ?_ ?_
      · exact p_X3_has_25 a0 _ _
      · exact p_X3_has_26 a0 _ _ _
theorem p_X3_has (a0 : Nat) (l1 : Int32) (s : fS) : pu s (f_X3_has a0 l1 s) := p_X3_has_0 a0 l1 s
def f_X4_has_17 (a0 : Nat)  (l1 : Int32) (t0 : Int32) (s : fS) : Option (Int32 × fS) := fchk (fbl t0) (some (t0, s))
theorem g_X4_has_17 (LS : Nat) (xs : Nat → Int32) (d : Nat) (hd : 0 ≤ d) (a0 : Nat) (h0 : isSp a0 = true)   (l1 : Int32) (t0 : Int32)  (s : fS) : fo cvI t_X4_has LS xs (mi_call mi_ms false LS xs d) (17, [some (.ref a0), some (.int l1)], [.int t0], enc s) (f_X4_has_17 a0 l1 t0 s) := by
  unfold f_X4_has_17
  exact fo_ret2 rfl rfl
def f_X4_has_16 (a0 : Nat)  (l1 : Int32) (s : fS) : Option (Int32 × fS) := f_X4_has_17 a0 l1 (0 : Int32) s
theorem g_X4_has_16 (LS : Nat) (xs : Nat → Int32) (d : Nat) (hd : 0 ≤ d) (a0 : Nat) (h0 : isSp a0 = true)   (l1 : Int32)  (s : fS) : fo cvI t_X4_has LS xs (mi_call mi_ms false LS xs d) (16, [some (.ref a0), some (.int l1)], [], enc s) (f_X4_has_16 a0 l1 s) := by
  unfold f_X4_has_16
  refine fo_st rfl rfl ?_
  exact g_X4_has_17 LS xs d hd a0 h0 _ _ _
def f_X4_has_0 (a0 : Nat)  (l1 : Int32) (s : fS) : Option (Int32 × fS) := (bif decide (l1 < 0) then f_X4_has_16 a0 l1 s else (bif decide ((gI s a0 3) ≤ l1) then f_X4_has_16 a0 l1 s else f_X4_has_17 a0 l1 (1 : Int32) s))
theorem g_X4_has_0 (LS : Nat) (xs : Nat → Int32) (d : Nat) (hd : 0 ≤ d) (a0 : Nat) (h0 : isSp a0 = true)   (l1 : Int32)  (s : fS) : fo cvI t_X4_has LS xs (mi_call mi_ms false LS xs d) (0, [some (.ref a0), some (.int l1)], [], enc s) (f_X4_has_0 a0 l1 s) := by
  unfold f_X4_has_0
  refine fo_st rfl rfl ?_
  refine fo_b rfl rfl ?_ ?_
  · exact g_X4_has_16 LS xs d hd a0 h0 _ _
  · refine fo_st rfl rfl ?_
    refine fo_st rfl rfl ?_
    refine fo_get rfl (eg_sp _ h0) rfl ?_
    refine fo_b rfl rfl ?_ ?_
    · exact g_X4_has_16 LS xs d hd a0 h0 _ _
    · refine fo_st rfl rfl ?_
      refine fo_st rfl rfl ?_
      exact g_X4_has_17 LS xs d hd a0 h0 _ _ _
def f_X4_has (a0 : Nat) (l1 : Int32) (s : fS) : Option (Int32 × fS) := f_X4_has_0 a0 l1 s
theorem c_X4_has (LS : Nat) (xs : Nat → Int32) (d : Nat) (hd : 1 ≤ d) (a0 : Nat) (l1 : Int32) (h0 : isSp a0 = true) (s : fS) : fm mi_ms cvI LS xs d 57 [.ref a0, .int l1] (enc s) (f_X4_has a0 l1 s) := by
  obtain ⟨e, rfl⟩ : ∃ e, d = e + 1 := ⟨d - 1, by omega⟩
  exact fm_of (M := m_X4_has) rfl rfl (fun _ => ⟨_, rfl⟩) (g_X4_has_0 LS xs e (by omega) a0 h0 l1 s)
theorem p_X4_has_17 (a0 : Nat)   (l1 : Int32) (t0 : Int32) (s : fS) : pu s (f_X4_has_17 a0 l1 t0 s) := by
  unfold f_X4_has_17
  refine pu_ck ?_
  exact pu_some rfl
theorem p_X4_has_16 (a0 : Nat)   (l1 : Int32) (s : fS) : pu s (f_X4_has_16 a0 l1 s) := by
  unfold f_X4_has_16
  exact p_X4_has_17 a0 _ _ _
theorem p_X4_has_0 (a0 : Nat)   (l1 : Int32) (s : fS) : pu s (f_X4_has_0 a0 l1 s) := by
  unfold f_X4_has_0
  refine pu_b ?_ ?_
  · exact p_X4_has_16 a0 _ _
  · refine pu_b ?_ ?_
    · exact p_X4_has_16 a0 _ _
    · exact p_X4_has_17 a0 _ _ _
theorem p_X4_has (a0 : Nat) (l1 : Int32) (s : fS) : pu s (f_X4_has a0 l1 s) := p_X4_has_0 a0 l1 s
def f_X1_hasValue_27 (b0 : Bool)  (l1 : Int32) (l2 : Int32) (t0 : Int32) (s : fS) : Option (Int32 × fS) := fchk (fbl t0) (some (t0, s))
theorem g_X1_hasValue_27 (LS : Nat) (xs : Nat → Int32) (d : Nat) (hd : 1 ≤ d) (b0 : Bool)    (l1 : Int32) (l2 : Int32) (t0 : Int32)  (s : fS) : fo cvI t_X1_hasValue LS xs (mi_call mi_ms false LS xs d) (27, [some (.ref (gadr b0)), some (.int l1), some (.int l2)], [.int t0], enc s) (f_X1_hasValue_27 b0 l1 l2 t0 s) := by
  unfold f_X1_hasValue_27
  exact fo_ret2 rfl rfl
def f_X1_hasValue_26 (b0 : Bool)  (l1 : Int32) (l2 : Int32) (s : fS) : Option (Int32 × fS) := f_X1_hasValue_27 b0 l1 l2 (0 : Int32) s
theorem g_X1_hasValue_26 (LS : Nat) (xs : Nat → Int32) (d : Nat) (hd : 1 ≤ d) (b0 : Bool)    (l1 : Int32) (l2 : Int32)  (s : fS) : fo cvI t_X1_hasValue LS xs (mi_call mi_ms false LS xs d) (26, [some (.ref (gadr b0)), some (.int l1), some (.int l2)], [], enc s) (f_X1_hasValue_26 b0 l1 l2 s) := by
  unfold f_X1_hasValue_26
  refine fo_st rfl rfl ?_
  exact g_X1_hasValue_27 LS xs d hd b0 _ _ _ _
def f_X1_hasValue_0 (b0 : Bool)  (l1 : Int32) (l2 : Int32) (s : fS) : Option (Int32 × fS) := ((f_X3_has (gadr b0 + 20) l1 s).bind fun qx1 => (bif decide (qx1.1 = 0) then f_X1_hasValue_26 b0 l1 l2 qx1.2 else ((f_X4_has (gadr b0 + 8) l2 qx1.2).bind fun qx2 => (bif decide (qx2.1 = 0) then f_X1_hasValue_26 b0 l1 l2 qx2.2 else f_X1_hasValue_27 b0 l1 l2 (1 : Int32) qx2.2))))
theorem g_X1_hasValue_0 (LS : Nat) (xs : Nat → Int32) (d : Nat) (hd : 1 ≤ d) (b0 : Bool)    (l1 : Int32) (l2 : Int32)  (s : fS) : fo cvI t_X1_hasValue LS xs (mi_call mi_ms false LS xs d) (0, [some (.ref (gadr b0)), some (.int l1), some (.int l2)], [], enc s) (f_X1_hasValue_0 b0 l1 l2 s) := by
  unfold f_X1_hasValue_0
  refine fo_st rfl rfl ?_
  refine fo_get rfl (eg_gr _ _) rfl ?_
  refine fo_st rfl rfl ?_
  refine fo_callI (As := [.ref (gadr b0 + 20), .int l1]) (rest := []) rfl rfl rfl rfl (mi_rcv_of (eg_row _ (gk_20 _))) (c_X3_has LS xs d (by omega) _ _ (gk_20 _) _) (fun qx1 => ?_)
  refine fo_b rfl rfl ?_ ?_
  · exact g_X1_hasValue_26 LS xs d hd b0 _ _ _
  · refine fo_st rfl rfl ?_
    refine fo_get rfl (eg_gr _ _) rfl ?_
    refine fo_st rfl rfl ?_
    refine fo_callI (As := [.ref (gadr b0 + 8), .int l2]) (rest := []) rfl rfl rfl rfl (mi_rcv_of (eg_sp _ (gk_8 _))) (c_X4_has LS xs d (by omega) _ _ (gk_8 _) _) (fun qx2 => ?_)
    refine fo_b rfl rfl ?_ ?_
    · exact g_X1_hasValue_26 LS xs d hd b0 _ _ _
    · refine fo_st rfl rfl ?_
      refine fo_st rfl rfl ?_
      exact g_X1_hasValue_27 LS xs d hd b0 _ _ _ _
def f_X1_hasValue (b0 : Bool) (l1 : Int32) (l2 : Int32) (s : fS) : Option (Int32 × fS) := f_X1_hasValue_0 b0 l1 l2 s
theorem c_X1_hasValue (LS : Nat) (xs : Nat → Int32) (d : Nat) (hd : 2 ≤ d) (b0 : Bool) (l1 : Int32) (l2 : Int32)  (s : fS) : fm mi_ms cvI LS xs d 13 [.ref (gadr b0), .int l1, .int l2] (enc s) (f_X1_hasValue b0 l1 l2 s) := by
  obtain ⟨e, rfl⟩ : ∃ e, d = e + 1 := ⟨d - 1, by omega⟩
  exact fm_of (M := m_X1_hasValue) rfl rfl (fun _ => ⟨_, rfl⟩) (g_X1_hasValue_0 LS xs e (by omega) b0 l1 l2 s)
theorem p_X1_hasValue_27 (b0 : Bool)   (l1 : Int32) (l2 : Int32) (t0 : Int32) (s : fS) : pu s (f_X1_hasValue_27 b0 l1 l2 t0 s) := by
  unfold f_X1_hasValue_27
  refine pu_ck ?_
  exact pu_some rfl
theorem p_X1_hasValue_26 (b0 : Bool)   (l1 : Int32) (l2 : Int32) (s : fS) : pu s (f_X1_hasValue_26 b0 l1 l2 s) := by
  unfold f_X1_hasValue_26
  exact p_X1_hasValue_27 b0 _ _ _ _
theorem p_X1_hasValue_0 (b0 : Bool)   (l1 : Int32) (l2 : Int32) (s : fS) : pu s (f_X1_hasValue_0 b0 l1 l2 s) := by
  unfold f_X1_hasValue_0
  refine pu_bind (p_X3_has _ _ _) (fun v => ?_)
  refine pu_b ?_ ?_
  · exact p_X1_hasValue_26 b0 _ _ _
  · refine pu_bind (p_X4_has _ _ _) (fun v => ?_)
    refine pu_b ?_ ?_
    · exact p_X1_hasValue_26 b0 _ _ _
    · exact p_X1_hasValue_27 b0 _ _ _ _
theorem p_X1_hasValue (b0 : Bool) (l1 : Int32) (l2 : Int32) (s : fS) : pu s (f_X1_hasValue b0 l1 l2 s) := p_X1_hasValue_0 b0 l1 l2 s
def f_X1_roomOf_0 (b0 : Bool)  (l1 : Int32) (l2 : Int32) (s : fS) : Option (Int32 × fS) := some (((l1 * (gI s (gadr b0 + 8) 3)) + l2), s)
theorem g_X1_roomOf_0 (LS : Nat) (xs : Nat → Int32) (d : Nat) (hd : 0 ≤ d) (b0 : Bool)    (l1 : Int32) (l2 : Int32)  (s : fS) : fo cvI t_X1_roomOf LS xs (mi_call mi_ms false LS xs d) (0, [some (.ref (gadr b0)), some (.int l1), some (.int l2)], [], enc s) (f_X1_roomOf_0 b0 l1 l2 s) := by
  unfold f_X1_roomOf_0
  refine fo_st rfl rfl ?_
  refine fo_st rfl rfl ?_
  refine fo_get rfl (eg_gr _ _) rfl ?_
  refine fo_get rfl (eg_sp _ (gk_8 _)) rfl ?_
  refine fo_st rfl rfl ?_
  refine fo_st rfl rfl ?_
  refine fo_st rfl rfl ?_
  exact fo_ret rfl rfl rfl
def f_X1_roomOf (b0 : Bool) (l1 : Int32) (l2 : Int32) (s : fS) : Option (Int32 × fS) := f_X1_roomOf_0 b0 l1 l2 s
theorem c_X1_roomOf (LS : Nat) (xs : Nat → Int32) (d : Nat) (hd : 1 ≤ d) (b0 : Bool) (l1 : Int32) (l2 : Int32)  (s : fS) : fm mi_ms cvI LS xs d 14 [.ref (gadr b0), .int l1, .int l2] (enc s) (f_X1_roomOf b0 l1 l2 s) := by
  obtain ⟨e, rfl⟩ : ∃ e, d = e + 1 := ⟨d - 1, by omega⟩
  exact fm_of (M := m_X1_roomOf) rfl rfl (fun _ => ⟨_, rfl⟩) (g_X1_roomOf_0 LS xs e (by omega) b0 l1 l2 s)
theorem p_X1_roomOf_0 (b0 : Bool)   (l1 : Int32) (l2 : Int32) (s : fS) : pu s (f_X1_roomOf_0 b0 l1 l2 s) := by
  unfold f_X1_roomOf_0
  exact pu_some rfl
theorem p_X1_roomOf (b0 : Bool) (l1 : Int32) (l2 : Int32) (s : fS) : pu s (f_X1_roomOf b0 l1 l2 s) := p_X1_roomOf_0 b0 l1 l2 s
def f_X3_at_31 (a0 : Nat)  (l1 : Int32) (t0 : Int32) (s : fS) : Option (Int32 × fS) := some (t0, s)
theorem g_X3_at_31 (LS : Nat) (xs : Nat → Int32) (d : Nat) (hd : 0 ≤ d) (a0 : Nat) (h0 : isRow a0 = true)   (l1 : Int32) (t0 : Int32)  (s : fS) : fo cvI t_X3_at LS xs (mi_call mi_ms false LS xs d) (31, [some (.ref a0), some (.int l1)], [.int t0], enc s) (f_X3_at_31 a0 l1 t0 s) := by
  unfold f_X3_at_31
  exact fo_ret rfl rfl rfl
def f_X3_at_30 (a0 : Nat)  (l1 : Int32) (s : fS) : Option (Int32 × fS) := f_X3_at_31 a0 l1 (-1 : Int32) s
theorem g_X3_at_30 (LS : Nat) (xs : Nat → Int32) (d : Nat) (hd : 0 ≤ d) (a0 : Nat) (h0 : isRow a0 = true)   (l1 : Int32)  (s : fS) : fo cvI t_X3_at LS xs (mi_call mi_ms false LS xs d) (30, [some (.ref a0), some (.int l1)], [], enc s) (f_X3_at_30 a0 l1 s) := by
  unfold f_X3_at_30
  refine fo_st rfl rfl ?_
  exact g_X3_at_31 LS xs d hd a0 h0 _ _ _
def f_X3_at_0 (a0 : Nat)  (l1 : Int32) (s : fS) : Option (Int32 × fS) := (bif decide (l1 < 0) then f_X3_at_30 a0 l1 s else (bif decide ((gI s a0 1) ≤ l1) then f_X3_at_30 a0 l1 s else (bif decide ((Int32.ofNat (gA s (a0 + 1)).length) ≤ l1) then f_X3_at_30 a0 l1 s else fchk (mi_in l1 (gA s (a0 + 1)).length) (f_X3_at_31 a0 l1 ((gA s (a0 + 1)).getD l1.toNatClampNeg 0) s))))
theorem g_X3_at_0 (LS : Nat) (xs : Nat → Int32) (d : Nat) (hd : 0 ≤ d) (a0 : Nat) (h0 : isRow a0 = true)   (l1 : Int32)  (s : fS) : fo cvI t_X3_at LS xs (mi_call mi_ms false LS xs d) (0, [some (.ref a0), some (.int l1)], [], enc s) (f_X3_at_0 a0 l1 s) := by
  unfold f_X3_at_0
  refine fo_st rfl rfl ?_
  refine fo_b rfl rfl ?_ ?_
  · exact g_X3_at_30 LS xs d hd a0 h0 _ _
  · refine fo_st rfl rfl ?_
    refine fo_st rfl rfl ?_
    refine fo_get rfl (eg_row _ h0) rfl ?_
    refine fo_b rfl rfl ?_ ?_
    · exact g_X3_at_30 LS xs d hd a0 h0 _ _
    · refine fo_st rfl rfl ?_
      refine fo_st rfl rfl ?_
      refine fo_get rfl (eg_row _ h0) rfl ?_
      refine fo_alen rfl (eg_ar _ (row_ar h0)) ?_
      refine fo_b rfl rfl ?_ ?_
      · exact g_X3_at_30 LS xs d hd a0 h0 _ _
      · refine fo_st rfl rfl ?_
        refine fo_get rfl (eg_row _ h0) rfl ?_
        refine fo_st rfl rfl ?_
        refine fo_iald rfl (eg_ar _ (row_ar h0)) ?_
        refine fo_st rfl rfl ?_
        exact g_X3_at_31 LS xs d hd a0 h0 _ _ _
def f_X3_at (a0 : Nat) (l1 : Int32) (s : fS) : Option (Int32 × fS) := f_X3_at_0 a0 l1 s
theorem c_X3_at (LS : Nat) (xs : Nat → Int32) (d : Nat) (hd : 1 ≤ d) (a0 : Nat) (l1 : Int32) (h0 : isRow a0 = true) (s : fS) : fm mi_ms cvI LS xs d 52 [.ref a0, .int l1] (enc s) (f_X3_at a0 l1 s) := by
  obtain ⟨e, rfl⟩ : ∃ e, d = e + 1 := ⟨d - 1, by omega⟩
  exact fm_of (M := m_X3_at) rfl rfl (fun _ => ⟨_, rfl⟩) (g_X3_at_0 LS xs e (by omega) a0 h0 l1 s)
theorem p_X3_at_31 (a0 : Nat)   (l1 : Int32) (t0 : Int32) (s : fS) : pu s (f_X3_at_31 a0 l1 t0 s) := by
  unfold f_X3_at_31
  exact pu_some rfl
theorem p_X3_at_30 (a0 : Nat)   (l1 : Int32) (s : fS) : pu s (f_X3_at_30 a0 l1 s) := by
  unfold f_X3_at_30
  exact p_X3_at_31 a0 _ _ _
theorem p_X3_at_0 (a0 : Nat)   (l1 : Int32) (s : fS) : pu s (f_X3_at_0 a0 l1 s) := by
  unfold f_X3_at_0
  refine pu_b ?_ ?_
  · exact p_X3_at_30 a0 _ _
  · refine pu_b ?_ ?_
    · exact p_X3_at_30 a0 _ _
    · refine pu_b ?_ ?_
      · exact p_X3_at_30 a0 _ _
      · refine pu_ck ?_
        exact p_X3_at_31 a0 _ _ _
theorem p_X3_at (a0 : Nat) (l1 : Int32) (s : fS) : pu s (f_X3_at a0 l1 s) := p_X3_at_0 a0 l1 s
def f_X1_missingOf_34 (b0 : Bool) (r4 : Int32 → Int32 → Int32 → fS → Option (Int32 × fS)) (l1 : Int32) (l2 : Int32) (l3 : Int32) (s : fS) : Option (Int32 × fS) := r4 l1 l2 (l3 + Int32.ofInt (1)) s
theorem g_X1_missingOf_34 (LS : Nat) (xs : Nat → Int32) (d : Nat) (hd : 1 ≤ d) (b0 : Bool)  (r4 : Int32 → Int32 → Int32 → fS → Option (Int32 × fS)) (q4 : ∀ (l1 : Int32) (l2 : Int32) (l3 : Int32) (s : fS), fo cvI t_X1_missingOf LS xs (mi_call mi_ms false LS xs d) (4, [some (.ref (gadr b0)), some (.int l1), some (.int l2), some (.int l3)], [], enc s) (r4 l1 l2 l3 s)) (l1 : Int32) (l2 : Int32) (l3 : Int32)  (s : fS) : fo cvI t_X1_missingOf LS xs (mi_call mi_ms false LS xs d) (34, [some (.ref (gadr b0)), some (.int l1), some (.int l2), some (.int l3)], [], enc s) (f_X1_missingOf_34 b0 r4 l1 l2 l3 s) := by
  unfold f_X1_missingOf_34
  refine fo_st rfl rfl ?_
  refine fo_st rfl rfl ?_
  exact q4 _ _ _ _
def f_X1_missingOf_4 (b0 : Bool)  : Nat → Int32 → Int32 → Int32 → fS → Option (Int32 × fS)
  | 0, _, _, _, _ => none
  | n + 1, l1, l2, l3, s => (bif decide ((gI s (gadr b0 + 8) 3) ≤ l3) then some (l2, s) else ((f_X1_roomOf b0 l1 l3 s).bind fun qx1 => ((f_X3_at (gadr b0 + 31) qx1.1 qx1.2).bind fun qx2 => (bif decide (¬ qx2.1 = 0) then f_X1_missingOf_34 b0 (fun l1' l2' l3' s' => f_X1_missingOf_4 b0 n l1' l2' l3' s') l1 l2 l3 qx2.2 else f_X1_missingOf_34 b0 (fun l1' l2' l3' s' => f_X1_missingOf_4 b0 n l1' l2' l3' s') l1 (l2 + Int32.ofInt (1)) l3 qx2.2))))
theorem g_X1_missingOf_4 (LS : Nat) (xs : Nat → Int32) (d : Nat) (hd : 1 ≤ d) (b0 : Bool)    (n : Nat) : ∀ (l1 : Int32) (l2 : Int32) (l3 : Int32) (s : fS), fo cvI t_X1_missingOf LS xs (mi_call mi_ms false LS xs d) (4, [some (.ref (gadr b0)), some (.int l1), some (.int l2), some (.int l3)], [], enc s) (f_X1_missingOf_4 b0 n l1 l2 l3 s) := by
  induction n with
  | zero => intro l1 l2 l3 s; exact fo_none
  | succ n ih =>
    intro l1 l2 l3 s
    rw [f_X1_missingOf_4]
    refine fo_st rfl rfl ?_
    refine fo_st rfl rfl ?_
    refine fo_get rfl (eg_gr _ _) rfl ?_
    refine fo_get rfl (eg_sp _ (gk_8 _)) rfl ?_
    refine fo_b rfl rfl ?_ ?_
    · refine fo_st rfl rfl ?_
      exact fo_ret rfl rfl rfl
    · refine fo_st rfl rfl ?_
      refine fo_get rfl (eg_gr _ _) rfl ?_
      refine fo_st rfl rfl ?_
      refine fo_st rfl rfl ?_
      refine fo_st rfl rfl ?_
      refine fo_callI (As := [.ref (gadr b0), .int l1, .int l3]) (rest := [.ref (gadr b0 + 31)]) rfl rfl rfl rfl (mi_rcv_of (eg_gr _ _)) (c_X1_roomOf LS xs d (by omega) _ _ _ _) (fun qx1 => ?_)
      refine fo_callI (As := [.ref (gadr b0 + 31), .int qx1.1]) (rest := []) rfl rfl rfl rfl (mi_rcv_of (eg_row _ (gk_31 _))) (c_X3_at LS xs d (by omega) _ _ (gk_31 _) _) (fun qx2 => ?_)
      refine fo_b rfl rfl ?_ ?_
      · exact g_X1_missingOf_34 LS xs d hd b0 _ ih _ _ _ _
      · refine fo_st rfl rfl ?_
        exact g_X1_missingOf_34 LS xs d hd b0 _ ih _ _ _ _
def f_X1_missingOf_0 (b0 : Bool)  (l1 : Int32) (s : fS) : Option (Int32 × fS) := f_X1_missingOf_4 b0 fuel l1 (0 : Int32) (0 : Int32) s
theorem g_X1_missingOf_0 (LS : Nat) (xs : Nat → Int32) (d : Nat) (hd : 1 ≤ d) (b0 : Bool)    (l1 : Int32)  (s : fS) : fo cvI t_X1_missingOf LS xs (mi_call mi_ms false LS xs d) (0, [some (.ref (gadr b0)), some (.int l1), none, none], [], enc s) (f_X1_missingOf_0 b0 l1 s) := by
  unfold f_X1_missingOf_0
  refine fo_st rfl rfl ?_
  refine fo_st rfl rfl ?_
  refine fo_st rfl rfl ?_
  refine fo_st rfl rfl ?_
  exact g_X1_missingOf_4 LS xs d hd b0 fuel _ _ _ _
def f_X1_missingOf (b0 : Bool) (l1 : Int32) (s : fS) : Option (Int32 × fS) := f_X1_missingOf_0 b0 l1 s
theorem c_X1_missingOf (LS : Nat) (xs : Nat → Int32) (d : Nat) (hd : 2 ≤ d) (b0 : Bool) (l1 : Int32)  (s : fS) : fm mi_ms cvI LS xs d 15 [.ref (gadr b0), .int l1] (enc s) (f_X1_missingOf b0 l1 s) := by
  obtain ⟨e, rfl⟩ : ∃ e, d = e + 1 := ⟨d - 1, by omega⟩
  exact fm_of (M := m_X1_missingOf) rfl rfl (fun _ => ⟨_, rfl⟩) (g_X1_missingOf_0 LS xs e (by omega) b0 l1 s)
theorem p_X1_missingOf_34 (b0 : Bool) (r4 : Int32 → Int32 → Int32 → fS → Option (Int32 × fS)) (q4 : ∀ (l1 : Int32) (l2 : Int32) (l3 : Int32) (s : fS), pu s (r4 l1 l2 l3 s)) (l1 : Int32) (l2 : Int32) (l3 : Int32) (s : fS) : pu s (f_X1_missingOf_34 b0 r4 l1 l2 l3 s) := by
  unfold f_X1_missingOf_34
  exact q4 _ _ _ _
theorem p_X1_missingOf_4 (b0 : Bool)   (n : Nat) : ∀ (l1 : Int32) (l2 : Int32) (l3 : Int32) (s : fS), pu s (f_X1_missingOf_4 b0 n l1 l2 l3 s) := by
  induction n with
  | zero => intro l1 l2 l3 s; exact pu_none
  | succ n ih =>
    intro l1 l2 l3 s
    rw [f_X1_missingOf_4]
    refine pu_b ?_ ?_
    · exact pu_some rfl
    · refine pu_bind (p_X1_roomOf _ _ _ _) (fun v => ?_)
      refine pu_bind (p_X3_at _ _ _) (fun v => ?_)
      refine pu_b ?_ ?_
      · exact p_X1_missingOf_34 b0 _ ih _ _ _ _
      · exact p_X1_missingOf_34 b0 _ ih _ _ _ _
theorem p_X1_missingOf_0 (b0 : Bool)   (l1 : Int32) (s : fS) : pu s (f_X1_missingOf_0 b0 l1 s) := by
  unfold f_X1_missingOf_0
  exact p_X1_missingOf_4 b0 fuel _ _ _ _
theorem p_X1_missingOf (b0 : Bool) (l1 : Int32) (s : fS) : pu s (f_X1_missingOf b0 l1 s) := p_X1_missingOf_0 b0 l1 s
def f_X1_hasArc_39 (b0 : Bool) (r2 : Int32 → Int32 → Int32 → fS → Option (Int32 × fS)) (l1 : Int32) (l2 : Int32) (l3 : Int32) (s : fS) : Option (Int32 × fS) := r2 l1 l2 (l3 + Int32.ofInt (1)) s
theorem g_X1_hasArc_39 (LS : Nat) (xs : Nat → Int32) (d : Nat) (hd : 1 ≤ d) (b0 : Bool)  (r2 : Int32 → Int32 → Int32 → fS → Option (Int32 × fS)) (q2 : ∀ (l1 : Int32) (l2 : Int32) (l3 : Int32) (s : fS), fo cvI t_X1_hasArc LS xs (mi_call mi_ms false LS xs d) (2, [some (.ref (gadr b0)), some (.int l1), some (.int l2), some (.int l3)], [], enc s) (r2 l1 l2 l3 s)) (l1 : Int32) (l2 : Int32) (l3 : Int32)  (s : fS) : fo cvI t_X1_hasArc LS xs (mi_call mi_ms false LS xs d) (39, [some (.ref (gadr b0)), some (.int l1), some (.int l2), some (.int l3)], [], enc s) (f_X1_hasArc_39 b0 r2 l1 l2 l3 s) := by
  unfold f_X1_hasArc_39
  refine fo_st rfl rfl ?_
  refine fo_st rfl rfl ?_
  exact q2 _ _ _ _
def f_X1_hasArc_2 (b0 : Bool)  : Nat → Int32 → Int32 → Int32 → fS → Option (Int32 × fS)
  | 0, _, _, _, _ => none
  | n + 1, l1, l2, l3, s => (bif decide ((gI s (gadr b0 + 20) 1) ≤ l3) then some ((0 : Int32), s) else ((f_X3_at (gadr b0 + 20) l3 s).bind fun qx1 => (bif decide (¬ qx1.1 = l1) then f_X1_hasArc_39 b0 (fun l1' l2' l3' s' => f_X1_hasArc_2 b0 n l1' l2' l3' s') l1 l2 l3 qx1.2 else ((f_X3_at (gadr b0 + 22) l3 qx1.2).bind fun qx2 => (bif decide (¬ qx2.1 = l2) then f_X1_hasArc_39 b0 (fun l1' l2' l3' s' => f_X1_hasArc_2 b0 n l1' l2' l3' s') l1 l2 l3 qx2.2 else some ((1 : Int32), qx2.2))))))
theorem g_X1_hasArc_2 (LS : Nat) (xs : Nat → Int32) (d : Nat) (hd : 1 ≤ d) (b0 : Bool)    (n : Nat) : ∀ (l1 : Int32) (l2 : Int32) (l3 : Int32) (s : fS), fo cvI t_X1_hasArc LS xs (mi_call mi_ms false LS xs d) (2, [some (.ref (gadr b0)), some (.int l1), some (.int l2), some (.int l3)], [], enc s) (f_X1_hasArc_2 b0 n l1 l2 l3 s) := by
  induction n with
  | zero => intro l1 l2 l3 s; exact fo_none
  | succ n ih =>
    intro l1 l2 l3 s
    rw [f_X1_hasArc_2]
    refine fo_st rfl rfl ?_
    refine fo_st rfl rfl ?_
    refine fo_get rfl (eg_gr _ _) rfl ?_
    refine fo_get rfl (eg_row _ (gk_20 _)) rfl ?_
    refine fo_b rfl rfl ?_ ?_
    · refine fo_st rfl rfl ?_
      exact fo_ret rfl rfl rfl
    · refine fo_st rfl rfl ?_
      refine fo_get rfl (eg_gr _ _) rfl ?_
      refine fo_st rfl rfl ?_
      refine fo_callI (As := [.ref (gadr b0 + 20), .int l3]) (rest := []) rfl rfl rfl rfl (mi_rcv_of (eg_row _ (gk_20 _))) (c_X3_at LS xs d (by omega) _ _ (gk_20 _) _) (fun qx1 => ?_)
      refine fo_st rfl rfl ?_
      refine fo_b rfl rfl ?_ ?_
      · exact g_X1_hasArc_39 LS xs d hd b0 _ ih _ _ _ _
      · refine fo_st rfl rfl ?_
        refine fo_get rfl (eg_gr _ _) rfl ?_
        refine fo_st rfl rfl ?_
        refine fo_callI (As := [.ref (gadr b0 + 22), .int l3]) (rest := []) rfl rfl rfl rfl (mi_rcv_of (eg_row _ (gk_22 _))) (c_X3_at LS xs d (by omega) _ _ (gk_22 _) _) (fun qx2 => ?_)
        refine fo_st rfl rfl ?_
        refine fo_b rfl rfl ?_ ?_
        · exact g_X1_hasArc_39 LS xs d hd b0 _ ih _ _ _ _
        · refine fo_st rfl rfl ?_
          exact fo_ret rfl rfl rfl
def f_X1_hasArc_0 (b0 : Bool)  (l1 : Int32) (l2 : Int32) (s : fS) : Option (Int32 × fS) := f_X1_hasArc_2 b0 fuel l1 l2 (0 : Int32) s
theorem g_X1_hasArc_0 (LS : Nat) (xs : Nat → Int32) (d : Nat) (hd : 1 ≤ d) (b0 : Bool)    (l1 : Int32) (l2 : Int32)  (s : fS) : fo cvI t_X1_hasArc LS xs (mi_call mi_ms false LS xs d) (0, [some (.ref (gadr b0)), some (.int l1), some (.int l2), none], [], enc s) (f_X1_hasArc_0 b0 l1 l2 s) := by
  unfold f_X1_hasArc_0
  refine fo_st rfl rfl ?_
  refine fo_st rfl rfl ?_
  exact g_X1_hasArc_2 LS xs d hd b0 fuel _ _ _ _
def f_X1_hasArc (b0 : Bool) (l1 : Int32) (l2 : Int32) (s : fS) : Option (Int32 × fS) := f_X1_hasArc_0 b0 l1 l2 s
theorem c_X1_hasArc (LS : Nat) (xs : Nat → Int32) (d : Nat) (hd : 2 ≤ d) (b0 : Bool) (l1 : Int32) (l2 : Int32)  (s : fS) : fm mi_ms cvI LS xs d 16 [.ref (gadr b0), .int l1, .int l2] (enc s) (f_X1_hasArc b0 l1 l2 s) := by
  obtain ⟨e, rfl⟩ : ∃ e, d = e + 1 := ⟨d - 1, by omega⟩
  exact fm_of (M := m_X1_hasArc) rfl rfl (fun _ => ⟨_, rfl⟩) (g_X1_hasArc_0 LS xs e (by omega) b0 l1 l2 s)
theorem p_X1_hasArc_39 (b0 : Bool) (r2 : Int32 → Int32 → Int32 → fS → Option (Int32 × fS)) (q2 : ∀ (l1 : Int32) (l2 : Int32) (l3 : Int32) (s : fS), pu s (r2 l1 l2 l3 s)) (l1 : Int32) (l2 : Int32) (l3 : Int32) (s : fS) : pu s (f_X1_hasArc_39 b0 r2 l1 l2 l3 s) := by
  unfold f_X1_hasArc_39
  exact q2 _ _ _ _
theorem p_X1_hasArc_2 (b0 : Bool)   (n : Nat) : ∀ (l1 : Int32) (l2 : Int32) (l3 : Int32) (s : fS), pu s (f_X1_hasArc_2 b0 n l1 l2 l3 s) := by
  induction n with
  | zero => intro l1 l2 l3 s; exact pu_none
  | succ n ih =>
    intro l1 l2 l3 s
    rw [f_X1_hasArc_2]
    refine pu_b ?_ ?_
    · exact pu_some rfl
    · refine pu_bind (p_X3_at _ _ _) (fun v => ?_)
      refine pu_b ?_ ?_
      · exact p_X1_hasArc_39 b0 _ ih _ _ _ _
      · refine pu_bind (p_X3_at _ _ _) (fun v => ?_)
        refine pu_b ?_ ?_
        · exact p_X1_hasArc_39 b0 _ ih _ _ _ _
        · exact pu_some rfl
theorem p_X1_hasArc_0 (b0 : Bool)   (l1 : Int32) (l2 : Int32) (s : fS) : pu s (f_X1_hasArc_0 b0 l1 l2 s) := by
  unfold f_X1_hasArc_0
  exact p_X1_hasArc_2 b0 fuel _ _ _ _
theorem p_X1_hasArc (b0 : Bool) (l1 : Int32) (l2 : Int32) (s : fS) : pu s (f_X1_hasArc b0 l1 l2 s) := p_X1_hasArc_0 b0 l1 l2 s
def f_X3_add_39 (a0 : Nat)  (l1 : Int32) (s : fS) : Option fS := some s
theorem g_X3_add_39 (LS : Nat) (xs : Nat → Int32) (d : Nat) (hd : 0 ≤ d) (a0 : Nat) (h0 : isRow a0 = true)   (l1 : Int32)  (s : fS) : fo cvV t_X3_add LS xs (mi_call mi_ms false LS xs d) (39, [some (.ref a0), some (.int l1)], [], enc s) (f_X3_add_39 a0 l1 s) := by
  unfold f_X3_add_39
  exact fo_ret rfl rfl rfl
def f_X3_add_0 (a0 : Nat)  (l1 : Int32) (s : fS) : Option fS := (bif decide ((gI s a0 1) < 0) then f_X3_add_39 a0 l1 s else (bif decide ((Int32.ofNat (gA s (a0 + 1)).length) ≤ (gI s a0 1)) then f_X3_add_39 a0 l1 s else fchk (mi_in (gI s a0 1) (gA s (a0 + 1)).length) (f_X3_add_39 a0 l1 (sI (sA s (a0 + 1) ((gA s (a0 + 1)).set (gI s a0 1).toNatClampNeg l1)) a0 1 ((gI s a0 1) + (1 : Int32))))))
theorem g_X3_add_0 (LS : Nat) (xs : Nat → Int32) (d : Nat) (hd : 0 ≤ d) (a0 : Nat) (h0 : isRow a0 = true)   (l1 : Int32)  (s : fS) : fo cvV t_X3_add LS xs (mi_call mi_ms false LS xs d) (0, [some (.ref a0), some (.int l1)], [], enc s) (f_X3_add_0 a0 l1 s) := by
  unfold f_X3_add_0
  refine fo_st rfl rfl ?_
  refine fo_get rfl (eg_row _ h0) rfl ?_
  refine fo_b rfl rfl ?_ ?_
  · exact g_X3_add_39 LS xs d hd a0 h0 _ _
  · refine fo_st rfl rfl ?_
    refine fo_get rfl (eg_row _ h0) rfl ?_
    refine fo_st rfl rfl ?_
    refine fo_get rfl (eg_row _ h0) rfl ?_
    refine fo_alen rfl (eg_ar _ (row_ar h0)) ?_
    refine fo_b rfl rfl ?_ ?_
    · exact g_X3_add_39 LS xs d hd a0 h0 _ _
    · refine fo_st rfl rfl ?_
      refine fo_get rfl (eg_row _ h0) rfl ?_
      refine fo_st rfl rfl ?_
      refine fo_get rfl (eg_row _ h0) rfl ?_
      refine fo_st rfl rfl ?_
      refine fo_iast rfl (eg_ar _ (row_ar h0)) (es_ar _ (row_ar h0) _) ?_
      refine fo_st rfl rfl ?_
      refine fo_st rfl rfl ?_
      refine fo_get rfl (eg_row _ h0) rfl ?_
      refine fo_st rfl rfl ?_
      refine fo_st rfl rfl ?_
      refine fo_put rfl (eg_row _ h0) rfl rfl (es_row _ h0 _) ?_
      exact g_X3_add_39 LS xs d hd a0 h0 _ _
def f_X3_add (a0 : Nat) (l1 : Int32) (s : fS) : Option fS := f_X3_add_0 a0 l1 s
theorem c_X3_add (LS : Nat) (xs : Nat → Int32) (d : Nat) (hd : 1 ≤ d) (a0 : Nat) (l1 : Int32) (h0 : isRow a0 = true) (s : fS) : fm mi_ms cvV LS xs d 49 [.ref a0, .int l1] (enc s) (f_X3_add a0 l1 s) := by
  obtain ⟨e, rfl⟩ : ∃ e, d = e + 1 := ⟨d - 1, by omega⟩
  exact fm_of (M := m_X3_add) rfl rfl (fun _ => ⟨_, rfl⟩) (g_X3_add_0 LS xs e (by omega) a0 h0 l1 s)
def f_X1_addArc_0 (b0 : Bool)  (l1 : Int32) (l2 : Int32) (l3 : Int32) (s : fS) : Option fS := ((f_X3_add (gadr b0 + 20) l1 s).bind fun qx1 => ((f_X3_add (gadr b0 + 22) l2 qx1).bind fun qx2 => ((f_X3_add (gadr b0 + 24) l3 qx2).bind fun qx3 => ((f_X3_add (gadr b0 + 35) (3 : Int32) qx3).bind fun qx4 => some qx4))))
theorem g_X1_addArc_0 (LS : Nat) (xs : Nat → Int32) (d : Nat) (hd : 1 ≤ d) (b0 : Bool)    (l1 : Int32) (l2 : Int32) (l3 : Int32)  (s : fS) : fo cvV t_X1_addArc LS xs (mi_call mi_ms false LS xs d) (0, [some (.ref (gadr b0)), some (.int l1), some (.int l2), some (.int l3)], [], enc s) (f_X1_addArc_0 b0 l1 l2 l3 s) := by
  unfold f_X1_addArc_0
  refine fo_st rfl rfl ?_
  refine fo_get rfl (eg_gr _ _) rfl ?_
  refine fo_st rfl rfl ?_
  refine fo_callV (As := [.ref (gadr b0 + 20), .int l1]) (rest := []) rfl rfl rfl rfl (mi_rcv_of (eg_row _ (gk_20 _))) (c_X3_add LS xs d (by omega) _ _ (gk_20 _) _) (fun qx1 => ?_)
  refine fo_st rfl rfl ?_
  refine fo_get rfl (eg_gr _ _) rfl ?_
  refine fo_st rfl rfl ?_
  refine fo_callV (As := [.ref (gadr b0 + 22), .int l2]) (rest := []) rfl rfl rfl rfl (mi_rcv_of (eg_row _ (gk_22 _))) (c_X3_add LS xs d (by omega) _ _ (gk_22 _) _) (fun qx2 => ?_)
  refine fo_st rfl rfl ?_
  refine fo_get rfl (eg_gr _ _) rfl ?_
  refine fo_st rfl rfl ?_
  refine fo_callV (As := [.ref (gadr b0 + 24), .int l3]) (rest := []) rfl rfl rfl rfl (mi_rcv_of (eg_row _ (gk_24 _))) (c_X3_add LS xs d (by omega) _ _ (gk_24 _) _) (fun qx3 => ?_)
  refine fo_st rfl rfl ?_
  refine fo_get rfl (eg_gr _ _) rfl ?_
  refine fo_st rfl rfl ?_
  refine fo_callV (As := [.ref (gadr b0 + 35), .int (3 : Int32)]) (rest := []) rfl rfl rfl rfl (mi_rcv_of (eg_row _ (gk_35 _))) (c_X3_add LS xs d (by omega) _ _ (gk_35 _) _) (fun qx4 => ?_)
  exact fo_ret rfl rfl rfl
def f_X1_addArc (b0 : Bool) (l1 : Int32) (l2 : Int32) (l3 : Int32) (s : fS) : Option fS := f_X1_addArc_0 b0 l1 l2 l3 s
theorem c_X1_addArc (LS : Nat) (xs : Nat → Int32) (d : Nat) (hd : 2 ≤ d) (b0 : Bool) (l1 : Int32) (l2 : Int32) (l3 : Int32)  (s : fS) : fm mi_ms cvV LS xs d 17 [.ref (gadr b0), .int l1, .int l2, .int l3] (enc s) (f_X1_addArc b0 l1 l2 l3 s) := by
  obtain ⟨e, rfl⟩ : ∃ e, d = e + 1 := ⟨d - 1, by omega⟩
  exact fm_of (M := m_X1_addArc) rfl rfl (fun _ => ⟨_, rfl⟩) (g_X1_addArc_0 LS xs e (by omega) b0 l1 l2 l3 s)
end FM0
