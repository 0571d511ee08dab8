section FM3
def f_X2_readFigures_199   (l1 : Int32) (l2 : Int32) (l3 : Int32) (l4 : Int32) (l5 : Int32) (s : fS) : Option (Int32 × fS) := some ((1 : Int32), (sI s 80 10 (1 : Int32)))
theorem g_X2_readFigures_199 (LS : Nat) (xs : Nat → Int32) (d : Nat) (hd : 2 ≤ d)     (l1 : Int32) (l2 : Int32) (l3 : Int32) (l4 : Int32) (l5 : Int32)  (s : fS) : fo cvI t_X2_readFigures LS xs (mi_call mi_ms false LS xs d) (199, [some (.ref 80), some (.int l1), some (.int l2), some (.int l3), some (.int l4), some (.int l5)], [], enc s) (f_X2_readFigures_199 l1 l2 l3 l4 l5 s) := by
  unfold f_X2_readFigures_199
  refine fo_st rfl rfl ?_
  refine fo_st rfl rfl ?_
  refine fo_put rfl (eg_2 _) rfl rfl (es_2_10 _ _) ?_
  refine fo_st rfl rfl ?_
  exact fo_ret rfl rfl rfl
def f_X2_readFigures_180   (l1 : Int32) (l2 : Int32) (l3 : Int32) (l4 : Int32) (l5 : Int32) (s : fS) : Option (Int32 × fS) := (bif decide (l4 = 0) then f_X2_readFigures_199 l1 l2 l3 l4 l5 s else (bif decide (l2 = 0) then f_X2_readFigures_199 l1 l2 l3 l4 l5 s else ((f_X0_wrong (1 : Int32) l3 s).bind fun qx1 => fchk (fbl qx1.1) (some (qx1.1, qx1.2)))))
theorem g_X2_readFigures_180 (LS : Nat) (xs : Nat → Int32) (d : Nat) (hd : 2 ≤ d)     (l1 : Int32) (l2 : Int32) (l3 : Int32) (l4 : Int32) (l5 : Int32)  (s : fS) : fo cvI t_X2_readFigures LS xs (mi_call mi_ms false LS xs d) (180, [some (.ref 80), some (.int l1), some (.int l2), some (.int l3), some (.int l4), some (.int l5)], [], enc s) (f_X2_readFigures_180 l1 l2 l3 l4 l5 s) := by
  unfold f_X2_readFigures_180
  refine fo_st rfl rfl ?_
  refine fo_b rfl rfl ?_ ?_
  · exact g_X2_readFigures_199 LS xs d hd _ _ _ _ _ _
  · refine fo_st rfl rfl ?_
    refine fo_b rfl rfl ?_ ?_
    · exact g_X2_readFigures_199 LS xs d hd _ _ _ _ _ _
    · refine fo_st rfl rfl ?_
      refine fo_get rfl (eg_2 _) rfl ?_
      refine fo_st rfl rfl ?_
      refine fo_st rfl rfl ?_
      refine fo_callI (As := [.ref 81, .int (1 : Int32), .int l3]) (rest := []) rfl rfl rfl rfl (mi_rcv_of (eg_0 _)) (c_X0_wrong LS xs d (by omega) _ _ _) (fun qx1 => ?_)
      exact fo_ret2 rfl rfl
def f_X2_readFigures_158   (l1 : Int32) (l2 : Int32) (l3 : Int32) (l4 : Int32) (l5 : Int32) (s : fS) : Option (Int32 × fS) := (bif decide (¬ (gI s 81 2) = (46 : Int32)) then f_X2_readFigures_180 l1 l2 l3 l4 l5 s else (bif decide (l1 = 0) then f_X2_readFigures_180 l1 l2 l3 l4 l5 s else ((f_X2_readFraction l3 s).bind fun qx1 => fchk (fbl qx1.1) (some (qx1.1, qx1.2)))))
theorem g_X2_readFigures_158 (LS : Nat) (xs : Nat → Int32) (d : Nat) (hd : 2 ≤ d)     (l1 : Int32) (l2 : Int32) (l3 : Int32) (l4 : Int32) (l5 : Int32)  (s : fS) : fo cvI t_X2_readFigures LS xs (mi_call mi_ms false LS xs d) (158, [some (.ref 80), some (.int l1), some (.int l2), some (.int l3), some (.int l4), some (.int l5)], [], enc s) (f_X2_readFigures_158 l1 l2 l3 l4 l5 s) := by
  unfold f_X2_readFigures_158
  refine fo_st rfl rfl ?_
  refine fo_get rfl (eg_2 _) rfl ?_
  refine fo_get rfl (eg_0 _) rfl ?_
  refine fo_st rfl rfl ?_
  refine fo_b rfl rfl ?_ ?_
  · exact g_X2_readFigures_180 LS xs d hd _ _ _ _ _ _
  · refine fo_st rfl rfl ?_
    refine fo_b rfl rfl ?_ ?_
    · exact g_X2_readFigures_180 LS xs d hd _ _ _ _ _ _
    · refine fo_st rfl rfl ?_
      refine fo_st rfl rfl ?_
      refine fo_callI (As := [.ref 80, .int l3]) (rest := []) rfl rfl rfl rfl (mi_rcv_of (eg_2 _)) (c_X2_readFraction LS xs d (by omega) _ _) (fun qx1 => ?_)
      exact fo_ret2 rfl rfl
def f_X2_readFigures_105  (r59 : Int32 → Int32 → Int32 → Int32 → Int32 → fS → Option (Int32 × fS)) (l1 : Int32) (l2 : Int32) (l3 : Int32) (l4 : Int32) (l5 : Int32) (s : fS) : Option (Int32 × fS) := (bif decide (¬ l5 = (6 : Int32)) then ((f_X3_add (gadr (gP2 s) + 1) (gI s 81 2) s).bind fun qx1 => ((f_X0_step qx1).bind fun qx2 => r59 l1 l2 l3 l4 (l5 + Int32.ofInt (1)) qx2)) else ((f_X0_wrong (2 : Int32) (gI s 81 1) s).bind fun qx3 => fchk (fbl qx3.1) (some (qx3.1, qx3.2))))
theorem g_X2_readFigures_105 (LS : Nat) (xs : Nat → Int32) (d : Nat) (hd : 2 ≤ d)   (r59 : Int32 → Int32 → Int32 → Int32 → Int32 → fS → Option (Int32 × fS)) (q59 : ∀ (l1 : Int32) (l2 : Int32) (l3 : Int32) (l4 : Int32) (l5 : Int32) (s : fS), fo cvI t_X2_readFigures LS xs (mi_call mi_ms false LS xs d) (59, [some (.ref 80), some (.int l1), some (.int l2), some (.int l3), some (.int l4), some (.int l5)], [], enc s) (r59 l1 l2 l3 l4 l5 s)) (l1 : Int32) (l2 : Int32) (l3 : Int32) (l4 : Int32) (l5 : Int32)  (s : fS) : fo cvI t_X2_readFigures LS xs (mi_call mi_ms false LS xs d) (105, [some (.ref 80), some (.int l1), some (.int l2), some (.int l3), some (.int l4), some (.int l5)], [], enc s) (f_X2_readFigures_105 r59 l1 l2 l3 l4 l5 s) := by
  unfold f_X2_readFigures_105
  refine fo_st rfl rfl ?_
  refine fo_st rfl rfl ?_
  refine fo_b rfl rfl ?_ ?_
  · refine fo_st rfl rfl ?_
    refine fo_get rfl (eg_2 _) rfl ?_
    refine fo_get rfl (eg_gr _ _) rfl ?_
    refine fo_st rfl rfl ?_
    refine fo_get rfl (eg_2 _) rfl ?_
    refine fo_get rfl (eg_0 _) rfl ?_
    refine fo_callV (As := [.ref (gadr (gP2 s) + 1), .int (gI s 81 2)]) (rest := []) rfl rfl rfl rfl (mi_rcv_of (eg_row _ (gk_1 _))) (c_X3_add LS xs d (by omega) _ _ (gk_1 _) _) (fun qx1 => ?_)
    refine fo_st rfl rfl ?_
    refine fo_get rfl (eg_2 _) rfl ?_
    refine fo_callV (As := [.ref 81]) (rest := []) rfl rfl rfl rfl (mi_rcv_of (eg_0 _)) (c_X0_step LS xs d (by omega)  _) (fun qx2 => ?_)
    refine fo_st rfl rfl ?_
    refine fo_st rfl rfl ?_
    exact q59 _ _ _ _ _ _
  · refine fo_st rfl rfl ?_
    refine fo_get rfl (eg_2 _) rfl ?_
    refine fo_st rfl rfl ?_
    refine fo_st rfl rfl ?_
    refine fo_get rfl (eg_2 _) rfl ?_
    refine fo_get rfl (eg_0 _) rfl ?_
    refine fo_callI (As := [.ref 81, .int (2 : Int32), .int (gI s 81 1)]) (rest := []) rfl rfl rfl rfl (mi_rcv_of (eg_0 _)) (c_X0_wrong LS xs d (by omega) _ _ _) (fun qx3 => ?_)
    exact fo_ret2 rfl rfl
def f_X2_readFigures_59   : Nat → Int32 → Int32 → Int32 → Int32 → Int32 → fS → Option (Int32 × fS)
  | 0, _, _, _, _, _, _ => none
  | n + 1, l1, l2, l3, l4, l5, s => (bif decide ((6 : Int32) < l5) then f_X2_readFigures_158 l1 l2 l3 l4 l5 s else ((f_X6_isFigure (gI s 81 2) s).bind fun qx1 => (bif decide (qx1.1 = 0) then f_X2_readFigures_158 l1 l2 l3 l4 l5 qx1.2 else (bif decide (l4 = 0) then f_X2_readFigures_105 (fun l1' l2' l3' l4' l5' s' => f_X2_readFigures_59 n l1' l2' l3' l4' l5' s') l1 l2 l3 l4 l5 qx1.2 else (bif decide (l5 ≤ 0) then f_X2_readFigures_105 (fun l1' l2' l3' l4' l5' s' => f_X2_readFigures_59 n l1' l2' l3' l4' l5' s') l1 l2 l3 l4 l5 qx1.2 else ((f_X0_wrong (1 : Int32) (gI qx1.2 81 1) qx1.2).bind fun qx2 => fchk (fbl qx2.1) (some (qx2.1, qx2.2))))))))
theorem g_X2_readFigures_59 (LS : Nat) (xs : Nat → Int32) (d : Nat) (hd : 2 ≤ d)     (n : Nat) : ∀ (l1 : Int32) (l2 : Int32) (l3 : Int32) (l4 : Int32) (l5 : Int32) (s : fS), fo cvI t_X2_readFigures LS xs (mi_call mi_ms false LS xs d) (59, [some (.ref 80), some (.int l1), some (.int l2), some (.int l3), some (.int l4), some (.int l5)], [], enc s) (f_X2_readFigures_59 n l1 l2 l3 l4 l5 s) := by
  induction n with
  | zero => intro l1 l2 l3 l4 l5 s; exact fo_none
  | succ n ih =>
    intro l1 l2 l3 l4 l5 s
    rw [f_X2_readFigures_59]
    refine fo_st rfl rfl ?_
    refine fo_st rfl rfl ?_
    refine fo_b rfl rfl ?_ ?_
    · exact g_X2_readFigures_158 LS xs d hd _ _ _ _ _ _
    · refine fo_st rfl rfl ?_
      refine fo_get rfl (eg_2 _) rfl ?_
      refine fo_get rfl (eg_0 _) rfl ?_
      refine fo_callI (As := [.int (gI s 81 2)]) (rest := []) rfl rfl rfl rfl True.intro (c_X6_isFigure LS xs d (by omega) _ _) (fun qx1 => ?_)
      refine fo_b rfl rfl ?_ ?_
      · exact g_X2_readFigures_158 LS xs d hd _ _ _ _ _ _
      · refine fo_st rfl rfl ?_
        refine fo_b rfl rfl ?_ ?_
        · exact g_X2_readFigures_105 LS xs d hd _ ih _ _ _ _ _ _
        · refine fo_st rfl rfl ?_
          refine fo_b rfl rfl ?_ ?_
          · exact g_X2_readFigures_105 LS xs d hd _ ih _ _ _ _ _ _
          · refine fo_st rfl rfl ?_
            refine fo_get rfl (eg_2 _) rfl ?_
            refine fo_st rfl rfl ?_
            refine fo_st rfl rfl ?_
            refine fo_get rfl (eg_2 _) rfl ?_
            refine fo_get rfl (eg_0 _) rfl ?_
            refine fo_callI (As := [.ref 81, .int (1 : Int32), .int (gI qx1.2 81 1)]) (rest := []) rfl rfl rfl rfl (mi_rcv_of (eg_0 _)) (c_X0_wrong LS xs d (by omega) _ _ _) (fun qx2 => ?_)
            exact fo_ret2 rfl rfl
def f_X2_readFigures_56   (l1 : Int32) (l2 : Int32) (l3 : Int32) (l4 : Int32) (s : fS) : Option (Int32 × fS) := f_X2_readFigures_59 fuel l1 l2 l3 l4 (0 : Int32) s
theorem g_X2_readFigures_56 (LS : Nat) (xs : Nat → Int32) (d : Nat) (hd : 2 ≤ d)     (l1 : Int32) (l2 : Int32) (l3 : Int32) (l4 : Int32)  (s : fS) : fo cvI t_X2_readFigures LS xs (mi_call mi_ms false LS xs d) (56, [some (.ref 80), some (.int l1), some (.int l2), some (.int l3), some (.int l4), none], [], enc s) (f_X2_readFigures_56 l1 l2 l3 l4 s) := by
  unfold f_X2_readFigures_56
  refine fo_st rfl rfl ?_
  refine fo_st rfl rfl ?_
  exact g_X2_readFigures_59 LS xs d hd fuel _ _ _ _ _ _
def f_X2_readFigures_25   (l1 : Int32) (l2 : Int32) (l3 : Int32) (t0 : Int32) (s : fS) : Option (Int32 × fS) := (bif decide (t0 = 0) then f_X2_readFigures_56 l1 l2 l3 t0 s else (bif decide (l2 = 0) then f_X2_readFigures_56 l1 l2 l3 t0 s else (bif decide (¬ l1 = 0) then f_X2_readFigures_56 l1 l2 l3 t0 s else ((f_X0_wrong (1 : Int32) (gI s 81 1) s).bind fun qx1 => fchk (fbl qx1.1) (some (qx1.1, qx1.2))))))
theorem g_X2_readFigures_25 (LS : Nat) (xs : Nat → Int32) (d : Nat) (hd : 2 ≤ d)     (l1 : Int32) (l2 : Int32) (l3 : Int32) (t0 : Int32)  (s : fS) : fo cvI t_X2_readFigures LS xs (mi_call mi_ms false LS xs d) (25, [some (.ref 80), some (.int l1), some (.int l2), some (.int l3), none, none], [.int t0], enc s) (f_X2_readFigures_25 l1 l2 l3 t0 s) := by
  unfold f_X2_readFigures_25
  refine fo_st rfl rfl ?_
  refine fo_st rfl rfl ?_
  refine fo_b rfl rfl ?_ ?_
  · exact g_X2_readFigures_56 LS xs d hd _ _ _ _ _
  · refine fo_st rfl rfl ?_
    refine fo_b rfl rfl ?_ ?_
    · exact g_X2_readFigures_56 LS xs d hd _ _ _ _ _
    · refine fo_st rfl rfl ?_
      refine fo_b rfl rfl ?_ ?_
      · exact g_X2_readFigures_56 LS xs d hd _ _ _ _ _
      · refine fo_st rfl rfl ?_
        refine fo_get rfl (eg_2 _) rfl ?_
        refine fo_st rfl rfl ?_
        refine fo_st rfl rfl ?_
        refine fo_get rfl (eg_2 _) rfl ?_
        refine fo_get rfl (eg_0 _) rfl ?_
        refine fo_callI (As := [.ref 81, .int (1 : Int32), .int (gI s 81 1)]) (rest := []) rfl rfl rfl rfl (mi_rcv_of (eg_0 _)) (c_X0_wrong LS xs d (by omega) _ _ _) (fun qx1 => ?_)
        exact fo_ret2 rfl rfl
def f_X2_readFigures_0   (l1 : Int32) (l2 : Int32) (s : fS) : Option (Int32 × fS) := (bif decide (¬ (gI s 81 2) = (48 : Int32)) then f_X2_readFigures_25 l1 l2 (gI s 81 1) (0 : Int32) s else f_X2_readFigures_25 l1 l2 (gI s 81 1) (1 : Int32) s)
theorem g_X2_readFigures_0 (LS : Nat) (xs : Nat → Int32) (d : Nat) (hd : 2 ≤ d)     (l1 : Int32) (l2 : Int32)  (s : fS) : fo cvI t_X2_readFigures LS xs (mi_call mi_ms false LS xs d) (0, [some (.ref 80), some (.int l1), some (.int l2), none, none, none], [], enc s) (f_X2_readFigures_0 l1 l2 s) := by
  unfold f_X2_readFigures_0
  refine fo_st rfl rfl ?_
  refine fo_get rfl (eg_2 _) rfl ?_
  refine fo_get rfl (eg_0 _) rfl ?_
  refine fo_st rfl rfl ?_
  refine fo_st rfl rfl ?_
  refine fo_get rfl (eg_2 _) rfl ?_
  refine fo_get rfl (eg_0 _) rfl ?_
  refine fo_st rfl rfl ?_
  refine fo_b rfl rfl ?_ ?_
  · refine fo_st rfl rfl ?_
    exact g_X2_readFigures_25 LS xs d hd _ _ _ _ _
  · refine fo_st rfl rfl ?_
    refine fo_st rfl rfl ?_
    exact g_X2_readFigures_25 LS xs d hd _ _ _ _ _
def f_X2_readFigures (l1 : Int32) (l2 : Int32) (s : fS) : Option (Int32 × fS) := f_X2_readFigures_0 l1 l2 s
theorem c_X2_readFigures (LS : Nat) (xs : Nat → Int32) (d : Nat) (hd : 3 ≤ d) (l1 : Int32) (l2 : Int32)  (s : fS) : fm mi_ms cvI LS xs d 36 [.ref 80, .int l1, .int l2] (enc s) (f_X2_readFigures l1 l2 s) := by
  obtain ⟨e, rfl⟩ : ∃ e, d = e + 1 := ⟨d - 1, by omega⟩
  exact fm_of (M := m_X2_readFigures) rfl rfl (fun _ => ⟨_, rfl⟩) (g_X2_readFigures_0 LS xs e (by omega) l1 l2 s)
def f_X2_figuresOnly_2   : Nat → Int32 → Int32 → fS → Option (Int32 × fS)
  | 0, _, _, _ => none
  | n + 1, l1, l2, s => (bif decide ((gI s (gadr (gP2 s) + 1) 1) ≤ l2) then some ((1 : Int32), s) else ((f_X3_at (gadr (gP2 s) + 1) l2 s).bind fun qx1 => ((f_X6_isFigure qx1.1 qx1.2).bind fun qx2 => (bif decide (¬ qx2.1 = 0) then f_X2_figuresOnly_2 n l1 (l2 + Int32.ofInt (1)) qx2.2 else some ((0 : Int32), qx2.2)))))
theorem g_X2_figuresOnly_2 (LS : Nat) (xs : Nat → Int32) (d : Nat) (hd : 1 ≤ d)     (n : Nat) : ∀ (l1 : Int32) (l2 : Int32) (s : fS), fo cvI t_X2_figuresOnly LS xs (mi_call mi_ms false LS xs d) (2, [some (.ref 80), some (.int l1), some (.int l2)], [], enc s) (f_X2_figuresOnly_2 n l1 l2 s) := by
  induction n with
  | zero => intro l1 l2 s; exact fo_none
  | succ n ih =>
    intro l1 l2 s
    rw [f_X2_figuresOnly_2]
    refine fo_st rfl rfl ?_
    refine fo_st rfl rfl ?_
    refine fo_get rfl (eg_2 _) rfl ?_
    refine fo_get rfl (eg_gr _ _) rfl ?_
    refine fo_get rfl (eg_row _ (gk_1 _)) rfl ?_
    refine fo_b rfl rfl ?_ ?_
    · refine fo_st rfl rfl ?_
      exact fo_ret rfl rfl rfl
    · refine fo_st rfl rfl ?_
      refine fo_get rfl (eg_2 _) rfl ?_
      refine fo_get rfl (eg_gr _ _) rfl ?_
      refine fo_st rfl rfl ?_
      refine fo_callI (As := [.ref (gadr (gP2 s) + 1), .int l2]) (rest := []) rfl rfl rfl rfl (mi_rcv_of (eg_row _ (gk_1 _))) (c_X3_at LS xs d (by omega) _ _ (gk_1 _) _) (fun qx1 => ?_)
      refine fo_callI (As := [.int qx1.1]) (rest := []) rfl rfl rfl rfl True.intro (c_X6_isFigure LS xs d (by omega) _ _) (fun qx2 => ?_)
      refine fo_b rfl rfl ?_ ?_
      · refine fo_st rfl rfl ?_
        refine fo_st rfl rfl ?_
        exact ih _ _ _
      · refine fo_st rfl rfl ?_
        exact fo_ret rfl rfl rfl
def f_X2_figuresOnly_0   (l1 : Int32) (s : fS) : Option (Int32 × fS) := f_X2_figuresOnly_2 fuel l1 l1 s
theorem g_X2_figuresOnly_0 (LS : Nat) (xs : Nat → Int32) (d : Nat) (hd : 1 ≤ d)     (l1 : Int32)  (s : fS) : fo cvI t_X2_figuresOnly LS xs (mi_call mi_ms false LS xs d) (0, [some (.ref 80), some (.int l1), none], [], enc s) (f_X2_figuresOnly_0 l1 s) := by
  unfold f_X2_figuresOnly_0
  refine fo_st rfl rfl ?_
  refine fo_st rfl rfl ?_
  exact g_X2_figuresOnly_2 LS xs d hd fuel _ _ _
def f_X2_figuresOnly (l1 : Int32) (s : fS) : Option (Int32 × fS) := f_X2_figuresOnly_0 l1 s
theorem c_X2_figuresOnly (LS : Nat) (xs : Nat → Int32) (d : Nat) (hd : 2 ≤ d) (l1 : Int32)  (s : fS) : fm mi_ms cvI LS xs d 39 [.ref 80, .int l1] (enc s) (f_X2_figuresOnly l1 s) := by
  obtain ⟨e, rfl⟩ : ∃ e, d = e + 1 := ⟨d - 1, by omega⟩
  exact fm_of (M := m_X2_figuresOnly) rfl rfl (fun _ => ⟨_, rfl⟩) (g_X2_figuresOnly_0 LS xs e (by omega) l1 s)
theorem p_X2_figuresOnly_2    (n : Nat) : ∀ (l1 : Int32) (l2 : Int32) (s : fS), pu s (f_X2_figuresOnly_2 n l1 l2 s) := by
  induction n with
  | zero => intro l1 l2 s; exact pu_none
  | succ n ih =>
    intro l1 l2 s
    rw [f_X2_figuresOnly_2]
    refine pu_b ?_ ?_
    · exact pu_some rfl
    · refine pu_bind (p_X3_at _ _ _) (fun v => ?_)
      refine pu_bind (p_X6_isFigure _ _) (fun v => ?_)
      refine pu_b ?_ ?_
      · exact ih _ _ _
      · exact pu_some rfl
theorem p_X2_figuresOnly_0    (l1 : Int32) (s : fS) : pu s (f_X2_figuresOnly_0 l1 s) := by
  unfold f_X2_figuresOnly_0
  exact p_X2_figuresOnly_2 fuel _ _ _
theorem p_X2_figuresOnly (l1 : Int32) (s : fS) : pu s (f_X2_figuresOnly l1 s) := p_X2_figuresOnly_0 l1 s
def f_X2_readGuessed_135   (l1 : Int32) (l2 : Int32) (l3 : Int32) (l4 : Int32) (t0 : Int32) (s : fS) : Option (Int32 × fS) := some ((1 : Int32), (sI s 80 10 t0))
theorem g_X2_readGuessed_135 (LS : Nat) (xs : Nat → Int32) (d : Nat) (hd : 2 ≤ d)     (l1 : Int32) (l2 : Int32) (l3 : Int32) (l4 : Int32) (t0 : Int32)  (s : fS) : fo cvI t_X2_readGuessed LS xs (mi_call mi_ms false LS xs d) (135, [some (.ref 80), some (.int l1), some (.int l2), some (.int l3), some (.int l4)], [.int t0, .ref 80], enc s) (f_X2_readGuessed_135 l1 l2 l3 l4 t0 s) := by
  unfold f_X2_readGuessed_135
  refine fo_put rfl (eg_2 _) rfl rfl (es_2_10 _ _) ?_
  refine fo_st rfl rfl ?_
  exact fo_ret rfl rfl rfl
def f_X2_readGuessed_134   (l1 : Int32) (l2 : Int32) (l3 : Int32) (l4 : Int32) (s : fS) : Option (Int32 × fS) := f_X2_readGuessed_135 l1 l2 l3 l4 (3 : Int32) s
theorem g_X2_readGuessed_134 (LS : Nat) (xs : Nat → Int32) (d : Nat) (hd : 2 ≤ d)     (l1 : Int32) (l2 : Int32) (l3 : Int32) (l4 : Int32)  (s : fS) : fo cvI t_X2_readGuessed LS xs (mi_call mi_ms false LS xs d) (134, [some (.ref 80), some (.int l1), some (.int l2), some (.int l3), some (.int l4)], [.ref 80], enc s) (f_X2_readGuessed_134 l1 l2 l3 l4 s) := by
  unfold f_X2_readGuessed_134
  refine fo_st rfl rfl ?_
  exact g_X2_readGuessed_135 LS xs d hd _ _ _ _ _ _
def f_X2_readGuessed_114   (l1 : Int32) (l2 : Int32) (l3 : Int32) (l4 : Int32) (s : fS) : Option (Int32 × fS) := (bif decide (l4 = 0) then f_X2_readGuessed_134 l1 l2 l3 l4 s else (bif decide (¬ l3 = 0) then f_X2_readGuessed_134 l1 l2 l3 l4 s else (bif decide ((6 : Int32) < l2) then f_X2_readGuessed_134 l1 l2 l3 l4 s else f_X2_readGuessed_135 l1 l2 l3 l4 (1 : Int32) s)))
theorem g_X2_readGuessed_114 (LS : Nat) (xs : Nat → Int32) (d : Nat) (hd : 2 ≤ d)     (l1 : Int32) (l2 : Int32) (l3 : Int32) (l4 : Int32)  (s : fS) : fo cvI t_X2_readGuessed LS xs (mi_call mi_ms false LS xs d) (114, [some (.ref 80), some (.int l1), some (.int l2), some (.int l3), some (.int l4)], [], enc s) (f_X2_readGuessed_114 l1 l2 l3 l4 s) := by
  unfold f_X2_readGuessed_114
  refine fo_st rfl rfl ?_
  refine fo_st rfl rfl ?_
  refine fo_b rfl rfl ?_ ?_
  · exact g_X2_readGuessed_134 LS xs d hd _ _ _ _ _
  · refine fo_st rfl rfl ?_
    refine fo_b rfl rfl ?_ ?_
    · exact g_X2_readGuessed_134 LS xs d hd _ _ _ _ _
    · refine fo_st rfl rfl ?_
      refine fo_st rfl rfl ?_
      refine fo_b rfl rfl ?_ ?_
      · exact g_X2_readGuessed_134 LS xs d hd _ _ _ _ _
      · refine fo_st rfl rfl ?_
        refine fo_st rfl rfl ?_
        exact g_X2_readGuessed_135 LS xs d hd _ _ _ _ _ _
def f_X2_readGuessed_113   (l1 : Int32) (l2 : Int32) (l3 : Int32) (l4 : Int32) (t0 : Int32) (s : fS) : Option (Int32 × fS) := fchk (fbl t0) (some (t0, s))
theorem g_X2_readGuessed_113 (LS : Nat) (xs : Nat → Int32) (d : Nat) (hd : 2 ≤ d)     (l1 : Int32) (l2 : Int32) (l3 : Int32) (l4 : Int32) (t0 : Int32)  (s : fS) : fo cvI t_X2_readGuessed LS xs (mi_call mi_ms false LS xs d) (113, [some (.ref 80), some (.int l1), some (.int l2), some (.int l3), some (.int l4)], [.int t0], enc s) (f_X2_readGuessed_113 l1 l2 l3 l4 t0 s) := by
  unfold f_X2_readGuessed_113
  exact fo_ret2 rfl rfl
def f_X2_readGuessed_62   (l1 : Int32) (l2 : Int32) (t0 : Int32) (s : fS) : Option (Int32 × fS) := ((f_X2_figuresOnly (gI s 80 11) s).bind fun qx1 => (bif decide (qx1.1 = 0) then f_X2_readGuessed_114 l1 l2 t0 qx1.1 qx1.2 else (bif decide (¬ (gI qx1.2 81 2) = (46 : Int32)) then f_X2_readGuessed_114 l1 l2 t0 qx1.1 qx1.2 else (bif decide (t0 = 0) then ((f_X2_readFraction l1 qx1.2).bind fun qx2 => f_X2_readGuessed_113 l1 l2 t0 qx1.1 qx2.1 qx2.2) else ((f_X0_wrong (1 : Int32) (l1 + (1 : Int32)) qx1.2).bind fun qx3 => f_X2_readGuessed_113 l1 l2 t0 qx1.1 qx3.1 qx3.2)))))
theorem g_X2_readGuessed_62 (LS : Nat) (xs : Nat → Int32) (d : Nat) (hd : 2 ≤ d)     (l1 : Int32) (l2 : Int32) (t0 : Int32)  (s : fS) : fo cvI t_X2_readGuessed LS xs (mi_call mi_ms false LS xs d) (62, [some (.ref 80), some (.int l1), some (.int l2), none, none], [.int t0], enc s) (f_X2_readGuessed_62 l1 l2 t0 s) := by
  unfold f_X2_readGuessed_62
  refine fo_st rfl rfl ?_
  refine fo_st rfl rfl ?_
  refine fo_st rfl rfl ?_
  refine fo_get rfl (eg_2 _) rfl ?_
  refine fo_callI (As := [.ref 80, .int (gI s 80 11)]) (rest := []) rfl rfl rfl rfl (mi_rcv_of (eg_2 _)) (c_X2_figuresOnly LS xs d (by omega) _ _) (fun qx1 => ?_)
  refine fo_st rfl rfl ?_
  refine fo_st rfl rfl ?_
  refine fo_b rfl rfl ?_ ?_
  · exact g_X2_readGuessed_114 LS xs d hd _ _ _ _ _
  · refine fo_st rfl rfl ?_
    refine fo_get rfl (eg_2 _) rfl ?_
    refine fo_get rfl (eg_0 _) rfl ?_
    refine fo_st rfl rfl ?_
    refine fo_b rfl rfl ?_ ?_
    · exact g_X2_readGuessed_114 LS xs d hd _ _ _ _ _
    · refine fo_st rfl rfl ?_
      refine fo_b rfl rfl ?_ ?_
      · refine fo_st rfl rfl ?_
        refine fo_st rfl rfl ?_
        refine fo_callI (As := [.ref 80, .int l1]) (rest := []) rfl rfl rfl rfl (mi_rcv_of (eg_2 _)) (c_X2_readFraction LS xs d (by omega) _ _) (fun qx2 => ?_)
        exact g_X2_readGuessed_113 LS xs d hd _ _ _ _ _ _
      · refine fo_st rfl rfl ?_
        refine fo_get rfl (eg_2 _) rfl ?_
        refine fo_st rfl rfl ?_
        refine fo_st rfl rfl ?_
        refine fo_st rfl rfl ?_
        refine fo_st rfl rfl ?_
        refine fo_callI (As := [.ref 81, .int (1 : Int32), .int (l1 + (1 : Int32))]) (rest := []) rfl rfl rfl rfl (mi_rcv_of (eg_0 _)) (c_X0_wrong LS xs d (by omega) _ _ _) (fun qx3 => ?_)
        refine fo_st rfl rfl ?_
        exact g_X2_readGuessed_113 LS xs d hd _ _ _ _ _ _
def f_X2_readGuessed_61   (l1 : Int32) (l2 : Int32) (s : fS) : Option (Int32 × fS) := f_X2_readGuessed_62 l1 l2 (0 : Int32) s
theorem g_X2_readGuessed_61 (LS : Nat) (xs : Nat → Int32) (d : Nat) (hd : 2 ≤ d)     (l1 : Int32) (l2 : Int32)  (s : fS) : fo cvI t_X2_readGuessed LS xs (mi_call mi_ms false LS xs d) (61, [some (.ref 80), some (.int l1), some (.int l2), none, none], [], enc s) (f_X2_readGuessed_61 l1 l2 s) := by
  unfold f_X2_readGuessed_61
  refine fo_st rfl rfl ?_
  exact g_X2_readGuessed_62 LS xs d hd _ _ _ _
def f_X2_readGuessed_0    (s : fS) : Option (Int32 × fS) := ((f_X2_readPlain s).bind fun qx1 => (bif decide (¬ qx1.1 = 0) then (bif decide (((gI qx1.2 (gadr (gP2 qx1.2) + 1) 1) - (gI qx1.2 80 11)) ≤ (1 : Int32)) then f_X2_readGuessed_61 (gI s 81 1) ((gI qx1.2 (gadr (gP2 qx1.2) + 1) 1) - (gI qx1.2 80 11)) qx1.2 else ((f_X3_at (gadr (gP2 qx1.2) + 1) (gI qx1.2 80 11) qx1.2).bind fun qx2 => (bif decide (¬ qx2.1 = (48 : Int32)) then f_X2_readGuessed_61 (gI s 81 1) ((gI qx1.2 (gadr (gP2 qx1.2) + 1) 1) - (gI qx1.2 80 11)) qx2.2 else f_X2_readGuessed_62 (gI s 81 1) ((gI qx1.2 (gadr (gP2 qx1.2) + 1) 1) - (gI qx1.2 80 11)) (1 : Int32) qx2.2))) else some ((0 : Int32), qx1.2)))
theorem g_X2_readGuessed_0 (LS : Nat) (xs : Nat → Int32) (d : Nat) (hd : 2 ≤ d)       (s : fS) : fo cvI t_X2_readGuessed LS xs (mi_call mi_ms false LS xs d) (0, [some (.ref 80), none, none, none, none], [], enc s) (f_X2_readGuessed_0 s) := by
  unfold f_X2_readGuessed_0
  refine fo_st rfl rfl ?_
  refine fo_get rfl (eg_2 _) rfl ?_
  refine fo_get rfl (eg_0 _) rfl ?_
  refine fo_st rfl rfl ?_
  refine fo_st rfl rfl ?_
  refine fo_callI (As := [.ref 80]) (rest := []) rfl rfl rfl rfl (mi_rcv_of (eg_2 _)) (c_X2_readPlain LS xs d (by omega)  _) (fun qx1 => ?_)
  refine fo_b rfl rfl ?_ ?_
  · refine fo_st rfl rfl ?_
    refine fo_get rfl (eg_2 _) rfl ?_
    refine fo_get rfl (eg_gr _ _) rfl ?_
    refine fo_get rfl (eg_row _ (gk_1 _)) rfl ?_
    refine fo_st rfl rfl ?_
    refine fo_get rfl (eg_2 _) rfl ?_
    refine fo_st rfl rfl ?_
    refine fo_st rfl rfl ?_
    refine fo_st rfl rfl ?_
    refine fo_st rfl rfl ?_
    refine fo_b rfl rfl ?_ ?_
    · exact g_X2_readGuessed_61 LS xs d hd _ _ _
    · refine fo_st rfl rfl ?_
      refine fo_get rfl (eg_2 _) rfl ?_
      refine fo_get rfl (eg_gr _ _) rfl ?_
      refine fo_st rfl rfl ?_
      refine fo_get rfl (eg_2 _) rfl ?_
      refine fo_callI (As := [.ref (gadr (gP2 qx1.2) + 1), .int (gI qx1.2 80 11)]) (rest := []) rfl rfl rfl rfl (mi_rcv_of (eg_row _ (gk_1 _))) (c_X3_at LS xs d (by omega) _ _ (gk_1 _) _) (fun qx2 => ?_)
      refine fo_st rfl rfl ?_
      refine fo_b rfl rfl ?_ ?_
      · exact g_X2_readGuessed_61 LS xs d hd _ _ _
      · refine fo_st rfl rfl ?_
        refine fo_st rfl rfl ?_
        exact g_X2_readGuessed_62 LS xs d hd _ _ _ _
  · refine fo_st rfl rfl ?_
    exact fo_ret rfl rfl rfl
def f_X2_readGuessed  (s : fS) : Option (Int32 × fS) := f_X2_readGuessed_0 s
theorem c_X2_readGuessed (LS : Nat) (xs : Nat → Int32) (d : Nat) (hd : 3 ≤ d)   (s : fS) : fm mi_ms cvI LS xs d 38 [.ref 80] (enc s) (f_X2_readGuessed  s) := by
  obtain ⟨e, rfl⟩ : ∃ e, d = e + 1 := ⟨d - 1, by omega⟩
  exact fm_of (M := m_X2_readGuessed) rfl rfl (fun _ => ⟨_, rfl⟩) (g_X2_readGuessed_0 LS xs e (by omega) s)
def f_X2_readValue_203   (l1 : Int32) (l2 : Int32) (s : fS) : Option (Int32 × fS) := ((f_X0_wrong (1 : Int32) (gI s 81 1) s).bind fun qx1 => fchk (fbl qx1.1) (some (qx1.1, qx1.2)))
theorem g_X2_readValue_203 (LS : Nat) (xs : Nat → Int32) (d : Nat) (hd : 3 ≤ d)     (l1 : Int32) (l2 : Int32)  (s : fS) : fo cvI t_X2_readValue LS xs (mi_call mi_ms false LS xs d) (203, [some (.ref 80), some (.int l1), some (.int l2)], [], enc s) (f_X2_readValue_203 l1 l2 s) := by
  unfold f_X2_readValue_203
  refine fo_st rfl rfl ?_
  refine fo_get rfl (eg_2 _) rfl ?_
  refine fo_st rfl rfl ?_
  refine fo_st rfl rfl ?_
  refine fo_get rfl (eg_2 _) rfl ?_
  refine fo_get rfl (eg_0 _) rfl ?_
  refine fo_callI (As := [.ref 81, .int (1 : Int32), .int (gI s 81 1)]) (rest := []) rfl rfl rfl rfl (mi_rcv_of (eg_0 _)) (c_X0_wrong LS xs d (by omega) _ _ _) (fun qx1 => ?_)
  exact fo_ret2 rfl rfl
def f_X2_readValue_185   (l1 : Int32) (l2 : Int32) (s : fS) : Option (Int32 × fS) := (bif decide (l1 = (2 : Int32)) then f_X2_readValue_203 l1 l2 s else ((f_X6_isFigure (gI s 81 2) s).bind fun qx1 => (bif decide (¬ qx1.1 = 0) then ((f_X2_readFigures l1 l2 qx1.2).bind fun qx2 => fchk (fbl qx2.1) (some (qx2.1, qx2.2))) else f_X2_readValue_203 l1 l2 qx1.2)))
theorem g_X2_readValue_185 (LS : Nat) (xs : Nat → Int32) (d : Nat) (hd : 3 ≤ d)     (l1 : Int32) (l2 : Int32)  (s : fS) : fo cvI t_X2_readValue LS xs (mi_call mi_ms false LS xs d) (185, [some (.ref 80), some (.int l1), some (.int l2)], [], enc s) (f_X2_readValue_185 l1 l2 s) := by
  unfold f_X2_readValue_185
  refine fo_st rfl rfl ?_
  refine fo_st rfl rfl ?_
  refine fo_b rfl rfl ?_ ?_
  · exact g_X2_readValue_203 LS xs d hd _ _ _
  · refine fo_st rfl rfl ?_
    refine fo_get rfl (eg_2 _) rfl ?_
    refine fo_get rfl (eg_0 _) rfl ?_
    refine fo_callI (As := [.int (gI s 81 2)]) (rest := []) rfl rfl rfl rfl True.intro (c_X6_isFigure LS xs d (by omega) _ _) (fun qx1 => ?_)
    refine fo_b rfl rfl ?_ ?_
    · refine fo_st rfl rfl ?_
      refine fo_st rfl rfl ?_
      refine fo_st rfl rfl ?_
      refine fo_callI (As := [.ref 80, .int l1, .int l2]) (rest := []) rfl rfl rfl rfl (mi_rcv_of (eg_2 _)) (c_X2_readFigures LS xs d (by omega) _ _ _) (fun qx2 => ?_)
      exact fo_ret2 rfl rfl
    · exact g_X2_readValue_203 LS xs d hd _ _ _
def f_X2_readValue_169   (l1 : Int32) (l2 : Int32) (s : fS) : Option (Int32 × fS) := ((f_X0_wrong (3 : Int32) (gI s 81 1) s).bind fun qx1 => fchk (fbl qx1.1) (some (qx1.1, qx1.2)))
theorem g_X2_readValue_169 (LS : Nat) (xs : Nat → Int32) (d : Nat) (hd : 3 ≤ d)     (l1 : Int32) (l2 : Int32)  (s : fS) : fo cvI t_X2_readValue LS xs (mi_call mi_ms false LS xs d) (169, [some (.ref 80), some (.int l1), some (.int l2)], [], enc s) (f_X2_readValue_169 l1 l2 s) := by
  unfold f_X2_readValue_169
  refine fo_st rfl rfl ?_
  refine fo_get rfl (eg_2 _) rfl ?_
  refine fo_st rfl rfl ?_
  refine fo_st rfl rfl ?_
  refine fo_get rfl (eg_2 _) rfl ?_
  refine fo_get rfl (eg_0 _) rfl ?_
  refine fo_callI (As := [.ref 81, .int (3 : Int32), .int (gI s 81 1)]) (rest := []) rfl rfl rfl rfl (mi_rcv_of (eg_0 _)) (c_X0_wrong LS xs d (by omega) _ _ _) (fun qx1 => ?_)
  exact fo_ret2 rfl rfl
def f_X2_readValue_127   (l1 : Int32) (l2 : Int32) (s : fS) : Option (Int32 × fS) := (bif decide (¬ l2 = 0) then f_X2_readValue_185 l1 l2 s else (bif decide ((gI s 81 2) = (34 : Int32)) then f_X2_readValue_169 l1 l2 s else ((f_X6_isPlain (gI s 81 2) s).bind fun qx1 => (bif decide (qx1.1 = 0) then f_X2_readValue_185 l1 l2 qx1.2 else ((f_X6_isFigure (gI qx1.2 81 2) qx1.2).bind fun qx2 => (bif decide (¬ qx2.1 = 0) then f_X2_readValue_185 l1 l2 qx2.2 else f_X2_readValue_169 l1 l2 qx2.2))))))
theorem g_X2_readValue_127 (LS : Nat) (xs : Nat → Int32) (d : Nat) (hd : 3 ≤ d)     (l1 : Int32) (l2 : Int32)  (s : fS) : fo cvI t_X2_readValue LS xs (mi_call mi_ms false LS xs d) (127, [some (.ref 80), some (.int l1), some (.int l2)], [], enc s) (f_X2_readValue_127 l1 l2 s) := by
  unfold f_X2_readValue_127
  refine fo_st rfl rfl ?_
  refine fo_b rfl rfl ?_ ?_
  · exact g_X2_readValue_185 LS xs d hd _ _ _
  · refine fo_st rfl rfl ?_
    refine fo_get rfl (eg_2 _) rfl ?_
    refine fo_get rfl (eg_0 _) rfl ?_
    refine fo_st rfl rfl ?_
    refine fo_b rfl rfl ?_ ?_
    · exact g_X2_readValue_169 LS xs d hd _ _ _
    · refine fo_st rfl rfl ?_
      refine fo_get rfl (eg_2 _) rfl ?_
      refine fo_get rfl (eg_0 _) rfl ?_
      refine fo_callI (As := [.int (gI s 81 2)]) (rest := []) rfl rfl rfl rfl True.intro (c_X6_isPlain LS xs d (by omega) _ _) (fun qx1 => ?_)
      refine fo_b rfl rfl ?_ ?_
      · exact g_X2_readValue_185 LS xs d hd _ _ _
      · refine fo_st rfl rfl ?_
        refine fo_get rfl (eg_2 _) rfl ?_
        refine fo_get rfl (eg_0 _) rfl ?_
        refine fo_callI (As := [.int (gI qx1.2 81 2)]) (rest := []) rfl rfl rfl rfl True.intro (c_X6_isFigure LS xs d (by omega) _ _) (fun qx2 => ?_)
        refine fo_b rfl rfl ?_ ?_
        · exact g_X2_readValue_185 LS xs d hd _ _ _
        · exact g_X2_readValue_169 LS xs d hd _ _ _
def f_X2_readValue_113   (l1 : Int32) (l2 : Int32) (s : fS) : Option (Int32 × fS) := (bif decide (¬ l2 = 0) then f_X2_readValue_127 l1 l2 s else (bif decide (¬ l1 = (3 : Int32)) then f_X2_readValue_127 l1 l2 s else ((f_X2_readGuessed s).bind fun qx1 => fchk (fbl qx1.1) (some (qx1.1, qx1.2)))))
theorem g_X2_readValue_113 (LS : Nat) (xs : Nat → Int32) (d : Nat) (hd : 3 ≤ d)     (l1 : Int32) (l2 : Int32)  (s : fS) : fo cvI t_X2_readValue LS xs (mi_call mi_ms false LS xs d) (113, [some (.ref 80), some (.int l1), some (.int l2)], [], enc s) (f_X2_readValue_113 l1 l2 s) := by
  unfold f_X2_readValue_113
  refine fo_st rfl rfl ?_
  refine fo_b rfl rfl ?_ ?_
  · exact g_X2_readValue_127 LS xs d hd _ _ _
  · refine fo_st rfl rfl ?_
    refine fo_st rfl rfl ?_
    refine fo_b rfl rfl ?_ ?_
    · exact g_X2_readValue_127 LS xs d hd _ _ _
    · refine fo_st rfl rfl ?_
      refine fo_callI (As := [.ref 80]) (rest := []) rfl rfl rfl rfl (mi_rcv_of (eg_2 _)) (c_X2_readGuessed LS xs d (by omega)  _) (fun qx1 => ?_)
      exact fo_ret2 rfl rfl
def f_X2_readValue_103   (l1 : Int32) (l2 : Int32) (s : fS) : Option (Int32 × fS) := ((f_X2_readName (sI s 80 10 (3 : Int32))).bind fun qx1 => fchk (fbl qx1.1) (some (qx1.1, qx1.2)))
theorem g_X2_readValue_103 (LS : Nat) (xs : Nat → Int32) (d : Nat) (hd : 3 ≤ d)     (l1 : Int32) (l2 : Int32)  (s : fS) : fo cvI t_X2_readValue LS xs (mi_call mi_ms false LS xs d) (103, [some (.ref 80), some (.int l1), some (.int l2)], [], enc s) (f_X2_readValue_103 l1 l2 s) := by
  unfold f_X2_readValue_103
  refine fo_st rfl rfl ?_
  refine fo_st rfl rfl ?_
  refine fo_put rfl (eg_2 _) rfl rfl (es_2_10 _ _) ?_
  refine fo_st rfl rfl ?_
  refine fo_callI (As := [.ref 80]) (rest := []) rfl rfl rfl rfl (mi_rcv_of (eg_2 _)) (c_X2_readName LS xs d (by omega)  _) (fun qx1 => ?_)
  exact fo_ret2 rfl rfl
def f_X2_readValue_77   (l1 : Int32) (l2 : Int32) (s : fS) : Option (Int32 × fS) := (bif decide (¬ l2 = 0) then f_X2_readValue_113 l1 l2 s else (bif decide (l1 = (2 : Int32)) then f_X2_readValue_103 l1 l2 s else (bif decide (¬ l1 = (3 : Int32)) then f_X2_readValue_113 l1 l2 s else (bif decide (¬ (gI s 81 2) = (34 : Int32)) then f_X2_readValue_113 l1 l2 s else f_X2_readValue_103 l1 l2 s))))
theorem g_X2_readValue_77 (LS : Nat) (xs : Nat → Int32) (d : Nat) (hd : 3 ≤ d)     (l1 : Int32) (l2 : Int32)  (s : fS) : fo cvI t_X2_readValue LS xs (mi_call mi_ms false LS xs d) (77, [some (.ref 80), some (.int l1), some (.int l2)], [], enc s) (f_X2_readValue_77 l1 l2 s) := by
  unfold f_X2_readValue_77
  refine fo_st rfl rfl ?_
  refine fo_b rfl rfl ?_ ?_
  · exact g_X2_readValue_113 LS xs d hd _ _ _
  · refine fo_st rfl rfl ?_
    refine fo_st rfl rfl ?_
    refine fo_b rfl rfl ?_ ?_
    · exact g_X2_readValue_103 LS xs d hd _ _ _
    · refine fo_st rfl rfl ?_
      refine fo_st rfl rfl ?_
      refine fo_b rfl rfl ?_ ?_
      · exact g_X2_readValue_113 LS xs d hd _ _ _
      · refine fo_st rfl rfl ?_
        refine fo_get rfl (eg_2 _) rfl ?_
        refine fo_get rfl (eg_0 _) rfl ?_
        refine fo_st rfl rfl ?_
        refine fo_b rfl rfl ?_ ?_
        · exact g_X2_readValue_113 LS xs d hd _ _ _
        · exact g_X2_readValue_103 LS xs d hd _ _ _
def f_X2_readValue_31   (l1 : Int32) (t0 : Int32) (s : fS) : Option (Int32 × fS) := (bif decide (t0 = 0) then f_X2_readValue_77 l1 t0 s else ((f_X3_add (gadr (gP2 s) + 1) (gI s 81 2) s).bind fun qx1 => ((f_X0_step qx1).bind fun qx2 => ((f_X0_isWordEnd qx2).bind fun qx3 => (bif decide (qx3.1 = 0) then f_X2_readValue_77 l1 t0 qx3.2 else some ((1 : Int32), (sI qx3.2 80 10 (0 : Int32))))))))
theorem g_X2_readValue_31 (LS : Nat) (xs : Nat → Int32) (d : Nat) (hd : 3 ≤ d)     (l1 : Int32) (t0 : Int32)  (s : fS) : fo cvI t_X2_readValue LS xs (mi_call mi_ms false LS xs d) (31, [some (.ref 80), some (.int l1), none], [.int t0], enc s) (f_X2_readValue_31 l1 t0 s) := by
  unfold f_X2_readValue_31
  refine fo_st rfl rfl ?_
  refine fo_st rfl rfl ?_
  refine fo_b rfl rfl ?_ ?_
  · exact g_X2_readValue_77 LS xs d hd _ _ _
  · refine fo_st rfl rfl ?_
    refine fo_get rfl (eg_2 _) rfl ?_
    refine fo_get rfl (eg_gr _ _) rfl ?_
    refine fo_st rfl rfl ?_
    refine fo_get rfl (eg_2 _) rfl ?_
    refine fo_get rfl (eg_0 _) rfl ?_
    refine fo_callV (As := [.ref (gadr (gP2 s) + 1), .int (gI s 81 2)]) (rest := []) rfl rfl rfl rfl (mi_rcv_of (eg_row _ (gk_1 _))) (c_X3_add LS xs d (by omega) _ _ (gk_1 _) _) (fun qx1 => ?_)
    refine fo_st rfl rfl ?_
    refine fo_get rfl (eg_2 _) rfl ?_
    refine fo_callV (As := [.ref 81]) (rest := []) rfl rfl rfl rfl (mi_rcv_of (eg_0 _)) (c_X0_step LS xs d (by omega)  _) (fun qx2 => ?_)
    refine fo_st rfl rfl ?_
    refine fo_get rfl (eg_2 _) rfl ?_
    refine fo_callI (As := [.ref 81]) (rest := []) rfl rfl rfl rfl (mi_rcv_of (eg_0 _)) (c_X0_isWordEnd LS xs d (by omega)  _) (fun qx3 => ?_)
    refine fo_b rfl rfl ?_ ?_
    · exact g_X2_readValue_77 LS xs d hd _ _ _
    · refine fo_st rfl rfl ?_
      refine fo_st rfl rfl ?_
      refine fo_put rfl (eg_2 _) rfl rfl (es_2_10 _ _) ?_
      refine fo_st rfl rfl ?_
      exact fo_ret rfl rfl rfl
def f_X2_readValue_0   (l1 : Int32) (s : fS) : Option (Int32 × fS) := (bif decide (¬ (gI s 81 2) = (45 : Int32)) then f_X2_readValue_31 l1 (0 : Int32) (sI s 80 11 (gI s (gadr (gP2 s) + 1) 1)) else f_X2_readValue_31 l1 (1 : Int32) (sI s 80 11 (gI s (gadr (gP2 s) + 1) 1)))
theorem g_X2_readValue_0 (LS : Nat) (xs : Nat → Int32) (d : Nat) (hd : 3 ≤ d)     (l1 : Int32)  (s : fS) : fo cvI t_X2_readValue LS xs (mi_call mi_ms false LS xs d) (0, [some (.ref 80), some (.int l1), none], [], enc s) (f_X2_readValue_0 l1 s) := by
  unfold f_X2_readValue_0
  refine fo_st rfl rfl ?_
  refine fo_st rfl rfl ?_
  refine fo_get rfl (eg_2 _) rfl ?_
  refine fo_get rfl (eg_gr _ _) rfl ?_
  refine fo_get rfl (eg_row _ (gk_1 _)) rfl ?_
  refine fo_put rfl (eg_2 _) rfl rfl (es_2_11 _ _) ?_
  refine fo_st rfl rfl ?_
  refine fo_get rfl (eg_2 _) rfl ?_
  refine fo_get rfl (eg_0 _) rfl ?_
  refine fo_st rfl rfl ?_
  refine fo_b rfl rfl ?_ ?_
  · refine fo_st rfl rfl ?_
    exact g_X2_readValue_31 LS xs d hd _ _ _
  · refine fo_st rfl rfl ?_
    refine fo_st rfl rfl ?_
    exact g_X2_readValue_31 LS xs d hd _ _ _
def f_X2_readValue (l1 : Int32) (s : fS) : Option (Int32 × fS) := f_X2_readValue_0 l1 s
theorem c_X2_readValue (LS : Nat) (xs : Nat → Int32) (d : Nat) (hd : 4 ≤ d) (l1 : Int32)  (s : fS) : fm mi_ms cvI LS xs d 35 [.ref 80, .int l1] (enc s) (f_X2_readValue l1 s) := by
  obtain ⟨e, rfl⟩ : ∃ e, d = e + 1 := ⟨d - 1, by omega⟩
  exact fm_of (M := m_X2_readValue) rfl rfl (fun _ => ⟨_, rfl⟩) (g_X2_readValue_0 LS xs e (by omega) l1 s)
def f_X2_thousandthsRead_135   (l1 : Int32) (l2 : Int32) (l3 : Int32) (l4 : Int32) (t0 : Int32) (s : fS) : Option (Int32 × fS) := some (t0, s)
theorem g_X2_thousandthsRead_135 (LS : Nat) (xs : Nat → Int32) (d : Nat) (hd : 1 ≤ d)     (l1 : Int32) (l2 : Int32) (l3 : Int32) (l4 : Int32) (t0 : Int32) (d5 : Option Value) (s : fS) : fo cvI t_X2_thousandthsRead LS xs (mi_call mi_ms false LS xs d) (135, [some (.ref 80), some (.int l1), some (.int l2), some (.int l3), some (.int l4), d5], [.int t0], enc s) (f_X2_thousandthsRead_135 l1 l2 l3 l4 t0 s) := by
  unfold f_X2_thousandthsRead_135
  exact fo_ret rfl rfl rfl
def f_X2_thousandthsRead_93   : Nat → Int32 → Int32 → Int32 → Int32 → fS → Option (Int32 × fS)
  | 0, _, _, _, _, _ => none
  | n + 1, l1, l2, l3, l4, s => (bif decide ((3 : Int32) ≤ l4) then ((f_X3_at (gadr (gP2 s) + 1) (gI s 80 11) s).bind fun qx1 => (bif decide (¬ qx1.1 = (45 : Int32)) then f_X2_thousandthsRead_135 l1 l2 l3 l4 l1 qx1.2 else f_X2_thousandthsRead_135 l1 l2 l3 l4 (-l1) qx1.2)) else f_X2_thousandthsRead_93 n (l1 * (10 : Int32)) l2 l3 (l4 + Int32.ofInt (1)) s)
theorem g_X2_thousandthsRead_93 (LS : Nat) (xs : Nat → Int32) (d : Nat) (hd : 1 ≤ d)     (n : Nat) : ∀ (l1 : Int32) (l2 : Int32) (l3 : Int32) (l4 : Int32) (d5 : Option Value) (s : fS), fo cvI t_X2_thousandthsRead LS xs (mi_call mi_ms false LS xs d) (93, [some (.ref 80), some (.int l1), some (.int l2), some (.int l3), some (.int l4), d5], [], enc s) (f_X2_thousandthsRead_93 n l1 l2 l3 l4 s) := by
  induction n with
  | zero => intro l1 l2 l3 l4 d5 s; exact fo_none
  | succ n ih =>
    intro l1 l2 l3 l4 d5 s
    rw [f_X2_thousandthsRead_93]
    refine fo_st rfl rfl ?_
    refine fo_st rfl rfl ?_
    refine fo_b rfl rfl ?_ ?_
    · refine fo_st rfl rfl ?_
      refine fo_get rfl (eg_2 _) rfl ?_
      refine fo_get rfl (eg_gr _ _) rfl ?_
      refine fo_st rfl rfl ?_
      refine fo_get rfl (eg_2 _) rfl ?_
      refine fo_callI (As := [.ref (gadr (gP2 s) + 1), .int (gI s 80 11)]) (rest := []) rfl rfl rfl rfl (mi_rcv_of (eg_row _ (gk_1 _))) (c_X3_at LS xs d (by omega) _ _ (gk_1 _) _) (fun qx1 => ?_)
      refine fo_st rfl rfl ?_
      refine fo_b rfl rfl ?_ ?_
      · refine fo_st rfl rfl ?_
        exact g_X2_thousandthsRead_135 LS xs d hd _ _ _ _ _ _ _
      · refine fo_st rfl rfl ?_
        refine fo_st rfl rfl ?_
        refine fo_st rfl rfl ?_
        exact g_X2_thousandthsRead_135 LS xs d hd _ _ _ _ _ _ _
    · refine fo_st rfl rfl ?_
      refine fo_st rfl rfl ?_
      refine fo_st rfl rfl ?_
      refine fo_st rfl rfl ?_
      refine fo_st rfl rfl ?_
      refine fo_st rfl rfl ?_
      exact ih _ _ _ _ _ _
def f_X2_thousandthsRead_84  (r12 : Int32 → Int32 → Int32 → Int32 → fS → Option (Int32 × fS)) (l1 : Int32) (l2 : Int32) (l3 : Int32) (l4 : Int32) (l5 : Int32) (s : fS) : Option (Int32 × fS) := r12 l1 l2 l3 (l4 + Int32.ofInt (1)) s
theorem g_X2_thousandthsRead_84 (LS : Nat) (xs : Nat → Int32) (d : Nat) (hd : 1 ≤ d)   (r12 : Int32 → Int32 → Int32 → Int32 → fS → Option (Int32 × fS)) (q12 : ∀ (l1 : Int32) (l2 : Int32) (l3 : Int32) (l4 : Int32) (d5 : Option Value) (s : fS), fo cvI t_X2_thousandthsRead LS xs (mi_call mi_ms false LS xs d) (12, [some (.ref 80), some (.int l1), some (.int l2), some (.int l3), some (.int l4), d5], [], enc s) (r12 l1 l2 l3 l4 s)) (l1 : Int32) (l2 : Int32) (l3 : Int32) (l4 : Int32) (l5 : Int32)  (s : fS) : fo cvI t_X2_thousandthsRead LS xs (mi_call mi_ms false LS xs d) (84, [some (.ref 80), some (.int l1), some (.int l2), some (.int l3), some (.int l4), some (.int l5)], [], enc s) (f_X2_thousandthsRead_84 r12 l1 l2 l3 l4 l5 s) := by
  unfold f_X2_thousandthsRead_84
  refine fo_st rfl rfl ?_
  refine fo_st rfl rfl ?_
  exact q12 _ _ _ _ _ _
def f_X2_thousandthsRead_83  (r12 : Int32 → Int32 → Int32 → Int32 → fS → Option (Int32 × fS)) (l1 : Int32) (l2 : Int32) (l3 : Int32) (l4 : Int32) (l5 : Int32) (t0 : Int32) (s : fS) : Option (Int32 × fS) := f_X2_thousandthsRead_84 r12 l1 t0 l3 l4 l5 s
theorem g_X2_thousandthsRead_83 (LS : Nat) (xs : Nat → Int32) (d : Nat) (hd : 1 ≤ d)   (r12 : Int32 → Int32 → Int32 → Int32 → fS → Option (Int32 × fS)) (q12 : ∀ (l1 : Int32) (l2 : Int32) (l3 : Int32) (l4 : Int32) (d5 : Option Value) (s : fS), fo cvI t_X2_thousandthsRead LS xs (mi_call mi_ms false LS xs d) (12, [some (.ref 80), some (.int l1), some (.int l2), some (.int l3), some (.int l4), d5], [], enc s) (r12 l1 l2 l3 l4 s)) (l1 : Int32) (l2 : Int32) (l3 : Int32) (l4 : Int32) (l5 : Int32) (t0 : Int32)  (s : fS) : fo cvI t_X2_thousandthsRead LS xs (mi_call mi_ms false LS xs d) (83, [some (.ref 80), some (.int l1), some (.int l2), some (.int l3), some (.int l4), some (.int l5)], [.int t0], enc s) (f_X2_thousandthsRead_83 r12 l1 l2 l3 l4 l5 t0 s) := by
  unfold f_X2_thousandthsRead_83
  refine fo_st rfl rfl ?_
  exact g_X2_thousandthsRead_84 LS xs d hd _ q12 _ _ _ _ _ _
def f_X2_thousandthsRead_12   : Nat → Int32 → Int32 → Int32 → Int32 → fS → Option (Int32 × fS)
  | 0, _, _, _, _, _ => none
  | n + 1, l1, l2, l3, l4, s => (bif decide ((gI s (gadr (gP2 s) + 1) 1) ≤ l4) then f_X2_thousandthsRead_93 fuel l1 l2 l3 l2 s else ((f_X3_at (gadr (gP2 s) + 1) l4 s).bind fun qx1 => (bif decide (¬ qx1.1 = (46 : Int32)) then ((f_X6_isFigure qx1.1 qx1.2).bind fun qx2 => (bif decide (qx2.1 = 0) then f_X2_thousandthsRead_84 (fun l1' l2' l3' l4' s' => f_X2_thousandthsRead_12 n l1' l2' l3' l4' s') l1 l2 l3 l4 qx1.1 qx2.2 else (bif decide (l3 = 0) then f_X2_thousandthsRead_83 (fun l1' l2' l3' l4' s' => f_X2_thousandthsRead_12 n l1' l2' l3' l4' s') ((l1 * (10 : Int32)) + (qx1.1 - (48 : Int32))) l2 l3 l4 qx1.1 (0 : Int32) qx2.2 else f_X2_thousandthsRead_83 (fun l1' l2' l3' l4' s' => f_X2_thousandthsRead_12 n l1' l2' l3' l4' s') ((l1 * (10 : Int32)) + (qx1.1 - (48 : Int32))) l2 l3 l4 qx1.1 (l2 + (1 : Int32)) qx2.2))) else f_X2_thousandthsRead_84 (fun l1' l2' l3' l4' s' => f_X2_thousandthsRead_12 n l1' l2' l3' l4' s') l1 l2 (1 : Int32) l4 qx1.1 qx1.2)))
theorem g_X2_thousandthsRead_12 (LS : Nat) (xs : Nat → Int32) (d : Nat) (hd : 1 ≤ d)     (n : Nat) : ∀ (l1 : Int32) (l2 : Int32) (l3 : Int32) (l4 : Int32) (d5 : Option Value) (s : fS), fo cvI t_X2_thousandthsRead LS xs (mi_call mi_ms false LS xs d) (12, [some (.ref 80), some (.int l1), some (.int l2), some (.int l3), some (.int l4), d5], [], enc s) (f_X2_thousandthsRead_12 n l1 l2 l3 l4 s) := by
  induction n with
  | zero => intro l1 l2 l3 l4 d5 s; exact fo_none
  | succ n ih =>
    intro l1 l2 l3 l4 d5 s
    rw [f_X2_thousandthsRead_12]
    refine fo_st rfl rfl ?_
    refine fo_st rfl rfl ?_
    refine fo_get rfl (eg_2 _) rfl ?_
    refine fo_get rfl (eg_gr _ _) rfl ?_
    refine fo_get rfl (eg_row _ (gk_1 _)) rfl ?_
    refine fo_b rfl rfl ?_ ?_
    · refine fo_st rfl rfl ?_
      refine fo_st rfl rfl ?_
      exact g_X2_thousandthsRead_93 LS xs d hd fuel _ _ _ _ _ _
    · refine fo_st rfl rfl ?_
      refine fo_get rfl (eg_2 _) rfl ?_
      refine fo_get rfl (eg_gr _ _) rfl ?_
      refine fo_st rfl rfl ?_
      refine fo_callI (As := [.ref (gadr (gP2 s) + 1), .int l4]) (rest := []) rfl rfl rfl rfl (mi_rcv_of (eg_row _ (gk_1 _))) (c_X3_at LS xs d (by omega) _ _ (gk_1 _) _) (fun qx1 => ?_)
      refine fo_std rfl rfl rfl rfl rfl ?_
      refine fo_st rfl rfl ?_
      refine fo_st rfl rfl ?_
      refine fo_b rfl rfl ?_ ?_
      · refine fo_st rfl rfl ?_
        refine fo_callI (As := [.int qx1.1]) (rest := []) rfl rfl rfl rfl True.intro (c_X6_isFigure LS xs d (by omega) _ _) (fun qx2 => ?_)
        refine fo_b rfl rfl ?_ ?_
        · exact g_X2_thousandthsRead_84 LS xs d hd _ ih _ _ _ _ _ _
        · refine fo_st rfl rfl ?_
          refine fo_st rfl rfl ?_
          refine fo_st rfl rfl ?_
          refine fo_st rfl rfl ?_
          refine fo_st rfl rfl ?_
          refine fo_st rfl rfl ?_
          refine fo_st rfl rfl ?_
          refine fo_st rfl rfl ?_
          refine fo_st rfl rfl ?_
          refine fo_b rfl rfl ?_ ?_
          · refine fo_st rfl rfl ?_
            exact g_X2_thousandthsRead_83 LS xs d hd _ ih _ _ _ _ _ _ _
          · refine fo_st rfl rfl ?_
            refine fo_st rfl rfl ?_
            refine fo_st rfl rfl ?_
            refine fo_st rfl rfl ?_
            exact g_X2_thousandthsRead_83 LS xs d hd _ ih _ _ _ _ _ _ _
      · refine fo_st rfl rfl ?_
        refine fo_st rfl rfl ?_
        refine fo_st rfl rfl ?_
        exact g_X2_thousandthsRead_84 LS xs d hd _ ih _ _ _ _ _ _
def f_X2_thousandthsRead_0    (s : fS) : Option (Int32 × fS) := f_X2_thousandthsRead_12 fuel (0 : Int32) (0 : Int32) (0 : Int32) (gI s 80 11) s
theorem g_X2_thousandthsRead_0 (LS : Nat) (xs : Nat → Int32) (d : Nat) (hd : 1 ≤ d)       (s : fS) : fo cvI t_X2_thousandthsRead LS xs (mi_call mi_ms false LS xs d) (0, [some (.ref 80), none, none, none, none, none], [], enc s) (f_X2_thousandthsRead_0 s) := by
  unfold f_X2_thousandthsRead_0
  refine fo_st rfl rfl ?_
  refine fo_st rfl rfl ?_
  refine fo_st rfl rfl ?_
  refine fo_st rfl rfl ?_
  refine fo_st rfl rfl ?_
  refine fo_st rfl rfl ?_
  refine fo_st rfl rfl ?_
  refine fo_get rfl (eg_2 _) rfl ?_
  refine fo_st rfl rfl ?_
  exact g_X2_thousandthsRead_12 LS xs d hd fuel _ _ _ _ _ _
def f_X2_thousandthsRead  (s : fS) : Option (Int32 × fS) := f_X2_thousandthsRead_0 s
theorem c_X2_thousandthsRead (LS : Nat) (xs : Nat → Int32) (d : Nat) (hd : 2 ≤ d)   (s : fS) : fm mi_ms cvI LS xs d 40 [.ref 80] (enc s) (f_X2_thousandthsRead  s) := by
  obtain ⟨e, rfl⟩ : ∃ e, d = e + 1 := ⟨d - 1, by omega⟩
  exact fm_of (M := m_X2_thousandthsRead) rfl rfl (fun _ => ⟨_, rfl⟩) (g_X2_thousandthsRead_0 LS xs e (by omega) s)
theorem p_X2_thousandthsRead_135    (l1 : Int32) (l2 : Int32) (l3 : Int32) (l4 : Int32) (t0 : Int32) (s : fS) : pu s (f_X2_thousandthsRead_135 l1 l2 l3 l4 t0 s) := by
  unfold f_X2_thousandthsRead_135
  exact pu_some rfl
theorem p_X2_thousandthsRead_93    (n : Nat) : ∀ (l1 : Int32) (l2 : Int32) (l3 : Int32) (l4 : Int32) (s : fS), pu s (f_X2_thousandthsRead_93 n l1 l2 l3 l4 s) := by
  induction n with
  | zero => intro l1 l2 l3 l4 s; exact pu_none
  | succ n ih =>
    intro l1 l2 l3 l4 s
    rw [f_X2_thousandthsRead_93]
    refine pu_b ?_ ?_
    · refine pu_bind (p_X3_at _ _ _) (fun v => ?_)
      refine pu_b ?_ ?_
      · exact p_X2_thousandthsRead_135 _ _ _ _ _ _
      · exact p_X2_thousandthsRead_135 _ _ _ _ _ _
    · exact ih _ _ _ _ _
theorem p_X2_thousandthsRead_84  (r12 : Int32 → Int32 → Int32 → Int32 → fS → Option (Int32 × fS)) (q12 : ∀ (l1 : Int32) (l2 : Int32) (l3 : Int32) (l4 : Int32) (s : fS), pu s (r12 l1 l2 l3 l4 s)) (l1 : Int32) (l2 : Int32) (l3 : Int32) (l4 : Int32) (l5 : Int32) (s : fS) : pu s (f_X2_thousandthsRead_84 r12 l1 l2 l3 l4 l5 s) := by
  unfold f_X2_thousandthsRead_84
  exact q12 _ _ _ _ _
theorem p_X2_thousandthsRead_83  (r12 : Int32 → Int32 → Int32 → Int32 → fS → Option (Int32 × fS)) (q12 : ∀ (l1 : Int32) (l2 : Int32) (l3 : Int32) (l4 : Int32) (s : fS), pu s (r12 l1 l2 l3 l4 s)) (l1 : Int32) (l2 : Int32) (l3 : Int32) (l4 : Int32) (l5 : Int32) (t0 : Int32) (s : fS) : pu s (f_X2_thousandthsRead_83 r12 l1 l2 l3 l4 l5 t0 s) := by
  unfold f_X2_thousandthsRead_83
  exact p_X2_thousandthsRead_84 _ q12 _ _ _ _ _ _
theorem p_X2_thousandthsRead_12    (n : Nat) : ∀ (l1 : Int32) (l2 : Int32) (l3 : Int32) (l4 : Int32) (s : fS), pu s (f_X2_thousandthsRead_12 n l1 l2 l3 l4 s) := by
  induction n with
  | zero => intro l1 l2 l3 l4 s; exact pu_none
  | succ n ih =>
    intro l1 l2 l3 l4 s
    rw [f_X2_thousandthsRead_12]
    refine pu_b ?_ ?_
    · exact p_X2_thousandthsRead_93 fuel _ _ _ _ _
    · refine pu_bind (p_X3_at _ _ _) (fun v => ?_)
      refine pu_b ?_ ?_
      · refine pu_bind (p_X6_isFigure _ _) (fun v => ?_)
        refine pu_b ?_ ?_
        · exact p_X2_thousandthsRead_84 _ ih _ _ _ _ _ _
        · refine pu_b ?_ ?_
          · exact p_X2_thousandthsRead_83 _ ih _ _ _ _ _ _ _
          · exact p_X2_thousandthsRead_83 _ ih _ _ _ _ _ _ _
      · exact p_X2_thousandthsRead_84 _ ih _ _ _ _ _ _
theorem p_X2_thousandthsRead_0     (s : fS) : pu s (f_X2_thousandthsRead_0 s) := by
  unfold f_X2_thousandthsRead_0
  exact p_X2_thousandthsRead_12 fuel _ _ _ _ _
theorem p_X2_thousandthsRead  (s : fS) : pu s (f_X2_thousandthsRead  s) := p_X2_thousandthsRead_0 s
def f_X2_readValues_41   (l1 : Int32) (s : fS) : Option (Int32 × fS) := some ((0 : Int32), s)
theorem g_X2_readValues_41 (LS : Nat) (xs : Nat → Int32) (d : Nat) (hd : 4 ≤ d)     (l1 : Int32) (d2 : Option Value) (s : fS) : fo cvI t_X2_readValues LS xs (mi_call mi_ms false LS xs d) (41, [some (.ref 80), some (.int l1), d2], [], enc s) (f_X2_readValues_41 l1 s) := by
  unfold f_X2_readValues_41
  refine fo_st rfl rfl ?_
  exact fo_ret rfl rfl rfl
def f_X2_readValues_67  (r2 : Int32 → fS → Option (Int32 × fS)) (l1 : Int32) (t0 : Int32) (s : fS) : Option (Int32 × fS) := ((f_X1_addValue (gP2 s) (gI s 80 10) t0 (gI s 80 11) s).bind fun qx1 => r2 (l1 + Int32.ofInt (1)) qx1)
theorem g_X2_readValues_67 (LS : Nat) (xs : Nat → Int32) (d : Nat) (hd : 4 ≤ d)   (r2 : Int32 → fS → Option (Int32 × fS)) (q2 : ∀ (l1 : Int32) (d2 : Option Value) (s : fS), fo cvI t_X2_readValues LS xs (mi_call mi_ms false LS xs d) (2, [some (.ref 80), some (.int l1), d2], [], enc s) (r2 l1 s)) (l1 : Int32) (t0 : Int32) (d2 : Option Value) (s : fS) : fo cvI t_X2_readValues LS xs (mi_call mi_ms false LS xs d) (67, [some (.ref 80), some (.int l1), d2], [.int t0], enc s) (f_X2_readValues_67 r2 l1 t0 s) := by
  unfold f_X2_readValues_67
  refine fo_std rfl rfl rfl rfl rfl ?_
  refine fo_st rfl rfl ?_
  refine fo_get rfl (eg_2 _) rfl ?_
  refine fo_st rfl rfl ?_
  refine fo_get rfl (eg_2 _) rfl ?_
  refine fo_st rfl rfl ?_
  refine fo_st rfl rfl ?_
  refine fo_get rfl (eg_2 _) rfl ?_
  refine fo_callV (As := [.ref (gadr (gP2 s)), .int (gI s 80 10), .int t0, .int (gI s 80 11)]) (rest := []) rfl rfl rfl rfl (mi_rcv_of (eg_gr _ _)) (c_X1_addValue LS xs d (by omega) _ _ _ _ _) (fun qx1 => ?_)
  refine fo_st rfl rfl ?_
  refine fo_st rfl rfl ?_
  exact q2 _ _ _
def f_X2_readValues_59  (r2 : Int32 → fS → Option (Int32 × fS)) (l1 : Int32) (s : fS) : Option (Int32 × fS) := ((f_X2_thousandthsRead s).bind fun qx1 => f_X2_readValues_67 r2 l1 qx1.1 qx1.2)
theorem g_X2_readValues_59 (LS : Nat) (xs : Nat → Int32) (d : Nat) (hd : 4 ≤ d)   (r2 : Int32 → fS → Option (Int32 × fS)) (q2 : ∀ (l1 : Int32) (d2 : Option Value) (s : fS), fo cvI t_X2_readValues LS xs (mi_call mi_ms false LS xs d) (2, [some (.ref 80), some (.int l1), d2], [], enc s) (r2 l1 s)) (l1 : Int32) (d2 : Option Value) (s : fS) : fo cvI t_X2_readValues LS xs (mi_call mi_ms false LS xs d) (59, [some (.ref 80), some (.int l1), d2], [], enc s) (f_X2_readValues_59 r2 l1 s) := by
  unfold f_X2_readValues_59
  refine fo_st rfl rfl ?_
  refine fo_callI (As := [.ref 80]) (rest := []) rfl rfl rfl rfl (mi_rcv_of (eg_2 _)) (c_X2_thousandthsRead LS xs d (by omega)  _) (fun qx1 => ?_)
  refine fo_st rfl rfl ?_
  exact g_X2_readValues_67 LS xs d hd _ q2 _ _ _ _
def f_X2_readValues_2   : Nat → Int32 → fS → Option (Int32 × fS)
  | 0, _, _ => none
  | n + 1, l1, s => (bif decide ((gI s (gadr (gP2 s) + 18) 1) ≤ l1) then some ((1 : Int32), s) else ((f_X2_readGap s).bind fun qx1 => (bif decide (qx1.1 = 0) then f_X2_readValues_41 l1 qx1.2 else ((f_X3_at (gadr (gP2 qx1.2) + 18) l1 qx1.2).bind fun qx2 => ((f_X2_readValue qx2.1 qx2.2).bind fun qx3 => (bif decide (¬ qx3.1 = 0) then (bif decide ((gI qx3.2 80 10) = (1 : Int32)) then f_X2_readValues_59 (fun l1' s' => f_X2_readValues_2 n l1' s') l1 qx3.2 else (bif decide (¬ (gI qx3.2 80 10) = (2 : Int32)) then f_X2_readValues_67 (fun l1' s' => f_X2_readValues_2 n l1' s') l1 (0 : Int32) qx3.2 else f_X2_readValues_59 (fun l1' s' => f_X2_readValues_2 n l1' s') l1 qx3.2)) else f_X2_readValues_41 l1 qx3.2))))))
theorem g_X2_readValues_2 (LS : Nat) (xs : Nat → Int32) (d : Nat) (hd : 4 ≤ d)     (n : Nat) : ∀ (l1 : Int32) (d2 : Option Value) (s : fS), fo cvI t_X2_readValues LS xs (mi_call mi_ms false LS xs d) (2, [some (.ref 80), some (.int l1), d2], [], enc s) (f_X2_readValues_2 n l1 s) := by
  induction n with
  | zero => intro l1 d2 s; exact fo_none
  | succ n ih =>
    intro l1 d2 s
    rw [f_X2_readValues_2]
    refine fo_st rfl rfl ?_
    refine fo_st rfl rfl ?_
    refine fo_get rfl (eg_2 _) rfl ?_
    refine fo_get rfl (eg_gr _ _) rfl ?_
    refine fo_get rfl (eg_row _ (gk_18 _)) rfl ?_
    refine fo_b rfl rfl ?_ ?_
    · refine fo_st rfl rfl ?_
      exact fo_ret rfl rfl rfl
    · refine fo_st rfl rfl ?_
      refine fo_callI (As := [.ref 80]) (rest := []) rfl rfl rfl rfl (mi_rcv_of (eg_2 _)) (c_X2_readGap LS xs d (by omega)  _) (fun qx1 => ?_)
      refine fo_b rfl rfl ?_ ?_
      · exact g_X2_readValues_41 LS xs d hd _ _ _
      · refine fo_st rfl rfl ?_
        refine fo_st rfl rfl ?_
        refine fo_get rfl (eg_2 _) rfl ?_
        refine fo_get rfl (eg_gr _ _) rfl ?_
        refine fo_st rfl rfl ?_
        refine fo_callI (As := [.ref (gadr (gP2 qx1.2) + 18), .int l1]) (rest := [.ref 80]) rfl rfl rfl rfl (mi_rcv_of (eg_row _ (gk_18 _))) (c_X3_at LS xs d (by omega) _ _ (gk_18 _) _) (fun qx2 => ?_)
        refine fo_callI (As := [.ref 80, .int qx2.1]) (rest := []) rfl rfl rfl rfl (mi_rcv_of (eg_2 _)) (c_X2_readValue LS xs d (by omega) _ _) (fun qx3 => ?_)
        refine fo_b rfl rfl ?_ ?_
        · refine fo_st rfl rfl ?_
          refine fo_get rfl (eg_2 _) rfl ?_
          refine fo_st rfl rfl ?_
          refine fo_b rfl rfl ?_ ?_
          · exact g_X2_readValues_59 LS xs d hd _ ih _ _ _
          · refine fo_st rfl rfl ?_
            refine fo_get rfl (eg_2 _) rfl ?_
            refine fo_st rfl rfl ?_
            refine fo_b rfl rfl ?_ ?_
            · refine fo_st rfl rfl ?_
              exact g_X2_readValues_67 LS xs d hd _ ih _ _ _ _
            · exact g_X2_readValues_59 LS xs d hd _ ih _ _ _
        · exact g_X2_readValues_41 LS xs d hd _ _ _
def f_X2_readValues_0    (s : fS) : Option (Int32 × fS) := f_X2_readValues_2 fuel (0 : Int32) s
theorem g_X2_readValues_0 (LS : Nat) (xs : Nat → Int32) (d : Nat) (hd : 4 ≤ d)       (s : fS) : fo cvI t_X2_readValues LS xs (mi_call mi_ms false LS xs d) (0, [some (.ref 80), none, none], [], enc s) (f_X2_readValues_0 s) := by
  unfold f_X2_readValues_0
  refine fo_st rfl rfl ?_
  refine fo_st rfl rfl ?_
  exact g_X2_readValues_2 LS xs d hd fuel _ _ _
def f_X2_readValues  (s : fS) : Option (Int32 × fS) := f_X2_readValues_0 s
theorem c_X2_readValues (LS : Nat) (xs : Nat → Int32) (d : Nat) (hd : 5 ≤ d)   (s : fS) : fm mi_ms cvI LS xs d 34 [.ref 80] (enc s) (f_X2_readValues  s) := by
  obtain ⟨e, rfl⟩ : ∃ e, d = e + 1 := ⟨d - 1, by omega⟩
  exact fm_of (M := m_X2_readValues) rfl rfl (fun _ => ⟨_, rfl⟩) (g_X2_readValues_0 LS xs e (by omega) s)
def f_X2_readLine_99   (t0 : Int32) (s : fS) : Option (Int32 × fS) := fchk (fbl t0) (some (t0, s))
theorem g_X2_readLine_99 (LS : Nat) (xs : Nat → Int32) (d : Nat) (hd : 5 ≤ d)     (t0 : Int32)  (s : fS) : fo cvI t_X2_readLine LS xs (mi_call mi_ms false LS xs d) (99, [some (.ref 80)], [.int t0], enc s) (f_X2_readLine_99 t0 s) := by
  unfold f_X2_readLine_99
  exact fo_ret2 rfl rfl
def f_X2_readLine_98    (s : fS) : Option (Int32 × fS) := f_X2_readLine_99 (0 : Int32) s
theorem g_X2_readLine_98 (LS : Nat) (xs : Nat → Int32) (d : Nat) (hd : 5 ≤ d)       (s : fS) : fo cvI t_X2_readLine LS xs (mi_call mi_ms false LS xs d) (98, [some (.ref 80)], [], enc s) (f_X2_readLine_98 s) := by
  unfold f_X2_readLine_98
  refine fo_st rfl rfl ?_
  exact g_X2_readLine_99 LS xs d hd _ _
def f_X2_readLine_0    (s : fS) : Option (Int32 × fS) := ((f_X0_skipBlanks s).bind fun qx1 => (bif decide ((gI qx1 81 2).toInt = -1) then some ((1 : Int32), qx1) else (bif decide ((gI qx1 81 2).toInt = 33) then ((f_X2_readCount qx1).bind fun qx2 => fchk (fbl qx2.1) (some (qx2.1, qx2.2))) else (bif decide ((gI qx1 81 2).toInt = 35) then ((f_X2_readComment qx1).bind fun qx3 => fchk (fbl qx3.1) (some (qx3.1, qx3.2))) else (bif decide ((gI qx1 81 2).toInt = 37) then ((f_X2_readHead qx1).bind fun qx4 => fchk (fbl qx4.1) (some (qx4.1, qx4.2))) else ((f_X2_readEnds qx1).bind fun qx5 => (bif decide (qx5.1 = 0) then f_X2_readLine_98 qx5.2 else ((f_X2_readValues qx5.2).bind fun qx6 => (bif decide (qx6.1 = 0) then f_X2_readLine_98 qx6.2 else ((f_X2_endArc qx6.2).bind fun qx7 => (bif decide (qx7.1 = 0) then f_X2_readLine_98 qx7.2 else f_X2_readLine_99 (1 : Int32) qx7.2)))))))))))
theorem g_X2_readLine_0 (LS : Nat) (xs : Nat → Int32) (d : Nat) (hd : 5 ≤ d)       (s : fS) : fo cvI t_X2_readLine LS xs (mi_call mi_ms false LS xs d) (0, [some (.ref 80)], [], enc s) (f_X2_readLine_0 s) := by
  unfold f_X2_readLine_0
  refine fo_st rfl rfl ?_
  refine fo_get rfl (eg_2 _) rfl ?_
  refine fo_callV (As := [.ref 81]) (rest := []) rfl rfl rfl rfl (mi_rcv_of (eg_0 _)) (c_X0_skipBlanks LS xs d (by omega)  _) (fun qx1 => ?_)
  refine fo_st rfl rfl ?_
  refine fo_get rfl (eg_2 _) rfl ?_
  refine fo_get rfl (eg_0 _) rfl ?_
  refine fo_sw rfl ?_
  refine fo_lk ?_ ?_
  · refine fo_st rfl rfl ?_
    exact fo_ret rfl rfl rfl
  · refine fo_lk ?_ ?_
    · refine fo_st rfl rfl ?_
      refine fo_callI (As := [.ref 80]) (rest := []) rfl rfl rfl rfl (mi_rcv_of (eg_2 _)) (c_X2_readCount LS xs d (by omega)  _) (fun qx2 => ?_)
      exact fo_ret2 rfl rfl
    · refine fo_lk ?_ ?_
      · refine fo_st rfl rfl ?_
        refine fo_callI (As := [.ref 80]) (rest := []) rfl rfl rfl rfl (mi_rcv_of (eg_2 _)) (c_X2_readComment LS xs d (by omega)  _) (fun qx3 => ?_)
        exact fo_ret2 rfl rfl
      · refine fo_lk ?_ ?_
        · refine fo_st rfl rfl ?_
          refine fo_callI (As := [.ref 80]) (rest := []) rfl rfl rfl rfl (mi_rcv_of (eg_2 _)) (c_X2_readHead LS xs d (by omega)  _) (fun qx4 => ?_)
          exact fo_ret2 rfl rfl
        · show fo _ _ _ _ _ (73, _, _, _) _
          refine fo_st rfl rfl ?_
          refine fo_callI (As := [.ref 80]) (rest := []) rfl rfl rfl rfl (mi_rcv_of (eg_2 _)) (c_X2_readEnds LS xs d (by omega)  _) (fun qx5 => ?_)
          refine fo_b rfl rfl ?_ ?_
          · exact g_X2_readLine_98 LS xs d hd _
          · refine fo_st rfl rfl ?_
            refine fo_callI (As := [.ref 80]) (rest := []) rfl rfl rfl rfl (mi_rcv_of (eg_2 _)) (c_X2_readValues LS xs d (by omega)  _) (fun qx6 => ?_)
            refine fo_b rfl rfl ?_ ?_
            · exact g_X2_readLine_98 LS xs d hd _
            · refine fo_st rfl rfl ?_
              refine fo_callI (As := [.ref 80]) (rest := []) rfl rfl rfl rfl (mi_rcv_of (eg_2 _)) (c_X2_endArc LS xs d (by omega)  _) (fun qx7 => ?_)
              refine fo_b rfl rfl ?_ ?_
              · exact g_X2_readLine_98 LS xs d hd _
              · refine fo_st rfl rfl ?_
                refine fo_st rfl rfl ?_
                exact g_X2_readLine_99 LS xs d hd _ _
def f_X2_readLine  (s : fS) : Option (Int32 × fS) := f_X2_readLine_0 s
theorem c_X2_readLine (LS : Nat) (xs : Nat → Int32) (d : Nat) (hd : 6 ≤ d)   (s : fS) : fm mi_ms cvI LS xs d 25 [.ref 80] (enc s) (f_X2_readLine  s) := by
  obtain ⟨e, rfl⟩ : ∃ e, d = e + 1 := ⟨d - 1, by omega⟩
  exact fm_of (M := m_X2_readLine) rfl rfl (fun _ => ⟨_, rfl⟩) (g_X2_readLine_0 LS xs e (by omega) s)
end FM3
