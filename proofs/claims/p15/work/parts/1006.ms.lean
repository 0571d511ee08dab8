section FM6
def f_X7_here_38   (t0 : Int32) (s : fS) : Option (Int32 × fS) := some (t0, s)
theorem g_X7_here_38 (LS : Nat) (xs : Nat → Int32) (d : Nat) (hd : 0 ≤ d)     (t0 : Int32)  (s : fS) : fo cvI t_X7_here LS xs (mi_call mi_ms false LS xs d) (38, [some (.ref 82)], [.int t0], enc s) (f_X7_here_38 t0 s) := by
  unfold f_X7_here_38
  exact fo_ret rfl rfl rfl
def f_X7_here_37    (s : fS) : Option (Int32 × fS) := f_X7_here_38 (-1 : Int32) s
theorem g_X7_here_37 (LS : Nat) (xs : Nat → Int32) (d : Nat) (hd : 0 ≤ d)       (s : fS) : fo cvI t_X7_here LS xs (mi_call mi_ms false LS xs d) (37, [some (.ref 82)], [], enc s) (f_X7_here_37 s) := by
  unfold f_X7_here_37
  refine fo_st rfl rfl ?_
  exact g_X7_here_38 LS xs d hd _ _
def f_X7_here_0    (s : fS) : Option (Int32 × fS) := (bif decide ((gI s 82 2) ≤ (gI s 82 27)) then f_X7_here_37 s else fchk (mi_in (gI s 82 27) (gA s 83).length) ((bif decide (((gA s 83).getD (gI s 82 27).toNatClampNeg 0) = (10 : Int32)) then f_X7_here_37 s else fchk (mi_in (gI s 82 27) (gA s 83).length) (f_X7_here_38 ((gA s 83).getD (gI s 82 27).toNatClampNeg 0) s))))
theorem g_X7_here_0 (LS : Nat) (xs : Nat → Int32) (d : Nat) (hd : 0 ≤ d)       (s : fS) : fo cvI t_X7_here LS xs (mi_call mi_ms false LS xs d) (0, [some (.ref 82)], [], enc s) (f_X7_here_0 s) := by
  unfold f_X7_here_0
  refine fo_st rfl rfl ?_
  refine fo_get rfl (eg_7 _) rfl ?_
  refine fo_st rfl rfl ?_
  refine fo_get rfl (eg_7 _) rfl ?_
  refine fo_b rfl rfl ?_ ?_
  · exact g_X7_here_37 LS xs d hd _
  · refine fo_st rfl rfl ?_
    refine fo_get rfl (eg_7 _) rfl ?_
    refine fo_st rfl rfl ?_
    refine fo_get rfl (eg_7 _) rfl ?_
    refine fo_iald rfl (eg_ar _ rfl) ?_
    refine fo_st rfl rfl ?_
    refine fo_b rfl rfl ?_ ?_
    · exact g_X7_here_37 LS xs d hd _
    · refine fo_st rfl rfl ?_
      refine fo_get rfl (eg_7 _) rfl ?_
      refine fo_st rfl rfl ?_
      refine fo_get rfl (eg_7 _) rfl ?_
      refine fo_iald rfl (eg_ar _ rfl) ?_
      refine fo_st rfl rfl ?_
      exact g_X7_here_38 LS xs d hd _ _
def f_X7_here  (s : fS) : Option (Int32 × fS) := f_X7_here_0 s
theorem c_X7_here (LS : Nat) (xs : Nat → Int32) (d : Nat) (hd : 1 ≤ d)   (s : fS) : fm mi_ms cvI LS xs d 98 [.ref 82] (enc s) (f_X7_here  s) := by
  obtain ⟨e, rfl⟩ : ∃ e, d = e + 1 := ⟨d - 1, by omega⟩
  exact fm_of (M := m_X7_here) rfl rfl (fun _ => ⟨_, rfl⟩) (g_X7_here_0 LS xs e (by omega) s)
theorem p_X7_here_38    (t0 : Int32) (s : fS) : pu s (f_X7_here_38 t0 s) := by
  unfold f_X7_here_38
  exact pu_some rfl
theorem p_X7_here_37     (s : fS) : pu s (f_X7_here_37 s) := by
  unfold f_X7_here_37
  exact p_X7_here_38 _ _
theorem p_X7_here_0     (s : fS) : pu s (f_X7_here_0 s) := by
  unfold f_X7_here_0
  refine pu_b ?_ ?_
  · exact p_X7_here_37 _
  · refine pu_ck ?_
    refine pu_b ?_ ?_
    · exact p_X7_here_37 _
    · refine pu_ck ?_
      exact p_X7_here_38 _ _
theorem p_X7_here  (s : fS) : pu s (f_X7_here  s) := p_X7_here_0 s
def f_X7_wrong_17   (l1 : Int32) (l2 : Int32) (s : fS) : Option fS := some s
theorem g_X7_wrong_17 (LS : Nat) (xs : Nat → Int32) (d : Nat) (hd : 0 ≤ d)     (l1 : Int32) (l2 : Int32)  (s : fS) : fo cvV t_X7_wrong LS xs (mi_call mi_ms false LS xs d) (17, [some (.ref 82), some (.int l1), some (.int l2)], [], enc s) (f_X7_wrong_17 l1 l2 s) := by
  unfold f_X7_wrong_17
  exact fo_ret rfl rfl rfl
def f_X7_wrong_0   (l1 : Int32) (l2 : Int32) (s : fS) : Option fS := (bif decide (¬ (gI s 82 30) = 0) then f_X7_wrong_17 l1 l2 s else f_X7_wrong_17 l1 l2 (sI (sI s 82 30 l1) 82 31 l2))
theorem g_X7_wrong_0 (LS : Nat) (xs : Nat → Int32) (d : Nat) (hd : 0 ≤ d)     (l1 : Int32) (l2 : Int32)  (s : fS) : fo cvV t_X7_wrong LS xs (mi_call mi_ms false LS xs d) (0, [some (.ref 82), some (.int l1), some (.int l2)], [], enc s) (f_X7_wrong_0 l1 l2 s) := by
  unfold f_X7_wrong_0
  refine fo_st rfl rfl ?_
  refine fo_get rfl (eg_7 _) rfl ?_
  refine fo_b rfl rfl ?_ ?_
  · exact g_X7_wrong_17 LS xs d hd _ _ _
  · refine fo_st rfl rfl ?_
    refine fo_st rfl rfl ?_
    refine fo_put rfl (eg_7 _) rfl rfl (es_7_30 _ _) ?_
    refine fo_st rfl rfl ?_
    refine fo_st rfl rfl ?_
    refine fo_put rfl (eg_7 _) rfl rfl (es_7_31 _ _) ?_
    exact g_X7_wrong_17 LS xs d hd _ _ _
def f_X7_wrong (l1 : Int32) (l2 : Int32) (s : fS) : Option fS := f_X7_wrong_0 l1 l2 s
theorem c_X7_wrong (LS : Nat) (xs : Nat → Int32) (d : Nat) (hd : 1 ≤ d) (l1 : Int32) (l2 : Int32)  (s : fS) : fm mi_ms cvV LS xs d 99 [.ref 82, .int l1, .int l2] (enc s) (f_X7_wrong l1 l2 s) := by
  obtain ⟨e, rfl⟩ : ∃ e, d = e + 1 := ⟨d - 1, by omega⟩
  exact fm_of (M := m_X7_wrong) rfl rfl (fun _ => ⟨_, rfl⟩) (g_X7_wrong_0 LS xs e (by omega) l1 l2 s)
def f_X7_isFigure_0   (l0 : Int32) (s : fS) : Option (Int32 × fS) := ((f_X7_in l0 (48 : Int32) (57 : Int32) s).bind fun qx1 => fchk (fbl qx1.1) (some (qx1.1, qx1.2)))
theorem g_X7_isFigure_0 (LS : Nat) (xs : Nat → Int32) (d : Nat) (hd : 1 ≤ d)     (l0 : Int32)  (s : fS) : fo cvI t_X7_isFigure LS xs (mi_call mi_ms false LS xs d) (0, [some (.int l0)], [], enc s) (f_X7_isFigure_0 l0 s) := by
  unfold f_X7_isFigure_0
  refine fo_st rfl rfl ?_
  refine fo_st rfl rfl ?_
  refine fo_st rfl rfl ?_
  refine fo_callI (As := [.int l0, .int (48 : Int32), .int (57 : Int32)]) (rest := []) rfl rfl rfl rfl True.intro (c_X7_in LS xs d (by omega) _ _ _ _) (fun qx1 => ?_)
  exact fo_ret2 rfl rfl
def f_X7_isFigure (l0 : Int32) (s : fS) : Option (Int32 × fS) := f_X7_isFigure_0 l0 s
theorem c_X7_isFigure (LS : Nat) (xs : Nat → Int32) (d : Nat) (hd : 2 ≤ d) (l0 : Int32)  (s : fS) : fm mi_ms cvI LS xs d 100 [.int l0] (enc s) (f_X7_isFigure l0 s) := by
  obtain ⟨e, rfl⟩ : ∃ e, d = e + 1 := ⟨d - 1, by omega⟩
  exact fm_of (M := m_X7_isFigure) rfl rfl (fun _ => ⟨_, rfl⟩) (g_X7_isFigure_0 LS xs e (by omega) l0 s)
theorem p_X7_isFigure_0    (l0 : Int32) (s : fS) : pu s (f_X7_isFigure_0 l0 s) := by
  unfold f_X7_isFigure_0
  refine pu_bind (p_X7_in _ _ _ _) (fun v => ?_)
  refine pu_ck ?_
  exact pu_some rfl
theorem p_X7_isFigure (l0 : Int32) (s : fS) : pu s (f_X7_isFigure l0 s) := p_X7_isFigure_0 l0 s
def f_X7_isPlain_29   (l0 : Int32) (t0 : Int32) (s : fS) : Option (Int32 × fS) := fchk (fbl t0) (some (t0, s))
theorem g_X7_isPlain_29 (LS : Nat) (xs : Nat → Int32) (d : Nat) (hd : 2 ≤ d)     (l0 : Int32) (t0 : Int32)  (s : fS) : fo cvI t_X7_isPlain LS xs (mi_call mi_ms false LS xs d) (29, [some (.int l0)], [.int t0], enc s) (f_X7_isPlain_29 l0 t0 s) := by
  unfold f_X7_isPlain_29
  exact fo_ret2 rfl rfl
def f_X7_isPlain_24   (l0 : Int32) (s : fS) : Option (Int32 × fS) := f_X7_isPlain_29 l0 (1 : Int32) s
theorem g_X7_isPlain_24 (LS : Nat) (xs : Nat → Int32) (d : Nat) (hd : 2 ≤ d)     (l0 : Int32)  (s : fS) : fo cvI t_X7_isPlain LS xs (mi_call mi_ms false LS xs d) (24, [some (.int l0)], [], enc s) (f_X7_isPlain_24 l0 s) := by
  unfold f_X7_isPlain_24
  refine fo_st rfl rfl ?_
  refine fo_st rfl rfl ?_
  exact g_X7_isPlain_29 LS xs d hd _ _ _
def f_X7_isPlain_0   (l0 : Int32) (s : fS) : Option (Int32 × fS) := ((f_X7_isFigure l0 s).bind fun qx1 => (bif decide (¬ qx1.1 = 0) then f_X7_isPlain_24 l0 qx1.2 else ((f_X7_in l0 (97 : Int32) (122 : Int32) qx1.2).bind fun qx2 => (bif decide (¬ qx2.1 = 0) then f_X7_isPlain_24 l0 qx2.2 else (bif decide (¬ l0 = (95 : Int32)) then f_X7_isPlain_29 l0 (0 : Int32) qx2.2 else f_X7_isPlain_24 l0 qx2.2)))))
theorem g_X7_isPlain_0 (LS : Nat) (xs : Nat → Int32) (d : Nat) (hd : 2 ≤ d)     (l0 : Int32)  (s : fS) : fo cvI t_X7_isPlain LS xs (mi_call mi_ms false LS xs d) (0, [some (.int l0)], [], enc s) (f_X7_isPlain_0 l0 s) := by
  unfold f_X7_isPlain_0
  refine fo_st rfl rfl ?_
  refine fo_callI (As := [.int l0]) (rest := []) rfl rfl rfl rfl True.intro (c_X7_isFigure LS xs d (by omega) _ _) (fun qx1 => ?_)
  refine fo_b rfl rfl ?_ ?_
  · exact g_X7_isPlain_24 LS xs d hd _ _
  · refine fo_st rfl rfl ?_
    refine fo_st rfl rfl ?_
    refine fo_st rfl rfl ?_
    refine fo_callI (As := [.int l0, .int (97 : Int32), .int (122 : Int32)]) (rest := []) rfl rfl rfl rfl True.intro (c_X7_in LS xs d (by omega) _ _ _ _) (fun qx2 => ?_)
    refine fo_b rfl rfl ?_ ?_
    · exact g_X7_isPlain_24 LS xs d hd _ _
    · refine fo_st rfl rfl ?_
      refine fo_st rfl rfl ?_
      refine fo_b rfl rfl ?_ ?_
      · refine fo_st rfl rfl ?_
        exact g_X7_isPlain_29 LS xs d hd _ _ _
      · exact g_X7_isPlain_24 LS xs d hd _ _
def f_X7_isPlain (l0 : Int32) (s : fS) : Option (Int32 × fS) := f_X7_isPlain_0 l0 s
theorem c_X7_isPlain (LS : Nat) (xs : Nat → Int32) (d : Nat) (hd : 3 ≤ d) (l0 : Int32)  (s : fS) : fm mi_ms cvI LS xs d 101 [.int l0] (enc s) (f_X7_isPlain l0 s) := by
  obtain ⟨e, rfl⟩ : ∃ e, d = e + 1 := ⟨d - 1, by omega⟩
  exact fm_of (M := m_X7_isPlain) rfl rfl (fun _ => ⟨_, rfl⟩) (g_X7_isPlain_0 LS xs e (by omega) l0 s)
theorem p_X7_isPlain_29    (l0 : Int32) (t0 : Int32) (s : fS) : pu s (f_X7_isPlain_29 l0 t0 s) := by
  unfold f_X7_isPlain_29
  refine pu_ck ?_
  exact pu_some rfl
theorem p_X7_isPlain_24    (l0 : Int32) (s : fS) : pu s (f_X7_isPlain_24 l0 s) := by
  unfold f_X7_isPlain_24
  exact p_X7_isPlain_29 _ _ _
theorem p_X7_isPlain_0    (l0 : Int32) (s : fS) : pu s (f_X7_isPlain_0 l0 s) := by
  unfold f_X7_isPlain_0
  refine pu_bind (p_X7_isFigure _ _) (fun v => ?_)
  refine pu_b ?_ ?_
  · exact p_X7_isPlain_24 _ _
  · refine pu_bind (p_X7_in _ _ _ _) (fun v => ?_)
    refine pu_b ?_ ?_
    · exact p_X7_isPlain_24 _ _
    · refine pu_b ?_ ?_
      · exact p_X7_isPlain_29 _ _ _
      · exact p_X7_isPlain_24 _ _
theorem p_X7_isPlain (l0 : Int32) (s : fS) : pu s (f_X7_isPlain l0 s) := p_X7_isPlain_0 l0 s
def f_X7_blanks_0   : Nat → fS → Option fS
  | 0, _ => none
  | n + 1, s => ((f_X7_here s).bind fun qx1 => (bif decide (¬ qx1.1 = (32 : Int32)) then some qx1.2 else f_X7_blanks_0 n (sI qx1.2 82 27 ((gI qx1.2 82 27) + (1 : Int32)))))
theorem g_X7_blanks_0 (LS : Nat) (xs : Nat → Int32) (d : Nat) (hd : 1 ≤ d)     (n : Nat) : ∀ (s : fS), fo cvV t_X7_blanks LS xs (mi_call mi_ms false LS xs d) (0, [some (.ref 82)], [], enc s) (f_X7_blanks_0 n s) := by
  induction n with
  | zero => intro s; exact fo_none
  | succ n ih =>
    intro s
    rw [f_X7_blanks_0]
    refine fo_st rfl rfl ?_
    refine fo_callI (As := [.ref 82]) (rest := []) rfl rfl rfl rfl (mi_rcv_of (eg_7 _)) (c_X7_here LS xs d (by omega)  _) (fun qx1 => ?_)
    refine fo_st rfl rfl ?_
    refine fo_b rfl rfl ?_ ?_
    · exact fo_ret rfl rfl rfl
    · refine fo_st rfl rfl ?_
      refine fo_st rfl rfl ?_
      refine fo_get rfl (eg_7 _) rfl ?_
      refine fo_st rfl rfl ?_
      refine fo_st rfl rfl ?_
      refine fo_put rfl (eg_7 _) rfl rfl (es_7_27 _ _) ?_
      refine fo_st rfl rfl ?_
      exact ih _
def f_X7_blanks  (s : fS) : Option fS := f_X7_blanks_0 fuel s
theorem c_X7_blanks (LS : Nat) (xs : Nat → Int32) (d : Nat) (hd : 2 ≤ d)   (s : fS) : fm mi_ms cvV LS xs d 102 [.ref 82] (enc s) (f_X7_blanks  s) := by
  obtain ⟨e, rfl⟩ : ∃ e, d = e + 1 := ⟨d - 1, by omega⟩
  exact fm_of (M := m_X7_blanks) rfl rfl (fun _ => ⟨_, rfl⟩) (g_X7_blanks_0 LS xs e (by omega) fuel s)
def f_X7_ended_33    (s : fS) : Option fS := some s
theorem g_X7_ended_33 (LS : Nat) (xs : Nat → Int32) (d : Nat) (hd : 1 ≤ d)       (s : fS) : fo cvV t_X7_ended LS xs (mi_call mi_ms false LS xs d) (33, [some (.ref 82)], [], enc s) (f_X7_ended_33 s) := by
  unfold f_X7_ended_33
  exact fo_ret rfl rfl rfl
def f_X7_ended_0    (s : fS) : Option fS := (bif decide (¬ (gI s 82 30) = 0) then f_X7_ended_33 s else ((f_X7_here s).bind fun qx1 => (bif decide (qx1.1 = (32 : Int32)) then f_X7_ended_33 qx1.2 else ((f_X7_here qx1.2).bind fun qx2 => (bif decide (qx2.1 = (-1 : Int32)) then f_X7_ended_33 qx2.2 else ((f_X7_wrong (1 : Int32) (gI qx2.2 82 27) qx2.2).bind fun qx3 => f_X7_ended_33 qx3))))))
theorem g_X7_ended_0 (LS : Nat) (xs : Nat → Int32) (d : Nat) (hd : 1 ≤ d)       (s : fS) : fo cvV t_X7_ended LS xs (mi_call mi_ms false LS xs d) (0, [some (.ref 82)], [], enc s) (f_X7_ended_0 s) := by
  unfold f_X7_ended_0
  refine fo_st rfl rfl ?_
  refine fo_get rfl (eg_7 _) rfl ?_
  refine fo_b rfl rfl ?_ ?_
  · exact g_X7_ended_33 LS xs d hd _
  · refine fo_st rfl rfl ?_
    refine fo_callI (As := [.ref 82]) (rest := []) rfl rfl rfl rfl (mi_rcv_of (eg_7 _)) (c_X7_here LS xs d (by omega)  _) (fun qx1 => ?_)
    refine fo_st rfl rfl ?_
    refine fo_b rfl rfl ?_ ?_
    · exact g_X7_ended_33 LS xs d hd _
    · refine fo_st rfl rfl ?_
      refine fo_callI (As := [.ref 82]) (rest := []) rfl rfl rfl rfl (mi_rcv_of (eg_7 _)) (c_X7_here LS xs d (by omega)  _) (fun qx2 => ?_)
      refine fo_st rfl rfl ?_
      refine fo_b rfl rfl ?_ ?_
      · exact g_X7_ended_33 LS xs d hd _
      · refine fo_st rfl rfl ?_
        refine fo_st rfl rfl ?_
        refine fo_st rfl rfl ?_
        refine fo_get rfl (eg_7 _) rfl ?_
        refine fo_callV (As := [.ref 82, .int (1 : Int32), .int (gI qx2.2 82 27)]) (rest := []) rfl rfl rfl rfl (mi_rcv_of (eg_7 _)) (c_X7_wrong LS xs d (by omega) _ _ _) (fun qx3 => ?_)
        exact g_X7_ended_33 LS xs d hd _
def f_X7_ended  (s : fS) : Option fS := f_X7_ended_0 s
theorem c_X7_ended (LS : Nat) (xs : Nat → Int32) (d : Nat) (hd : 2 ≤ d)   (s : fS) : fm mi_ms cvV LS xs d 103 [.ref 82] (enc s) (f_X7_ended  s) := by
  obtain ⟨e, rfl⟩ : ∃ e, d = e + 1 := ⟨d - 1, by omega⟩
  exact fm_of (M := m_X7_ended) rfl rfl (fun _ => ⟨_, rfl⟩) (g_X7_ended_0 LS xs e (by omega) s)
def f_X7_sign_42   (l1 : Int32) (l2 : Int32) (s : fS) : Option fS := some s
theorem g_X7_sign_42 (LS : Nat) (xs : Nat → Int32) (d : Nat) (hd : 1 ≤ d)     (l1 : Int32) (l2 : Int32)  (s : fS) : fo cvV t_X7_sign LS xs (mi_call mi_ms false LS xs d) (42, [some (.ref 82), some (.int l1), some (.int l2)], [], enc s) (f_X7_sign_42 l1 l2 s) := by
  unfold f_X7_sign_42
  exact fo_ret rfl rfl rfl
def f_X7_sign_0   (l1 : Int32) (l2 : Int32) (s : fS) : Option fS := fchk (mi_in (0 : Int32) (gA s 103).length) ((bif decide (¬ ((gA s 103).getD (0 : Int32).toNatClampNeg 0) = (8 : Int32)) then fchk (mi_in (0 : Int32) (gA s 103).length) (fchk (mi_in (0 : Int32) (gA s 103).length) (fchk (mi_in (0 : Int32) ((gA s 103).set (0 : Int32).toNatClampNeg (((gA s 103).getD (0 : Int32).toNatClampNeg 0) + (1 : Int32))).length) (fchk (mi_in (((gA s 103).set (0 : Int32).toNatClampNeg (((gA s 103).getD (0 : Int32).toNatClampNeg 0) + (1 : Int32))).getD (0 : Int32).toNatClampNeg 0) ((gA s 103).set (0 : Int32).toNatClampNeg (((gA s 103).getD (0 : Int32).toNatClampNeg 0) + (1 : Int32))).length) (f_X7_sign_42 l1 l2 (sA (sA s 103 ((gA s 103).set (0 : Int32).toNatClampNeg (((gA s 103).getD (0 : Int32).toNatClampNeg 0) + (1 : Int32)))) 103 (((gA s 103).set (0 : Int32).toNatClampNeg (((gA s 103).getD (0 : Int32).toNatClampNeg 0) + (1 : Int32))).set (((gA s 103).set (0 : Int32).toNatClampNeg (((gA s 103).getD (0 : Int32).toNatClampNeg 0) + (1 : Int32))).getD (0 : Int32).toNatClampNeg 0).toNatClampNeg l1)))))) else ((f_X7_wrong (2 : Int32) l2 s).bind fun qx1 => f_X7_sign_42 l1 l2 qx1)))
theorem g_X7_sign_0 (LS : Nat) (xs : Nat → Int32) (d : Nat) (hd : 1 ≤ d)     (l1 : Int32) (l2 : Int32)  (s : fS) : fo cvV t_X7_sign LS xs (mi_call mi_ms false LS xs d) (0, [some (.ref 82), some (.int l1), some (.int l2)], [], enc s) (f_X7_sign_0 l1 l2 s) := by
  unfold f_X7_sign_0
  refine fo_st rfl rfl ?_
  refine fo_get rfl (eg_7 _) rfl ?_
  refine fo_st rfl rfl ?_
  refine fo_iald rfl (eg_ar _ rfl) ?_
  refine fo_st rfl rfl ?_
  refine fo_b rfl rfl ?_ ?_
  · refine fo_st rfl rfl ?_
    refine fo_get rfl (eg_7 _) rfl ?_
    refine fo_st rfl rfl ?_
    refine fo_st rfl rfl ?_
    refine fo_iald rfl (eg_ar _ rfl) ?_
    refine fo_st rfl rfl ?_
    refine fo_st rfl rfl ?_
    refine fo_iast rfl (eg_ar _ rfl) (es_ar _ rfl _) ?_
    refine fo_st rfl rfl ?_
    refine fo_get rfl (eg_7 _) rfl ?_
    refine fo_st rfl rfl ?_
    refine fo_get rfl (eg_7 _) rfl ?_
    refine fo_st rfl rfl ?_
    refine fo_iald rfl (eg_ar _ rfl) ?_
    refine fo_st rfl rfl ?_
    refine fo_iast rfl (eg_ar _ rfl) (es_ar _ rfl _) ?_
    exact g_X7_sign_42 LS xs d hd _ _ _
  · refine fo_st rfl rfl ?_
    refine fo_st rfl rfl ?_
    refine fo_st rfl rfl ?_
    refine fo_callV (As := [.ref 82, .int (2 : Int32), .int l2]) (rest := []) rfl rfl rfl rfl (mi_rcv_of (eg_7 _)) (c_X7_wrong LS xs d (by omega) _ _ _) (fun qx1 => ?_)
    refine fo_st rfl rfl ?_
    exact g_X7_sign_42 LS xs d hd _ _ _
def f_X7_sign (l1 : Int32) (l2 : Int32) (s : fS) : Option fS := f_X7_sign_0 l1 l2 s
theorem c_X7_sign (LS : Nat) (xs : Nat → Int32) (d : Nat) (hd : 2 ≤ d) (l1 : Int32) (l2 : Int32)  (s : fS) : fm mi_ms cvV LS xs d 104 [.ref 82, .int l1, .int l2] (enc s) (f_X7_sign l1 l2 s) := by
  obtain ⟨e, rfl⟩ : ∃ e, d = e + 1 := ⟨d - 1, by omega⟩
  exact fm_of (M := m_X7_sign) rfl rfl (fun _ => ⟨_, rfl⟩) (g_X7_sign_0 LS xs e (by omega) l1 l2 s)
def f_X7_readQuoted_173   (l1 : Int32) (s : fS) : Option fS := some s
theorem g_X7_readQuoted_173 (LS : Nat) (xs : Nat → Int32) (d : Nat) (hd : 2 ≤ d)     (l1 : Int32) (d2 : Option Value) (s : fS) : fo cvV t_X7_readQuoted LS xs (mi_call mi_ms false LS xs d) (173, [some (.ref 82), some (.int l1), d2], [], enc s) (f_X7_readQuoted_173 l1 s) := by
  unfold f_X7_readQuoted_173
  exact fo_ret rfl rfl rfl
def f_X7_readQuoted_160  (r2 : Int32 → fS → Option fS) (l1 : Int32) (l2 : Int32) (s : fS) : Option fS := r2 l1 (sI s 82 27 ((gI s 82 27) + (1 : Int32)))
theorem g_X7_readQuoted_160 (LS : Nat) (xs : Nat → Int32) (d : Nat) (hd : 2 ≤ d)   (r2 : Int32 → fS → Option fS) (q2 : ∀ (l1 : Int32) (d2 : Option Value) (s : fS), fo cvV t_X7_readQuoted LS xs (mi_call mi_ms false LS xs d) (2, [some (.ref 82), some (.int l1), d2], [], enc s) (r2 l1 s)) (l1 : Int32) (l2 : Int32)  (s : fS) : fo cvV t_X7_readQuoted LS xs (mi_call mi_ms false LS xs d) (160, [some (.ref 82), some (.int l1), some (.int l2)], [], enc s) (f_X7_readQuoted_160 r2 l1 l2 s) := by
  unfold f_X7_readQuoted_160
  refine fo_st rfl rfl ?_
  refine fo_st rfl rfl ?_
  refine fo_get rfl (eg_7 _) rfl ?_
  refine fo_st rfl rfl ?_
  refine fo_st rfl rfl ?_
  refine fo_put rfl (eg_7 _) rfl rfl (es_7_27 _ _) ?_
  refine fo_st rfl rfl ?_
  exact q2 _ _ _
def f_X7_readQuoted_44  (r2 : Int32 → fS → Option fS) (l1 : Int32) (l2 : Int32) (s : fS) : Option fS := ((f_X7_wrong (1 : Int32) (gI s 82 27) s).bind fun qx1 => f_X7_readQuoted_160 r2 l1 l2 qx1)
theorem g_X7_readQuoted_44 (LS : Nat) (xs : Nat → Int32) (d : Nat) (hd : 2 ≤ d)   (r2 : Int32 → fS → Option fS) (q2 : ∀ (l1 : Int32) (d2 : Option Value) (s : fS), fo cvV t_X7_readQuoted LS xs (mi_call mi_ms false LS xs d) (2, [some (.ref 82), some (.int l1), d2], [], enc s) (r2 l1 s)) (l1 : Int32) (l2 : Int32)  (s : fS) : fo cvV t_X7_readQuoted LS xs (mi_call mi_ms false LS xs d) (44, [some (.ref 82), some (.int l1), some (.int l2)], [], enc s) (f_X7_readQuoted_44 r2 l1 l2 s) := by
  unfold f_X7_readQuoted_44
  refine fo_st rfl rfl ?_
  refine fo_st rfl rfl ?_
  refine fo_st rfl rfl ?_
  refine fo_get rfl (eg_7 _) rfl ?_
  refine fo_callV (As := [.ref 82, .int (1 : Int32), .int (gI s 82 27)]) (rest := []) rfl rfl rfl rfl (mi_rcv_of (eg_7 _)) (c_X7_wrong LS xs d (by omega) _ _ _) (fun qx1 => ?_)
  refine fo_st rfl rfl ?_
  exact g_X7_readQuoted_160 LS xs d hd _ q2 _ _ _
def f_X7_readQuoted_124  (r2 : Int32 → fS → Option fS) (l1 : Int32) (l2 : Int32) (s : fS) : Option fS := ((f_X7_here s).bind fun qx1 => ((f_X7_sign qx1.1 (gI qx1.2 82 27) qx1.2).bind fun qx2 => f_X7_readQuoted_160 r2 l1 l2 qx2))
theorem g_X7_readQuoted_124 (LS : Nat) (xs : Nat → Int32) (d : Nat) (hd : 2 ≤ d)   (r2 : Int32 → fS → Option fS) (q2 : ∀ (l1 : Int32) (d2 : Option Value) (s : fS), fo cvV t_X7_readQuoted LS xs (mi_call mi_ms false LS xs d) (2, [some (.ref 82), some (.int l1), d2], [], enc s) (r2 l1 s)) (l1 : Int32) (l2 : Int32)  (s : fS) : fo cvV t_X7_readQuoted LS xs (mi_call mi_ms false LS xs d) (124, [some (.ref 82), some (.int l1), some (.int l2)], [], enc s) (f_X7_readQuoted_124 r2 l1 l2 s) := by
  unfold f_X7_readQuoted_124
  refine fo_st rfl rfl ?_
  refine fo_st rfl rfl ?_
  refine fo_callI (As := [.ref 82]) (rest := [.ref 82]) rfl rfl rfl rfl (mi_rcv_of (eg_7 _)) (c_X7_here LS xs d (by omega)  _) (fun qx1 => ?_)
  refine fo_st rfl rfl ?_
  refine fo_get rfl (eg_7 _) rfl ?_
  refine fo_callV (As := [.ref 82, .int qx1.1, .int (gI qx1.2 82 27)]) (rest := []) rfl rfl rfl rfl (mi_rcv_of (eg_7 _)) (c_X7_sign LS xs d (by omega) _ _ _) (fun qx2 => ?_)
  refine fo_st rfl rfl ?_
  exact g_X7_readQuoted_160 LS xs d hd _ q2 _ _ _
def f_X7_readQuoted_56  (r2 : Int32 → fS → Option fS) (l1 : Int32) (l2 : Int32) (s : fS) : Option fS := (bif decide (¬ l2 = (34 : Int32)) then fchk (mi_in (0 : Int32) (gA s 103).length) ((bif decide (¬ ((gA s 103).getD (0 : Int32).toNatClampNeg 0) = (8 : Int32)) then (bif decide (¬ l2 = (92 : Int32)) then ((f_X7_sign l2 (gI s 82 27) s).bind fun qx1 => f_X7_readQuoted_160 r2 l1 l2 qx1) else ((f_X7_here (sI s 82 27 ((gI s 82 27) + (1 : Int32)))).bind fun qx2 => (bif decide (qx2.1 = (34 : Int32)) then f_X7_readQuoted_124 r2 l1 l2 qx2.2 else ((f_X7_here qx2.2).bind fun qx3 => (bif decide (¬ qx3.1 = (92 : Int32)) then ((f_X7_wrong (1 : Int32) (gI qx3.2 82 27) qx3.2).bind fun qx4 => f_X7_readQuoted_160 r2 l1 l2 qx4) else f_X7_readQuoted_124 r2 l1 l2 qx3.2))))) else ((f_X7_wrong (2 : Int32) (gI s 82 27) s).bind fun qx5 => f_X7_readQuoted_160 r2 l1 l2 qx5))) else f_X7_readQuoted_160 r2 (0 : Int32) l2 s)
theorem g_X7_readQuoted_56 (LS : Nat) (xs : Nat → Int32) (d : Nat) (hd : 2 ≤ d)   (r2 : Int32 → fS → Option fS) (q2 : ∀ (l1 : Int32) (d2 : Option Value) (s : fS), fo cvV t_X7_readQuoted LS xs (mi_call mi_ms false LS xs d) (2, [some (.ref 82), some (.int l1), d2], [], enc s) (r2 l1 s)) (l1 : Int32) (l2 : Int32)  (s : fS) : fo cvV t_X7_readQuoted LS xs (mi_call mi_ms false LS xs d) (56, [some (.ref 82), some (.int l1), some (.int l2)], [], enc s) (f_X7_readQuoted_56 r2 l1 l2 s) := by
  unfold f_X7_readQuoted_56
  refine fo_st rfl rfl ?_
  refine fo_st rfl rfl ?_
  refine fo_b rfl rfl ?_ ?_
  · refine fo_st rfl rfl ?_
    refine fo_get rfl (eg_7 _) rfl ?_
    refine fo_st rfl rfl ?_
    refine fo_iald rfl (eg_ar _ rfl) ?_
    refine fo_st rfl rfl ?_
    refine fo_b rfl rfl ?_ ?_
    · refine fo_st rfl rfl ?_
      refine fo_st rfl rfl ?_
      refine fo_b rfl rfl ?_ ?_
      · refine fo_st rfl rfl ?_
        refine fo_st rfl rfl ?_
        refine fo_st rfl rfl ?_
        refine fo_get rfl (eg_7 _) rfl ?_
        refine fo_callV (As := [.ref 82, .int l2, .int (gI s 82 27)]) (rest := []) rfl rfl rfl rfl (mi_rcv_of (eg_7 _)) (c_X7_sign LS xs d (by omega) _ _ _) (fun qx1 => ?_)
        exact g_X7_readQuoted_160 LS xs d hd _ q2 _ _ _
      · refine fo_st rfl rfl ?_
        refine fo_st rfl rfl ?_
        refine fo_get rfl (eg_7 _) rfl ?_
        refine fo_st rfl rfl ?_
        refine fo_st rfl rfl ?_
        refine fo_put rfl (eg_7 _) rfl rfl (es_7_27 _ _) ?_
        refine fo_st rfl rfl ?_
        refine fo_callI (As := [.ref 82]) (rest := []) rfl rfl rfl rfl (mi_rcv_of (eg_7 _)) (c_X7_here LS xs d (by omega)  _) (fun qx2 => ?_)
        refine fo_st rfl rfl ?_
        refine fo_b rfl rfl ?_ ?_
        · exact g_X7_readQuoted_124 LS xs d hd _ q2 _ _ _
        · refine fo_st rfl rfl ?_
          refine fo_callI (As := [.ref 82]) (rest := []) rfl rfl rfl rfl (mi_rcv_of (eg_7 _)) (c_X7_here LS xs d (by omega)  _) (fun qx3 => ?_)
          refine fo_st rfl rfl ?_
          refine fo_b rfl rfl ?_ ?_
          · refine fo_st rfl rfl ?_
            refine fo_st rfl rfl ?_
            refine fo_st rfl rfl ?_
            refine fo_get rfl (eg_7 _) rfl ?_
            refine fo_callV (As := [.ref 82, .int (1 : Int32), .int (gI qx3.2 82 27)]) (rest := []) rfl rfl rfl rfl (mi_rcv_of (eg_7 _)) (c_X7_wrong LS xs d (by omega) _ _ _) (fun qx4 => ?_)
            refine fo_st rfl rfl ?_
            exact g_X7_readQuoted_160 LS xs d hd _ q2 _ _ _
          · exact g_X7_readQuoted_124 LS xs d hd _ q2 _ _ _
    · refine fo_st rfl rfl ?_
      refine fo_st rfl rfl ?_
      refine fo_st rfl rfl ?_
      refine fo_get rfl (eg_7 _) rfl ?_
      refine fo_callV (As := [.ref 82, .int (2 : Int32), .int (gI s 82 27)]) (rest := []) rfl rfl rfl rfl (mi_rcv_of (eg_7 _)) (c_X7_wrong LS xs d (by omega) _ _ _) (fun qx5 => ?_)
      refine fo_st rfl rfl ?_
      exact g_X7_readQuoted_160 LS xs d hd _ q2 _ _ _
  · refine fo_st rfl rfl ?_
    refine fo_st rfl rfl ?_
    refine fo_st rfl rfl ?_
    exact g_X7_readQuoted_160 LS xs d hd _ q2 _ _ _
def f_X7_readQuoted_2   : Nat → Int32 → fS → Option fS
  | 0, _, _ => none
  | n + 1, l1, s => (bif decide (l1 = 0) then f_X7_readQuoted_173 l1 s else (bif decide (¬ (gI s 82 30) = 0) then f_X7_readQuoted_173 l1 s else ((f_X7_here s).bind fun qx1 => ((f_X7_in qx1.1 (32 : Int32) (126 : Int32) qx1.2).bind fun qx2 => (bif decide (qx2.1 = 0) then f_X7_readQuoted_44 (fun l1' s' => f_X7_readQuoted_2 n l1' s') l1 qx1.1 qx2.2 else (bif decide (¬ qx1.1 = (34 : Int32)) then f_X7_readQuoted_56 (fun l1' s' => f_X7_readQuoted_2 n l1' s') l1 qx1.1 qx2.2 else fchk (mi_in (0 : Int32) (gA qx2.2 103).length) ((bif decide (¬ ((gA qx2.2 103).getD (0 : Int32).toNatClampNeg 0) = 0) then f_X7_readQuoted_56 (fun l1' s' => f_X7_readQuoted_2 n l1' s') l1 qx1.1 qx2.2 else f_X7_readQuoted_44 (fun l1' s' => f_X7_readQuoted_2 n l1' s') l1 qx1.1 qx2.2))))))))
theorem g_X7_readQuoted_2 (LS : Nat) (xs : Nat → Int32) (d : Nat) (hd : 2 ≤ d)     (n : Nat) : ∀ (l1 : Int32) (d2 : Option Value) (s : fS), fo cvV t_X7_readQuoted LS xs (mi_call mi_ms false LS xs d) (2, [some (.ref 82), some (.int l1), d2], [], enc s) (f_X7_readQuoted_2 n l1 s) := by
  induction n with
  | zero => intro l1 d2 s; exact fo_none
  | succ n ih =>
    intro l1 d2 s
    rw [f_X7_readQuoted_2]
    refine fo_st rfl rfl ?_
    refine fo_b rfl rfl ?_ ?_
    · exact g_X7_readQuoted_173 LS xs d hd _ _ _
    · refine fo_st rfl rfl ?_
      refine fo_get rfl (eg_7 _) rfl ?_
      refine fo_b rfl rfl ?_ ?_
      · exact g_X7_readQuoted_173 LS xs d hd _ _ _
      · refine fo_st rfl rfl ?_
        refine fo_callI (As := [.ref 82]) (rest := []) rfl rfl rfl rfl (mi_rcv_of (eg_7 _)) (c_X7_here LS xs d (by omega)  _) (fun qx1 => ?_)
        refine fo_std rfl rfl rfl rfl rfl ?_
        refine fo_st rfl rfl ?_
        refine fo_st rfl rfl ?_
        refine fo_st rfl rfl ?_
        refine fo_callI (As := [.int qx1.1, .int (32 : Int32), .int (126 : Int32)]) (rest := []) rfl rfl rfl rfl True.intro (c_X7_in LS xs d (by omega) _ _ _ _) (fun qx2 => ?_)
        refine fo_b rfl rfl ?_ ?_
        · exact g_X7_readQuoted_44 LS xs d hd _ ih _ _ _
        · refine fo_st rfl rfl ?_
          refine fo_st rfl rfl ?_
          refine fo_b rfl rfl ?_ ?_
          · exact g_X7_readQuoted_56 LS xs d hd _ ih _ _ _
          · refine fo_st rfl rfl ?_
            refine fo_get rfl (eg_7 _) rfl ?_
            refine fo_st rfl rfl ?_
            refine fo_iald rfl (eg_ar _ rfl) ?_
            refine fo_b rfl rfl ?_ ?_
            · exact g_X7_readQuoted_56 LS xs d hd _ ih _ _ _
            · exact g_X7_readQuoted_44 LS xs d hd _ ih _ _ _
def f_X7_readQuoted_0    (s : fS) : Option fS := f_X7_readQuoted_2 fuel (1 : Int32) s
theorem g_X7_readQuoted_0 (LS : Nat) (xs : Nat → Int32) (d : Nat) (hd : 2 ≤ d)       (s : fS) : fo cvV t_X7_readQuoted LS xs (mi_call mi_ms false LS xs d) (0, [some (.ref 82), none, none], [], enc s) (f_X7_readQuoted_0 s) := by
  unfold f_X7_readQuoted_0
  refine fo_st rfl rfl ?_
  refine fo_st rfl rfl ?_
  exact g_X7_readQuoted_2 LS xs d hd fuel _ _ _
def f_X7_readQuoted  (s : fS) : Option fS := f_X7_readQuoted_0 s
theorem c_X7_readQuoted (LS : Nat) (xs : Nat → Int32) (d : Nat) (hd : 3 ≤ d)   (s : fS) : fm mi_ms cvV LS xs d 106 [.ref 82] (enc s) (f_X7_readQuoted  s) := by
  obtain ⟨e, rfl⟩ : ∃ e, d = e + 1 := ⟨d - 1, by omega⟩
  exact fm_of (M := m_X7_readQuoted) rfl rfl (fun _ => ⟨_, rfl⟩) (g_X7_readQuoted_0 LS xs e (by omega) s)
def f_X7_readName_97    (s : fS) : Option fS := ((f_X7_ended s).bind fun qx1 => some qx1)
theorem g_X7_readName_97 (LS : Nat) (xs : Nat → Int32) (d : Nat) (hd : 3 ≤ d)       (s : fS) : fo cvV t_X7_readName LS xs (mi_call mi_ms false LS xs d) (97, [some (.ref 82)], [], enc s) (f_X7_readName_97 s) := by
  unfold f_X7_readName_97
  refine fo_st rfl rfl ?_
  refine fo_callV (As := [.ref 82]) (rest := []) rfl rfl rfl rfl (mi_rcv_of (eg_7 _)) (c_X7_ended LS xs d (by omega)  _) (fun qx1 => ?_)
  exact fo_ret rfl rfl rfl
def f_X7_readName_55   : Nat → fS → Option fS
  | 0, _ => none
  | n + 1, s => (bif decide (¬ (gI s 82 30) = 0) then f_X7_readName_97 s else ((f_X7_here s).bind fun qx1 => ((f_X7_isPlain qx1.1 qx1.2).bind fun qx2 => (bif decide (qx2.1 = 0) then f_X7_readName_97 qx2.2 else ((f_X7_here qx2.2).bind fun qx3 => ((f_X7_sign qx3.1 (gI qx3.2 82 27) qx3.2).bind fun qx4 => f_X7_readName_55 n (sI qx4 82 27 ((gI qx4 82 27) + (1 : Int32)))))))))
theorem g_X7_readName_55 (LS : Nat) (xs : Nat → Int32) (d : Nat) (hd : 3 ≤ d)     (n : Nat) : ∀ (s : fS), fo cvV t_X7_readName LS xs (mi_call mi_ms false LS xs d) (55, [some (.ref 82)], [], enc s) (f_X7_readName_55 n s) := by
  induction n with
  | zero => intro s; exact fo_none
  | succ n ih =>
    intro s
    rw [f_X7_readName_55]
    refine fo_st rfl rfl ?_
    refine fo_get rfl (eg_7 _) rfl ?_
    refine fo_b rfl rfl ?_ ?_
    · exact g_X7_readName_97 LS xs d hd _
    · refine fo_st rfl rfl ?_
      refine fo_callI (As := [.ref 82]) (rest := []) rfl rfl rfl rfl (mi_rcv_of (eg_7 _)) (c_X7_here LS xs d (by omega)  _) (fun qx1 => ?_)
      refine fo_callI (As := [.int qx1.1]) (rest := []) rfl rfl rfl rfl True.intro (c_X7_isPlain LS xs d (by omega) _ _) (fun qx2 => ?_)
      refine fo_b rfl rfl ?_ ?_
      · exact g_X7_readName_97 LS xs d hd _
      · refine fo_st rfl rfl ?_
        refine fo_st rfl rfl ?_
        refine fo_callI (As := [.ref 82]) (rest := [.ref 82]) rfl rfl rfl rfl (mi_rcv_of (eg_7 _)) (c_X7_here LS xs d (by omega)  _) (fun qx3 => ?_)
        refine fo_st rfl rfl ?_
        refine fo_get rfl (eg_7 _) rfl ?_
        refine fo_callV (As := [.ref 82, .int qx3.1, .int (gI qx3.2 82 27)]) (rest := []) rfl rfl rfl rfl (mi_rcv_of (eg_7 _)) (c_X7_sign LS xs d (by omega) _ _ _) (fun qx4 => ?_)
        refine fo_st rfl rfl ?_
        refine fo_st rfl rfl ?_
        refine fo_get rfl (eg_7 _) rfl ?_
        refine fo_st rfl rfl ?_
        refine fo_st rfl rfl ?_
        refine fo_put rfl (eg_7 _) rfl rfl (es_7_27 _ _) ?_
        refine fo_st rfl rfl ?_
        exact ih _
def f_X7_readName_0    (s : fS) : Option fS := fchk (mi_in (0 : Int32) (gA s 103).length) (((f_X7_here (sA s 103 ((gA s 103).set (0 : Int32).toNatClampNeg (0 : Int32)))).bind fun qx1 => (bif decide (¬ qx1.1 = (34 : Int32)) then ((f_X7_here qx1.2).bind fun qx2 => ((f_X7_isPlain qx2.1 qx2.2).bind fun qx3 => (bif decide (¬ qx3.1 = 0) then f_X7_readName_55 fuel qx3.2 else ((f_X7_wrong (1 : Int32) (gI qx3.2 82 27) qx3.2).bind fun qx4 => f_X7_readName_97 qx4)))) else ((f_X7_readQuoted (sI qx1.2 82 27 ((gI qx1.2 82 27) + (1 : Int32)))).bind fun qx5 => f_X7_readName_97 qx5))))
theorem g_X7_readName_0 (LS : Nat) (xs : Nat → Int32) (d : Nat) (hd : 3 ≤ d)       (s : fS) : fo cvV t_X7_readName LS xs (mi_call mi_ms false LS xs d) (0, [some (.ref 82)], [], enc s) (f_X7_readName_0 s) := by
  unfold f_X7_readName_0
  refine fo_st rfl rfl ?_
  refine fo_get rfl (eg_7 _) rfl ?_
  refine fo_st rfl rfl ?_
  refine fo_st rfl rfl ?_
  refine fo_iast rfl (eg_ar _ rfl) (es_ar _ rfl _) ?_
  refine fo_st rfl rfl ?_
  refine fo_callI (As := [.ref 82]) (rest := []) rfl rfl rfl rfl (mi_rcv_of (eg_7 _)) (c_X7_here LS xs d (by omega)  _) (fun qx1 => ?_)
  refine fo_st rfl rfl ?_
  refine fo_b rfl rfl ?_ ?_
  · refine fo_st rfl rfl ?_
    refine fo_callI (As := [.ref 82]) (rest := []) rfl rfl rfl rfl (mi_rcv_of (eg_7 _)) (c_X7_here LS xs d (by omega)  _) (fun qx2 => ?_)
    refine fo_callI (As := [.int qx2.1]) (rest := []) rfl rfl rfl rfl True.intro (c_X7_isPlain LS xs d (by omega) _ _) (fun qx3 => ?_)
    refine fo_b rfl rfl ?_ ?_
    · exact g_X7_readName_55 LS xs d hd fuel _
    · refine fo_st rfl rfl ?_
      refine fo_st rfl rfl ?_
      refine fo_st rfl rfl ?_
      refine fo_get rfl (eg_7 _) rfl ?_
      refine fo_callV (As := [.ref 82, .int (1 : Int32), .int (gI qx3.2 82 27)]) (rest := []) rfl rfl rfl rfl (mi_rcv_of (eg_7 _)) (c_X7_wrong LS xs d (by omega) _ _ _) (fun qx4 => ?_)
      refine fo_st rfl rfl ?_
      exact g_X7_readName_97 LS xs d hd _
  · refine fo_st rfl rfl ?_
    refine fo_st rfl rfl ?_
    refine fo_get rfl (eg_7 _) rfl ?_
    refine fo_st rfl rfl ?_
    refine fo_st rfl rfl ?_
    refine fo_put rfl (eg_7 _) rfl rfl (es_7_27 _ _) ?_
    refine fo_st rfl rfl ?_
    refine fo_callV (As := [.ref 82]) (rest := []) rfl rfl rfl rfl (mi_rcv_of (eg_7 _)) (c_X7_readQuoted LS xs d (by omega)  _) (fun qx5 => ?_)
    refine fo_st rfl rfl ?_
    exact g_X7_readName_97 LS xs d hd _
def f_X7_readName  (s : fS) : Option fS := f_X7_readName_0 s
theorem c_X7_readName (LS : Nat) (xs : Nat → Int32) (d : Nat) (hd : 4 ≤ d)   (s : fS) : fm mi_ms cvV LS xs d 105 [.ref 82] (enc s) (f_X7_readName  s) := by
  obtain ⟨e, rfl⟩ : ∃ e, d = e + 1 := ⟨d - 1, by omega⟩
  exact fm_of (M := m_X7_readName) rfl rfl (fun _ => ⟨_, rfl⟩) (g_X7_readName_0 LS xs e (by omega) s)
def f_X7_readDecimals_128   (l1 : Int32) (s : fS) : Option fS := some s
theorem g_X7_readDecimals_128 (LS : Nat) (xs : Nat → Int32) (d : Nat) (hd : 2 ≤ d)     (l1 : Int32)  (s : fS) : fo cvV t_X7_readDecimals LS xs (mi_call mi_ms false LS xs d) (128, [some (.ref 82), some (.int l1)], [], enc s) (f_X7_readDecimals_128 l1 s) := by
  unfold f_X7_readDecimals_128
  exact fo_ret rfl rfl rfl
def f_X7_readDecimals_47   : Nat → Int32 → fS → Option fS
  | 0, _, _ => none
  | n + 1, l1, s => (bif decide (¬ (gI s 82 30) = 0) then f_X7_readDecimals_128 l1 s else ((f_X7_here s).bind fun qx1 => ((f_X7_isFigure qx1.1 qx1.2).bind fun qx2 => (bif decide (qx2.1 = 0) then f_X7_readDecimals_128 l1 qx2.2 else (bif decide (¬ l1 = 0) then ((f_X7_here qx2.2).bind fun qx3 => ((f_X7_here (sI qx3.2 82 34 ((gI qx2.2 82 34) + (l1 * (qx3.1 - (48 : Int32)))))).bind fun qx4 => ((f_X7_sign qx4.1 (gI qx4.2 82 27) qx4.2).bind fun qx5 => f_X7_readDecimals_47 n (l1 / (10 : Int32)) (sI qx5 82 27 ((gI qx5 82 27) + (1 : Int32)))))) else ((f_X7_wrong (2 : Int32) (gI qx2.2 82 27) qx2.2).bind fun qx6 => f_X7_readDecimals_47 n l1 qx6))))))
theorem g_X7_readDecimals_47 (LS : Nat) (xs : Nat → Int32) (d : Nat) (hd : 2 ≤ d)     (n : Nat) : ∀ (l1 : Int32) (s : fS), fo cvV t_X7_readDecimals LS xs (mi_call mi_ms false LS xs d) (47, [some (.ref 82), some (.int l1)], [], enc s) (f_X7_readDecimals_47 n l1 s) := by
  induction n with
  | zero => intro l1 s; exact fo_none
  | succ n ih =>
    intro l1 s
    rw [f_X7_readDecimals_47]
    refine fo_st rfl rfl ?_
    refine fo_get rfl (eg_7 _) rfl ?_
    refine fo_b rfl rfl ?_ ?_
    · exact g_X7_readDecimals_128 LS xs d hd _ _
    · refine fo_st rfl rfl ?_
      refine fo_callI (As := [.ref 82]) (rest := []) rfl rfl rfl rfl (mi_rcv_of (eg_7 _)) (c_X7_here LS xs d (by omega)  _) (fun qx1 => ?_)
      refine fo_callI (As := [.int qx1.1]) (rest := []) rfl rfl rfl rfl True.intro (c_X7_isFigure LS xs d (by omega) _ _) (fun qx2 => ?_)
      refine fo_b rfl rfl ?_ ?_
      · exact g_X7_readDecimals_128 LS xs d hd _ _
      · refine fo_st rfl rfl ?_
        refine fo_b rfl rfl ?_ ?_
        · refine fo_st rfl rfl ?_
          refine fo_st rfl rfl ?_
          refine fo_get rfl (eg_7 _) rfl ?_
          refine fo_st rfl rfl ?_
          refine fo_st rfl rfl ?_
          refine fo_callI (As := [.ref 82]) (rest := [.int l1, .int (gI qx2.2 82 34), .ref 82]) rfl rfl rfl rfl (mi_rcv_of (eg_7 _)) (c_X7_here LS xs d (by omega)  _) (fun qx3 => ?_)
          refine fo_st rfl rfl ?_
          refine fo_st rfl rfl ?_
          refine fo_st rfl rfl ?_
          refine fo_st rfl rfl ?_
          refine fo_put rfl (eg_7 _) rfl rfl (es_7_34 _ _) ?_
          refine fo_st rfl rfl ?_
          refine fo_st rfl rfl ?_
          refine fo_st rfl rfl ?_
          refine fo_st rfl rfl ?_
          refine fo_st rfl rfl ?_
          refine fo_st rfl rfl ?_
          refine fo_callI (As := [.ref 82]) (rest := [.ref 82]) rfl rfl rfl rfl (mi_rcv_of (eg_7 _)) (c_X7_here LS xs d (by omega)  _) (fun qx4 => ?_)
          refine fo_st rfl rfl ?_
          refine fo_get rfl (eg_7 _) rfl ?_
          refine fo_callV (As := [.ref 82, .int qx4.1, .int (gI qx4.2 82 27)]) (rest := []) rfl rfl rfl rfl (mi_rcv_of (eg_7 _)) (c_X7_sign LS xs d (by omega) _ _ _) (fun qx5 => ?_)
          refine fo_st rfl rfl ?_
          refine fo_st rfl rfl ?_
          refine fo_get rfl (eg_7 _) rfl ?_
          refine fo_st rfl rfl ?_
          refine fo_st rfl rfl ?_
          refine fo_put rfl (eg_7 _) rfl rfl (es_7_27 _ _) ?_
          refine fo_st rfl rfl ?_
          exact ih _ _
        · refine fo_st rfl rfl ?_
          refine fo_st rfl rfl ?_
          refine fo_st rfl rfl ?_
          refine fo_get rfl (eg_7 _) rfl ?_
          refine fo_callV (As := [.ref 82, .int (2 : Int32), .int (gI qx2.2 82 27)]) (rest := []) rfl rfl rfl rfl (mi_rcv_of (eg_7 _)) (c_X7_wrong LS xs d (by omega) _ _ _) (fun qx6 => ?_)
          refine fo_st rfl rfl ?_
          exact ih _ _
def f_X7_readDecimals_0    (s : fS) : Option fS := ((f_X7_sign (46 : Int32) (gI s 82 27) (sI s 82 33 (2 : Int32))).bind fun qx1 => ((f_X7_here (sI qx1 82 27 ((gI qx1 82 27) + (1 : Int32)))).bind fun qx2 => ((f_X7_isFigure qx2.1 qx2.2).bind fun qx3 => (bif decide (¬ qx3.1 = 0) then f_X7_readDecimals_47 fuel (100 : Int32) qx3.2 else ((f_X7_wrong (1 : Int32) (gI qx3.2 82 27) qx3.2).bind fun qx4 => f_X7_readDecimals_47 fuel (100 : Int32) qx4)))))
theorem g_X7_readDecimals_0 (LS : Nat) (xs : Nat → Int32) (d : Nat) (hd : 2 ≤ d)       (s : fS) : fo cvV t_X7_readDecimals LS xs (mi_call mi_ms false LS xs d) (0, [some (.ref 82), none], [], enc s) (f_X7_readDecimals_0 s) := by
  unfold f_X7_readDecimals_0
  refine fo_st rfl rfl ?_
  refine fo_st rfl rfl ?_
  refine fo_put rfl (eg_7 _) rfl rfl (es_7_33 _ _) ?_
  refine fo_st rfl rfl ?_
  refine fo_st rfl rfl ?_
  refine fo_st rfl rfl ?_
  refine fo_get rfl (eg_7 _) rfl ?_
  refine fo_callV (As := [.ref 82, .int (46 : Int32), .int (gI s 82 27)]) (rest := []) rfl rfl rfl rfl (mi_rcv_of (eg_7 _)) (c_X7_sign LS xs d (by omega) _ _ _) (fun qx1 => ?_)
  refine fo_st rfl rfl ?_
  refine fo_st rfl rfl ?_
  refine fo_get rfl (eg_7 _) rfl ?_
  refine fo_st rfl rfl ?_
  refine fo_st rfl rfl ?_
  refine fo_put rfl (eg_7 _) rfl rfl (es_7_27 _ _) ?_
  refine fo_st rfl rfl ?_
  refine fo_st rfl rfl ?_
  refine fo_st rfl rfl ?_
  refine fo_callI (As := [.ref 82]) (rest := []) rfl rfl rfl rfl (mi_rcv_of (eg_7 _)) (c_X7_here LS xs d (by omega)  _) (fun qx2 => ?_)
  refine fo_callI (As := [.int qx2.1]) (rest := []) rfl rfl rfl rfl True.intro (c_X7_isFigure LS xs d (by omega) _ _) (fun qx3 => ?_)
  refine fo_b rfl rfl ?_ ?_
  · exact g_X7_readDecimals_47 LS xs d hd fuel _ _
  · refine fo_st rfl rfl ?_
    refine fo_st rfl rfl ?_
    refine fo_st rfl rfl ?_
    refine fo_get rfl (eg_7 _) rfl ?_
    refine fo_callV (As := [.ref 82, .int (1 : Int32), .int (gI qx3.2 82 27)]) (rest := []) rfl rfl rfl rfl (mi_rcv_of (eg_7 _)) (c_X7_wrong LS xs d (by omega) _ _ _) (fun qx4 => ?_)
    exact g_X7_readDecimals_47 LS xs d hd fuel _ _
def f_X7_readDecimals  (s : fS) : Option fS := f_X7_readDecimals_0 s
theorem c_X7_readDecimals (LS : Nat) (xs : Nat → Int32) (d : Nat) (hd : 3 ≤ d)   (s : fS) : fm mi_ms cvV LS xs d 108 [.ref 82] (enc s) (f_X7_readDecimals  s) := by
  obtain ⟨e, rfl⟩ : ∃ e, d = e + 1 := ⟨d - 1, by omega⟩
  exact fm_of (M := m_X7_readDecimals) rfl rfl (fun _ => ⟨_, rfl⟩) (g_X7_readDecimals_0 LS xs e (by omega) s)
def f_X7_readNumber_298   (l1 : Int32) (l2 : Int32) (l3 : Int32) (l4 : Int32) (l5 : Int32) (t0 : Int32) (s : fS) : Option fS := ((f_X7_ended (sI s 82 34 t0)).bind fun qx1 => some qx1)
theorem g_X7_readNumber_298 (LS : Nat) (xs : Nat → Int32) (d : Nat) (hd : 3 ≤ d)     (l1 : Int32) (l2 : Int32) (l3 : Int32) (l4 : Int32) (l5 : Int32) (t0 : Int32)  (s : fS) : fo cvV t_X7_readNumber LS xs (mi_call mi_ms false LS xs d) (298, [some (.ref 82), some (.int l1), some (.int l2), some (.int l3), some (.int l4), some (.int l5)], [.int t0, .ref 82], enc s) (f_X7_readNumber_298 l1 l2 l3 l4 l5 t0 s) := by
  unfold f_X7_readNumber_298
  refine fo_put rfl (eg_7 _) rfl rfl (es_7_34 _ _) ?_
  refine fo_st rfl rfl ?_
  refine fo_callV (As := [.ref 82]) (rest := []) rfl rfl rfl rfl (mi_rcv_of (eg_7 _)) (c_X7_ended LS xs d (by omega)  _) (fun qx1 => ?_)
  exact fo_ret rfl rfl rfl
def f_X7_readNumber_281   (l1 : Int32) (l2 : Int32) (l3 : Int32) (l4 : Int32) (l5 : Int32) (s : fS) : Option fS := (bif decide (l2 = 0) then f_X7_readNumber_298 l1 l2 l3 l4 l5 (gI s 82 34) s else f_X7_readNumber_298 l1 l2 l3 l4 l5 (-(gI s 82 34)) s)
theorem g_X7_readNumber_281 (LS : Nat) (xs : Nat → Int32) (d : Nat) (hd : 3 ≤ d)     (l1 : Int32) (l2 : Int32) (l3 : Int32) (l4 : Int32) (l5 : Int32)  (s : fS) : fo cvV t_X7_readNumber LS xs (mi_call mi_ms false LS xs d) (281, [some (.ref 82), some (.int l1), some (.int l2), some (.int l3), some (.int l4), some (.int l5)], [], enc s) (f_X7_readNumber_281 l1 l2 l3 l4 l5 s) := by
  unfold f_X7_readNumber_281
  refine fo_st rfl rfl ?_
  refine fo_st rfl rfl ?_
  refine fo_b rfl rfl ?_ ?_
  · refine fo_st rfl rfl ?_
    refine fo_get rfl (eg_7 _) rfl ?_
    exact g_X7_readNumber_298 LS xs d hd _ _ _ _ _ _ _
  · refine fo_st rfl rfl ?_
    refine fo_get rfl (eg_7 _) rfl ?_
    refine fo_st rfl rfl ?_
    refine fo_st rfl rfl ?_
    exact g_X7_readNumber_298 LS xs d hd _ _ _ _ _ _ _
def f_X7_readNumber_259   (l1 : Int32) (l2 : Int32) (l3 : Int32) (l4 : Int32) (l5 : Int32) (s : fS) : Option fS := (bif decide (¬ (gI s 82 30) = 0) then f_X7_readNumber_281 l1 l2 l3 l4 l5 s else (bif decide (l2 = 0) then f_X7_readNumber_281 l1 l2 l3 l4 l5 s else (bif decide (¬ l4 = 0) then f_X7_readNumber_281 l1 l2 l3 l4 l5 s else ((f_X7_wrong (1 : Int32) l3 s).bind fun qx1 => f_X7_readNumber_281 l1 l2 l3 l4 l5 qx1))))
theorem g_X7_readNumber_259 (LS : Nat) (xs : Nat → Int32) (d : Nat) (hd : 3 ≤ d)     (l1 : Int32) (l2 : Int32) (l3 : Int32) (l4 : Int32) (l5 : Int32)  (s : fS) : fo cvV t_X7_readNumber LS xs (mi_call mi_ms false LS xs d) (259, [some (.ref 82), some (.int l1), some (.int l2), some (.int l3), some (.int l4), some (.int l5)], [], enc s) (f_X7_readNumber_259 l1 l2 l3 l4 l5 s) := by
  unfold f_X7_readNumber_259
  refine fo_st rfl rfl ?_
  refine fo_get rfl (eg_7 _) rfl ?_
  refine fo_b rfl rfl ?_ ?_
  · exact g_X7_readNumber_281 LS xs d hd _ _ _ _ _ _
  · refine fo_st rfl rfl ?_
    refine fo_b rfl rfl ?_ ?_
    · exact g_X7_readNumber_281 LS xs d hd _ _ _ _ _ _
    · refine fo_st rfl rfl ?_
      refine fo_b rfl rfl ?_ ?_
      · exact g_X7_readNumber_281 LS xs d hd _ _ _ _ _ _
      · refine fo_st rfl rfl ?_
        refine fo_st rfl rfl ?_
        refine fo_st rfl rfl ?_
        refine fo_callV (As := [.ref 82, .int (1 : Int32), .int l3]) (rest := []) rfl rfl rfl rfl (mi_rcv_of (eg_7 _)) (c_X7_wrong LS xs d (by omega) _ _ _) (fun qx1 => ?_)
        exact g_X7_readNumber_281 LS xs d hd _ _ _ _ _ _
def f_X7_readNumber_200   (l1 : Int32) (l2 : Int32) (l3 : Int32) (l4 : Int32) (l5 : Int32) (s : fS) : Option fS := (bif decide (¬ (gI s 82 30) = 0) then f_X7_readNumber_259 l1 l2 l3 l4 l5 (sI (sI s 82 33 (1 : Int32)) 82 34 ((1000 : Int32) * l4)) else (bif decide (¬ l1 = 0) then f_X7_readNumber_259 l1 l2 l3 l4 l5 (sI (sI s 82 33 (1 : Int32)) 82 34 ((1000 : Int32) * l4)) else ((f_X7_here (sI (sI s 82 33 (1 : Int32)) 82 34 ((1000 : Int32) * l4))).bind fun qx1 => (bif decide (¬ qx1.1 = (46 : Int32)) then f_X7_readNumber_259 l1 l2 l3 l4 l5 qx1.2 else (bif decide (l5 ≤ (3 : Int32)) then ((f_X7_readDecimals qx1.2).bind fun qx2 => f_X7_readNumber_281 l1 l2 l3 l4 l5 qx2) else ((f_X7_wrong (2 : Int32) (l3 + (3 : Int32)) qx1.2).bind fun qx3 => f_X7_readNumber_281 l1 l2 l3 l4 l5 qx3))))))
theorem g_X7_readNumber_200 (LS : Nat) (xs : Nat → Int32) (d : Nat) (hd : 3 ≤ d)     (l1 : Int32) (l2 : Int32) (l3 : Int32) (l4 : Int32) (l5 : Int32)  (s : fS) : fo cvV t_X7_readNumber LS xs (mi_call mi_ms false LS xs d) (200, [some (.ref 82), some (.int l1), some (.int l2), some (.int l3), some (.int l4), some (.int l5)], [], enc s) (f_X7_readNumber_200 l1 l2 l3 l4 l5 s) := by
  unfold f_X7_readNumber_200
  refine fo_st rfl rfl ?_
  refine fo_st rfl rfl ?_
  refine fo_put rfl (eg_7 _) rfl rfl (es_7_33 _ _) ?_
  refine fo_st rfl rfl ?_
  refine fo_st rfl rfl ?_
  refine fo_st rfl rfl ?_
  refine fo_st rfl rfl ?_
  refine fo_put rfl (eg_7 _) rfl rfl (es_7_34 _ _) ?_
  refine fo_st rfl rfl ?_
  refine fo_get rfl (eg_7 _) rfl ?_
  refine fo_b rfl rfl ?_ ?_
  · exact g_X7_readNumber_259 LS xs d hd _ _ _ _ _ _
  · refine fo_st rfl rfl ?_
    refine fo_b rfl rfl ?_ ?_
    · exact g_X7_readNumber_259 LS xs d hd _ _ _ _ _ _
    · refine fo_st rfl rfl ?_
      refine fo_callI (As := [.ref 82]) (rest := []) rfl rfl rfl rfl (mi_rcv_of (eg_7 _)) (c_X7_here LS xs d (by omega)  _) (fun qx1 => ?_)
      refine fo_st rfl rfl ?_
      refine fo_b rfl rfl ?_ ?_
      · exact g_X7_readNumber_259 LS xs d hd _ _ _ _ _ _
      · refine fo_st rfl rfl ?_
        refine fo_st rfl rfl ?_
        refine fo_b rfl rfl ?_ ?_
        · refine fo_st rfl rfl ?_
          refine fo_callV (As := [.ref 82]) (rest := []) rfl rfl rfl rfl (mi_rcv_of (eg_7 _)) (c_X7_readDecimals LS xs d (by omega)  _) (fun qx2 => ?_)
          refine fo_st rfl rfl ?_
          exact g_X7_readNumber_281 LS xs d hd _ _ _ _ _ _
        · refine fo_st rfl rfl ?_
          refine fo_st rfl rfl ?_
          refine fo_st rfl rfl ?_
          refine fo_st rfl rfl ?_
          refine fo_st rfl rfl ?_
          refine fo_callV (As := [.ref 82, .int (2 : Int32), .int (l3 + (3 : Int32))]) (rest := []) rfl rfl rfl rfl (mi_rcv_of (eg_7 _)) (c_X7_wrong LS xs d (by omega) _ _ _) (fun qx3 => ?_)
          refine fo_st rfl rfl ?_
          exact g_X7_readNumber_281 LS xs d hd _ _ _ _ _ _
def f_X7_readNumber_179   (l1 : Int32) (l2 : Int32) (l3 : Int32) (l4 : Int32) (l5 : Int32) (s : fS) : Option fS := (bif decide (¬ (gI s 82 30) = 0) then f_X7_readNumber_200 l1 l2 l3 l4 l5 s else (bif decide (¬ l5 = 0) then f_X7_readNumber_200 l1 l2 l3 l4 l5 s else ((f_X7_wrong (1 : Int32) (gI s 82 27) s).bind fun qx1 => f_X7_readNumber_200 l1 l2 l3 l4 l5 qx1)))
theorem g_X7_readNumber_179 (LS : Nat) (xs : Nat → Int32) (d : Nat) (hd : 3 ≤ d)     (l1 : Int32) (l2 : Int32) (l3 : Int32) (l4 : Int32) (l5 : Int32)  (s : fS) : fo cvV t_X7_readNumber LS xs (mi_call mi_ms false LS xs d) (179, [some (.ref 82), some (.int l1), some (.int l2), some (.int l3), some (.int l4), some (.int l5)], [], enc s) (f_X7_readNumber_179 l1 l2 l3 l4 l5 s) := by
  unfold f_X7_readNumber_179
  refine fo_st rfl rfl ?_
  refine fo_get rfl (eg_7 _) rfl ?_
  refine fo_b rfl rfl ?_ ?_
  · exact g_X7_readNumber_200 LS xs d hd _ _ _ _ _ _
  · refine fo_st rfl rfl ?_
    refine fo_b rfl rfl ?_ ?_
    · exact g_X7_readNumber_200 LS xs d hd _ _ _ _ _ _
    · refine fo_st rfl rfl ?_
      refine fo_st rfl rfl ?_
      refine fo_st rfl rfl ?_
      refine fo_get rfl (eg_7 _) rfl ?_
      refine fo_callV (As := [.ref 82, .int (1 : Int32), .int (gI s 82 27)]) (rest := []) rfl rfl rfl rfl (mi_rcv_of (eg_7 _)) (c_X7_wrong LS xs d (by omega) _ _ _) (fun qx1 => ?_)
      exact g_X7_readNumber_200 LS xs d hd _ _ _ _ _ _
def f_X7_readNumber_117  (r50 : Int32 → Int32 → Int32 → Int32 → Int32 → fS → Option fS) (l1 : Int32) (l2 : Int32) (l3 : Int32) (l4 : Int32) (l5 : Int32) (s : fS) : Option fS := (bif decide (¬ l5 = (6 : Int32)) then ((f_X7_here s).bind fun qx1 => ((f_X7_here qx1.2).bind fun qx2 => ((f_X7_sign qx2.1 (gI qx2.2 82 27) qx2.2).bind fun qx3 => r50 l1 l2 l3 ((((10 : Int32) * l4) + qx1.1) - (48 : Int32)) (l5 + Int32.ofInt (1)) (sI qx3 82 27 ((gI qx3 82 27) + (1 : Int32)))))) else ((f_X7_wrong (2 : Int32) (gI s 82 27) s).bind fun qx4 => r50 l1 l2 l3 l4 l5 qx4))
theorem g_X7_readNumber_117 (LS : Nat) (xs : Nat → Int32) (d : Nat) (hd : 3 ≤ d)   (r50 : Int32 → Int32 → Int32 → Int32 → Int32 → fS → Option fS) (q50 : ∀ (l1 : Int32) (l2 : Int32) (l3 : Int32) (l4 : Int32) (l5 : Int32) (s : fS), fo cvV t_X7_readNumber LS xs (mi_call mi_ms false LS xs d) (50, [some (.ref 82), some (.int l1), some (.int l2), some (.int l3), some (.int l4), some (.int l5)], [], enc s) (r50 l1 l2 l3 l4 l5 s)) (l1 : Int32) (l2 : Int32) (l3 : Int32) (l4 : Int32) (l5 : Int32)  (s : fS) : fo cvV t_X7_readNumber LS xs (mi_call mi_ms false LS xs d) (117, [some (.ref 82), some (.int l1), some (.int l2), some (.int l3), some (.int l4), some (.int l5)], [], enc s) (f_X7_readNumber_117 r50 l1 l2 l3 l4 l5 s) := by
  unfold f_X7_readNumber_117
  refine fo_st rfl rfl ?_
  refine fo_st rfl rfl ?_
  refine fo_b rfl rfl ?_ ?_
  · refine fo_st rfl rfl ?_
    refine fo_st rfl rfl ?_
    refine fo_st rfl rfl ?_
    refine fo_st rfl rfl ?_
    refine fo_callI (As := [.ref 82]) (rest := [.int ((10 : Int32) * l4)]) rfl rfl rfl rfl (mi_rcv_of (eg_7 _)) (c_X7_here LS xs d (by omega)  _) (fun qx1 => ?_)
    refine fo_st rfl rfl ?_
    refine fo_st rfl rfl ?_
    refine fo_st rfl rfl ?_
    refine fo_st rfl rfl ?_
    refine fo_st rfl rfl ?_
    refine fo_st rfl rfl ?_
    refine fo_callI (As := [.ref 82]) (rest := [.ref 82]) rfl rfl rfl rfl (mi_rcv_of (eg_7 _)) (c_X7_here LS xs d (by omega)  _) (fun qx2 => ?_)
    refine fo_st rfl rfl ?_
    refine fo_get rfl (eg_7 _) rfl ?_
    refine fo_callV (As := [.ref 82, .int qx2.1, .int (gI qx2.2 82 27)]) (rest := []) rfl rfl rfl rfl (mi_rcv_of (eg_7 _)) (c_X7_sign LS xs d (by omega) _ _ _) (fun qx3 => ?_)
    refine fo_st rfl rfl ?_
    refine fo_st rfl rfl ?_
    refine fo_st rfl rfl ?_
    refine fo_get rfl (eg_7 _) rfl ?_
    refine fo_st rfl rfl ?_
    refine fo_st rfl rfl ?_
    refine fo_put rfl (eg_7 _) rfl rfl (es_7_27 _ _) ?_
    refine fo_st rfl rfl ?_
    exact q50 _ _ _ _ _ _
  · refine fo_st rfl rfl ?_
    refine fo_st rfl rfl ?_
    refine fo_st rfl rfl ?_
    refine fo_get rfl (eg_7 _) rfl ?_
    refine fo_callV (As := [.ref 82, .int (2 : Int32), .int (gI s 82 27)]) (rest := []) rfl rfl rfl rfl (mi_rcv_of (eg_7 _)) (c_X7_wrong LS xs d (by omega) _ _ _) (fun qx4 => ?_)
    refine fo_st rfl rfl ?_
    exact q50 _ _ _ _ _ _
def f_X7_readNumber_105  (r50 : Int32 → Int32 → Int32 → Int32 → Int32 → fS → Option fS) (l1 : Int32) (l2 : Int32) (l3 : Int32) (l4 : Int32) (l5 : Int32) (s : fS) : Option fS := ((f_X7_wrong (1 : Int32) (gI s 82 27) s).bind fun qx1 => r50 l1 l2 l3 l4 l5 qx1)
theorem g_X7_readNumber_105 (LS : Nat) (xs : Nat → Int32) (d : Nat) (hd : 3 ≤ d)   (r50 : Int32 → Int32 → Int32 → Int32 → Int32 → fS → Option fS) (q50 : ∀ (l1 : Int32) (l2 : Int32) (l3 : Int32) (l4 : Int32) (l5 : Int32) (s : fS), fo cvV t_X7_readNumber LS xs (mi_call mi_ms false LS xs d) (50, [some (.ref 82), some (.int l1), some (.int l2), some (.int l3), some (.int l4), some (.int l5)], [], enc s) (r50 l1 l2 l3 l4 l5 s)) (l1 : Int32) (l2 : Int32) (l3 : Int32) (l4 : Int32) (l5 : Int32)  (s : fS) : fo cvV t_X7_readNumber LS xs (mi_call mi_ms false LS xs d) (105, [some (.ref 82), some (.int l1), some (.int l2), some (.int l3), some (.int l4), some (.int l5)], [], enc s) (f_X7_readNumber_105 r50 l1 l2 l3 l4 l5 s) := by
  unfold f_X7_readNumber_105
  refine fo_st rfl rfl ?_
  refine fo_st rfl rfl ?_
  refine fo_st rfl rfl ?_
  refine fo_get rfl (eg_7 _) rfl ?_
  refine fo_callV (As := [.ref 82, .int (1 : Int32), .int (gI s 82 27)]) (rest := []) rfl rfl rfl rfl (mi_rcv_of (eg_7 _)) (c_X7_wrong LS xs d (by omega) _ _ _) (fun qx1 => ?_)
  refine fo_st rfl rfl ?_
  exact q50 _ _ _ _ _ _
def f_X7_readNumber_83  (r50 : Int32 → Int32 → Int32 → Int32 → Int32 → fS → Option fS) (l1 : Int32) (l2 : Int32) (l3 : Int32) (l4 : Int32) (l5 : Int32) (s : fS) : Option fS := (bif decide (l1 = 0) then f_X7_readNumber_117 r50 l1 l2 l3 l4 l5 s else (bif decide (l2 = 0) then f_X7_readNumber_117 r50 l1 l2 l3 l4 l5 s else ((f_X7_here s).bind fun qx1 => (bif decide (¬ qx1.1 = (48 : Int32)) then f_X7_readNumber_117 r50 l1 l2 l3 l4 l5 qx1.2 else (bif decide (¬ l5 = 0) then f_X7_readNumber_117 r50 l1 l2 l3 l4 l5 qx1.2 else f_X7_readNumber_105 r50 l1 l2 l3 l4 l5 qx1.2)))))
theorem g_X7_readNumber_83 (LS : Nat) (xs : Nat → Int32) (d : Nat) (hd : 3 ≤ d)   (r50 : Int32 → Int32 → Int32 → Int32 → Int32 → fS → Option fS) (q50 : ∀ (l1 : Int32) (l2 : Int32) (l3 : Int32) (l4 : Int32) (l5 : Int32) (s : fS), fo cvV t_X7_readNumber LS xs (mi_call mi_ms false LS xs d) (50, [some (.ref 82), some (.int l1), some (.int l2), some (.int l3), some (.int l4), some (.int l5)], [], enc s) (r50 l1 l2 l3 l4 l5 s)) (l1 : Int32) (l2 : Int32) (l3 : Int32) (l4 : Int32) (l5 : Int32)  (s : fS) : fo cvV t_X7_readNumber LS xs (mi_call mi_ms false LS xs d) (83, [some (.ref 82), some (.int l1), some (.int l2), some (.int l3), some (.int l4), some (.int l5)], [], enc s) (f_X7_readNumber_83 r50 l1 l2 l3 l4 l5 s) := by
  unfold f_X7_readNumber_83
  refine fo_st rfl rfl ?_
  refine fo_b rfl rfl ?_ ?_
  · exact g_X7_readNumber_117 LS xs d hd _ q50 _ _ _ _ _ _
  · refine fo_st rfl rfl ?_
    refine fo_b rfl rfl ?_ ?_
    · exact g_X7_readNumber_117 LS xs d hd _ q50 _ _ _ _ _ _
    · refine fo_st rfl rfl ?_
      refine fo_callI (As := [.ref 82]) (rest := []) rfl rfl rfl rfl (mi_rcv_of (eg_7 _)) (c_X7_here LS xs d (by omega)  _) (fun qx1 => ?_)
      refine fo_st rfl rfl ?_
      refine fo_b rfl rfl ?_ ?_
      · exact g_X7_readNumber_117 LS xs d hd _ q50 _ _ _ _ _ _
      · refine fo_st rfl rfl ?_
        refine fo_b rfl rfl ?_ ?_
        · exact g_X7_readNumber_117 LS xs d hd _ q50 _ _ _ _ _ _
        · exact g_X7_readNumber_105 LS xs d hd _ q50 _ _ _ _ _ _
def f_X7_readNumber_50   : Nat → Int32 → Int32 → Int32 → Int32 → Int32 → fS → Option fS
  | 0, _, _, _, _, _, _ => none
  | n + 1, l1, l2, l3, l4, l5, s => (bif decide (¬ (gI s 82 30) = 0) then f_X7_readNumber_179 l1 l2 l3 l4 l5 s else ((f_X7_here s).bind fun qx1 => ((f_X7_isFigure qx1.1 qx1.2).bind fun qx2 => (bif decide (qx2.1 = 0) then f_X7_readNumber_179 l1 l2 l3 l4 l5 qx2.2 else (bif decide (l5 ≤ 0) then f_X7_readNumber_83 (fun l1' l2' l3' l4' l5' s' => f_X7_readNumber_50 n l1' l2' l3' l4' l5' s') l1 l2 l3 l4 l5 qx2.2 else fchk (mi_in l3 (gA qx2.2 83).length) ((bif decide (((gA qx2.2 83).getD l3.toNatClampNeg 0) = (48 : Int32)) then f_X7_readNumber_105 (fun l1' l2' l3' l4' l5' s' => f_X7_readNumber_50 n l1' l2' l3' l4' l5' s') l1 l2 l3 l4 l5 qx2.2 else f_X7_readNumber_83 (fun l1' l2' l3' l4' l5' s' => f_X7_readNumber_50 n l1' l2' l3' l4' l5' s') l1 l2 l3 l4 l5 qx2.2)))))))
theorem g_X7_readNumber_50 (LS : Nat) (xs : Nat → Int32) (d : Nat) (hd : 3 ≤ d)     (n : Nat) : ∀ (l1 : Int32) (l2 : Int32) (l3 : Int32) (l4 : Int32) (l5 : Int32) (s : fS), fo cvV t_X7_readNumber LS xs (mi_call mi_ms false LS xs d) (50, [some (.ref 82), some (.int l1), some (.int l2), some (.int l3), some (.int l4), some (.int l5)], [], enc s) (f_X7_readNumber_50 n l1 l2 l3 l4 l5 s) := by
  induction n with
  | zero => intro l1 l2 l3 l4 l5 s; exact fo_none
  | succ n ih =>
    intro l1 l2 l3 l4 l5 s
    rw [f_X7_readNumber_50]
    refine fo_st rfl rfl ?_
    refine fo_get rfl (eg_7 _) rfl ?_
    refine fo_b rfl rfl ?_ ?_
    · exact g_X7_readNumber_179 LS xs d hd _ _ _ _ _ _
    · refine fo_st rfl rfl ?_
      refine fo_callI (As := [.ref 82]) (rest := []) rfl rfl rfl rfl (mi_rcv_of (eg_7 _)) (c_X7_here LS xs d (by omega)  _) (fun qx1 => ?_)
      refine fo_callI (As := [.int qx1.1]) (rest := []) rfl rfl rfl rfl True.intro (c_X7_isFigure LS xs d (by omega) _ _) (fun qx2 => ?_)
      refine fo_b rfl rfl ?_ ?_
      · exact g_X7_readNumber_179 LS xs d hd _ _ _ _ _ _
      · refine fo_st rfl rfl ?_
        refine fo_b rfl rfl ?_ ?_
        · exact g_X7_readNumber_83 LS xs d hd _ ih _ _ _ _ _ _
        · refine fo_st rfl rfl ?_
          refine fo_get rfl (eg_7 _) rfl ?_
          refine fo_st rfl rfl ?_
          refine fo_iald rfl (eg_ar _ rfl) ?_
          refine fo_st rfl rfl ?_
          refine fo_b rfl rfl ?_ ?_
          · exact g_X7_readNumber_105 LS xs d hd _ ih _ _ _ _ _ _
          · exact g_X7_readNumber_83 LS xs d hd _ ih _ _ _ _ _ _
def f_X7_readNumber_39   (l1 : Int32) (l2 : Int32) (s : fS) : Option fS := f_X7_readNumber_50 fuel l1 l2 (gI s 82 27) (0 : Int32) (0 : Int32) s
theorem g_X7_readNumber_39 (LS : Nat) (xs : Nat → Int32) (d : Nat) (hd : 3 ≤ d)     (l1 : Int32) (l2 : Int32)  (s : fS) : fo cvV t_X7_readNumber LS xs (mi_call mi_ms false LS xs d) (39, [some (.ref 82), some (.int l1), some (.int l2), none, none, none], [], enc s) (f_X7_readNumber_39 l1 l2 s) := by
  unfold f_X7_readNumber_39
  refine fo_st rfl rfl ?_
  refine fo_get rfl (eg_7 _) rfl ?_
  refine fo_st rfl rfl ?_
  refine fo_st rfl rfl ?_
  refine fo_st rfl rfl ?_
  refine fo_st rfl rfl ?_
  refine fo_st rfl rfl ?_
  exact g_X7_readNumber_50 LS xs d hd fuel _ _ _ _ _ _
def f_X7_readNumber_14   (l1 : Int32) (t0 : Int32) (s : fS) : Option fS := (bif decide (t0 = 0) then f_X7_readNumber_39 l1 t0 s else ((f_X7_sign (45 : Int32) (gI s 82 27) s).bind fun qx1 => f_X7_readNumber_39 l1 t0 (sI qx1 82 27 ((gI qx1 82 27) + (1 : Int32)))))
theorem g_X7_readNumber_14 (LS : Nat) (xs : Nat → Int32) (d : Nat) (hd : 3 ≤ d)     (l1 : Int32) (t0 : Int32)  (s : fS) : fo cvV t_X7_readNumber LS xs (mi_call mi_ms false LS xs d) (14, [some (.ref 82), some (.int l1), none, none, none, none], [.int t0], enc s) (f_X7_readNumber_14 l1 t0 s) := by
  unfold f_X7_readNumber_14
  refine fo_st rfl rfl ?_
  refine fo_st rfl rfl ?_
  refine fo_b rfl rfl ?_ ?_
  · exact g_X7_readNumber_39 LS xs d hd _ _ _
  · refine fo_st rfl rfl ?_
    refine fo_st rfl rfl ?_
    refine fo_st rfl rfl ?_
    refine fo_get rfl (eg_7 _) rfl ?_
    refine fo_callV (As := [.ref 82, .int (45 : Int32), .int (gI s 82 27)]) (rest := []) rfl rfl rfl rfl (mi_rcv_of (eg_7 _)) (c_X7_sign LS xs d (by omega) _ _ _) (fun qx1 => ?_)
    refine fo_st rfl rfl ?_
    refine fo_st rfl rfl ?_
    refine fo_get rfl (eg_7 _) rfl ?_
    refine fo_st rfl rfl ?_
    refine fo_st rfl rfl ?_
    refine fo_put rfl (eg_7 _) rfl rfl (es_7_27 _ _) ?_
    exact g_X7_readNumber_39 LS xs d hd _ _ _
def f_X7_readNumber_0   (l1 : Int32) (s : fS) : Option fS := ((f_X7_here s).bind fun qx1 => (bif decide (¬ qx1.1 = (45 : Int32)) then f_X7_readNumber_14 l1 (0 : Int32) qx1.2 else f_X7_readNumber_14 l1 (1 : Int32) qx1.2))
theorem g_X7_readNumber_0 (LS : Nat) (xs : Nat → Int32) (d : Nat) (hd : 3 ≤ d)     (l1 : Int32)  (s : fS) : fo cvV t_X7_readNumber LS xs (mi_call mi_ms false LS xs d) (0, [some (.ref 82), some (.int l1), none, none, none, none], [], enc s) (f_X7_readNumber_0 l1 s) := by
  unfold f_X7_readNumber_0
  refine fo_st rfl rfl ?_
  refine fo_callI (As := [.ref 82]) (rest := []) rfl rfl rfl rfl (mi_rcv_of (eg_7 _)) (c_X7_here LS xs d (by omega)  _) (fun qx1 => ?_)
  refine fo_st rfl rfl ?_
  refine fo_b rfl rfl ?_ ?_
  · refine fo_st rfl rfl ?_
    exact g_X7_readNumber_14 LS xs d hd _ _ _
  · refine fo_st rfl rfl ?_
    refine fo_st rfl rfl ?_
    exact g_X7_readNumber_14 LS xs d hd _ _ _
def f_X7_readNumber (l1 : Int32) (s : fS) : Option fS := f_X7_readNumber_0 l1 s
theorem c_X7_readNumber (LS : Nat) (xs : Nat → Int32) (d : Nat) (hd : 4 ≤ d) (l1 : Int32)  (s : fS) : fm mi_ms cvV LS xs d 107 [.ref 82, .int l1] (enc s) (f_X7_readNumber l1 s) := by
  obtain ⟨e, rfl⟩ : ∃ e, d = e + 1 := ⟨d - 1, by omega⟩
  exact fm_of (M := m_X7_readNumber) rfl rfl (fun _ => ⟨_, rfl⟩) (g_X7_readNumber_0 LS xs e (by omega) l1 s)
end FM6
