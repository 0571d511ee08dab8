section FM7
def f_X7_plainSort_124   (l1 : Int32) (l2 : Int32) (t0 : Int32) (s : fS) : Option (Int32 × fS) := some (t0, s)
theorem g_X7_plainSort_124 (LS : Nat) (xs : Nat → Int32) (d : Nat) (hd : 3 ≤ d)     (l1 : Int32) (l2 : Int32) (t0 : Int32)  (s : fS) : fo cvI t_X7_plainSort LS xs (mi_call mi_ms false LS xs d) (124, [some (.ref 82), some (.int l1), some (.int l2)], [.int t0], enc s) (f_X7_plainSort_124 l1 l2 t0 s) := by
  unfold f_X7_plainSort_124
  exact fo_ret rfl rfl rfl
def f_X7_plainSort_123   (l1 : Int32) (l2 : Int32) (s : fS) : Option (Int32 × fS) := f_X7_plainSort_124 l1 l2 (3 : Int32) s
theorem g_X7_plainSort_123 (LS : Nat) (xs : Nat → Int32) (d : Nat) (hd : 3 ≤ d)     (l1 : Int32) (l2 : Int32)  (s : fS) : fo cvI t_X7_plainSort LS xs (mi_call mi_ms false LS xs d) (123, [some (.ref 82), some (.int l1), some (.int l2)], [], enc s) (f_X7_plainSort_123 l1 l2 s) := by
  unfold f_X7_plainSort_123
  refine fo_st rfl rfl ?_
  exact g_X7_plainSort_124 LS xs d hd _ _ _ _
def f_X7_plainSort_119   (l1 : Int32) (l2 : Int32) (s : fS) : Option (Int32 × fS) := f_X7_plainSort_124 l1 l2 (1 : Int32) s
theorem g_X7_plainSort_119 (LS : Nat) (xs : Nat → Int32) (d : Nat) (hd : 3 ≤ d)     (l1 : Int32) (l2 : Int32)  (s : fS) : fo cvI t_X7_plainSort LS xs (mi_call mi_ms false LS xs d) (119, [some (.ref 82), some (.int l1), some (.int l2)], [], enc s) (f_X7_plainSort_119 l1 l2 s) := by
  unfold f_X7_plainSort_119
  refine fo_st rfl rfl ?_
  refine fo_st rfl rfl ?_
  exact g_X7_plainSort_124 LS xs d hd _ _ _ _
def f_X7_plainSort_80   (l1 : Int32) (l2 : Int32) (s : fS) : Option (Int32 × fS) := (bif decide (l2 = 0) then f_X7_plainSort_123 l1 l2 s else (bif decide ((6 : Int32) < (l1 - (gI s 82 27))) then f_X7_plainSort_123 l1 l2 s else (bif decide ((l1 - (gI s 82 27)) = (1 : Int32)) then f_X7_plainSort_119 l1 l2 s else fchk (mi_in (gI s 82 27) (gA s 83).length) ((bif decide (((gA s 83).getD (gI s 82 27).toNatClampNeg 0) = (48 : Int32)) then f_X7_plainSort_123 l1 l2 s else f_X7_plainSort_119 l1 l2 s)))))
theorem g_X7_plainSort_80 (LS : Nat) (xs : Nat → Int32) (d : Nat) (hd : 3 ≤ d)     (l1 : Int32) (l2 : Int32)  (s : fS) : fo cvI t_X7_plainSort LS xs (mi_call mi_ms false LS xs d) (80, [some (.ref 82), some (.int l1), some (.int l2)], [], enc s) (f_X7_plainSort_80 l1 l2 s) := by
  unfold f_X7_plainSort_80
  refine fo_st rfl rfl ?_
  refine fo_b rfl rfl ?_ ?_
  · exact g_X7_plainSort_123 LS xs d hd _ _ _
  · refine fo_st rfl rfl ?_
    refine fo_st rfl rfl ?_
    refine fo_get rfl (eg_7 _) rfl ?_
    refine fo_st rfl rfl ?_
    refine fo_st rfl rfl ?_
    refine fo_b rfl rfl ?_ ?_
    · exact g_X7_plainSort_123 LS xs d hd _ _ _
    · refine fo_st rfl rfl ?_
      refine fo_st rfl rfl ?_
      refine fo_get rfl (eg_7 _) rfl ?_
      refine fo_st rfl rfl ?_
      refine fo_st rfl rfl ?_
      refine fo_b rfl rfl ?_ ?_
      · exact g_X7_plainSort_119 LS xs d hd _ _ _
      · refine fo_st rfl rfl ?_
        refine fo_get rfl (eg_7 _) rfl ?_
        refine fo_st rfl rfl ?_
        refine fo_get rfl (eg_7 _) rfl ?_
        refine fo_iald rfl (eg_ar _ rfl) ?_
        refine fo_st rfl rfl ?_
        refine fo_b rfl rfl ?_ ?_
        · exact g_X7_plainSort_123 LS xs d hd _ _ _
        · exact g_X7_plainSort_119 LS xs d hd _ _ _
def f_X7_plainSort_55   (l1 : Int32) (l2 : Int32) (s : fS) : Option (Int32 × fS) := (bif decide (l2 = 0) then f_X7_plainSort_80 l1 l2 s else (bif decide ((gI s 82 2) ≤ l1) then f_X7_plainSort_80 l1 l2 s else fchk (mi_in l1 (gA s 83).length) ((bif decide (¬ ((gA s 83).getD l1.toNatClampNeg 0) = (46 : Int32)) then f_X7_plainSort_80 l1 l2 s else some ((2 : Int32), s)))))
theorem g_X7_plainSort_55 (LS : Nat) (xs : Nat → Int32) (d : Nat) (hd : 3 ≤ d)     (l1 : Int32) (l2 : Int32)  (s : fS) : fo cvI t_X7_plainSort LS xs (mi_call mi_ms false LS xs d) (55, [some (.ref 82), some (.int l1), some (.int l2)], [], enc s) (f_X7_plainSort_55 l1 l2 s) := by
  unfold f_X7_plainSort_55
  refine fo_st rfl rfl ?_
  refine fo_b rfl rfl ?_ ?_
  · exact g_X7_plainSort_80 LS xs d hd _ _ _
  · refine fo_st rfl rfl ?_
    refine fo_st rfl rfl ?_
    refine fo_get rfl (eg_7 _) rfl ?_
    refine fo_b rfl rfl ?_ ?_
    · exact g_X7_plainSort_80 LS xs d hd _ _ _
    · refine fo_st rfl rfl ?_
      refine fo_get rfl (eg_7 _) rfl ?_
      refine fo_st rfl rfl ?_
      refine fo_iald rfl (eg_ar _ rfl) ?_
      refine fo_st rfl rfl ?_
      refine fo_b rfl rfl ?_ ?_
      · exact g_X7_plainSort_80 LS xs d hd _ _ _
      · refine fo_st rfl rfl ?_
        exact fo_ret rfl rfl rfl
def f_X7_plainSort_48  (r7 : Int32 → Int32 → fS → Option (Int32 × fS)) (l1 : Int32) (l2 : Int32) (t0 : Int32) (s : fS) : Option (Int32 × fS) := r7 (l1 + Int32.ofInt (1)) t0 s
theorem g_X7_plainSort_48 (LS : Nat) (xs : Nat → Int32) (d : Nat) (hd : 3 ≤ d)   (r7 : Int32 → Int32 → fS → Option (Int32 × fS)) (q7 : ∀ (l1 : Int32) (l2 : Int32) (s : fS), fo cvI t_X7_plainSort LS xs (mi_call mi_ms false LS xs d) (7, [some (.ref 82), some (.int l1), some (.int l2)], [], enc s) (r7 l1 l2 s)) (l1 : Int32) (l2 : Int32) (t0 : Int32)  (s : fS) : fo cvI t_X7_plainSort LS xs (mi_call mi_ms false LS xs d) (48, [some (.ref 82), some (.int l1), some (.int l2)], [.int t0], enc s) (f_X7_plainSort_48 r7 l1 l2 t0 s) := by
  unfold f_X7_plainSort_48
  refine fo_st rfl rfl ?_
  refine fo_st rfl rfl ?_
  refine fo_st rfl rfl ?_
  exact q7 _ _ _
def f_X7_plainSort_47  (r7 : Int32 → Int32 → fS → Option (Int32 × fS)) (l1 : Int32) (l2 : Int32) (s : fS) : Option (Int32 × fS) := f_X7_plainSort_48 r7 l1 l2 (0 : Int32) s
theorem g_X7_plainSort_47 (LS : Nat) (xs : Nat → Int32) (d : Nat) (hd : 3 ≤ d)   (r7 : Int32 → Int32 → fS → Option (Int32 × fS)) (q7 : ∀ (l1 : Int32) (l2 : Int32) (s : fS), fo cvI t_X7_plainSort LS xs (mi_call mi_ms false LS xs d) (7, [some (.ref 82), some (.int l1), some (.int l2)], [], enc s) (r7 l1 l2 s)) (l1 : Int32) (l2 : Int32)  (s : fS) : fo cvI t_X7_plainSort LS xs (mi_call mi_ms false LS xs d) (47, [some (.ref 82), some (.int l1), some (.int l2)], [], enc s) (f_X7_plainSort_47 r7 l1 l2 s) := by
  unfold f_X7_plainSort_47
  refine fo_st rfl rfl ?_
  exact g_X7_plainSort_48 LS xs d hd _ q7 _ _ _ _
def f_X7_plainSort_7   : Nat → Int32 → Int32 → fS → Option (Int32 × fS)
  | 0, _, _, _ => none
  | n + 1, l1, l2, s => (bif decide ((gI s 82 2) ≤ l1) then f_X7_plainSort_55 l1 l2 s else fchk (mi_in l1 (gA s 83).length) (((f_X7_isPlain ((gA s 83).getD l1.toNatClampNeg 0) s).bind fun qx1 => (bif decide (qx1.1 = 0) then f_X7_plainSort_55 l1 l2 qx1.2 else (bif decide (l2 = 0) then f_X7_plainSort_47 (fun l1' l2' s' => f_X7_plainSort_7 n l1' l2' s') l1 l2 qx1.2 else fchk (mi_in l1 (gA qx1.2 83).length) (((f_X7_isFigure ((gA qx1.2 83).getD l1.toNatClampNeg 0) qx1.2).bind fun qx2 => (bif decide (qx2.1 = 0) then f_X7_plainSort_47 (fun l1' l2' s' => f_X7_plainSort_7 n l1' l2' s') l1 l2 qx2.2 else f_X7_plainSort_48 (fun l1' l2' s' => f_X7_plainSort_7 n l1' l2' s') l1 l2 (1 : Int32) qx2.2))))))))
theorem g_X7_plainSort_7 (LS : Nat) (xs : Nat → Int32) (d : Nat) (hd : 3 ≤ d)     (n : Nat) : ∀ (l1 : Int32) (l2 : Int32) (s : fS), fo cvI t_X7_plainSort LS xs (mi_call mi_ms false LS xs d) (7, [some (.ref 82), some (.int l1), some (.int l2)], [], enc s) (f_X7_plainSort_7 n l1 l2 s) := by
  induction n with
  | zero => intro l1 l2 s; exact fo_none
  | succ n ih =>
    intro l1 l2 s
    rw [f_X7_plainSort_7]
    refine fo_st rfl rfl ?_
    refine fo_st rfl rfl ?_
    refine fo_get rfl (eg_7 _) rfl ?_
    refine fo_b rfl rfl ?_ ?_
    · exact g_X7_plainSort_55 LS xs d hd _ _ _
    · refine fo_st rfl rfl ?_
      refine fo_get rfl (eg_7 _) rfl ?_
      refine fo_st rfl rfl ?_
      refine fo_iald rfl (eg_ar _ rfl) ?_
      refine fo_callI (As := [.int ((gA s 83).getD l1.toNatClampNeg 0)]) (rest := []) rfl rfl rfl rfl True.intro (c_X7_isPlain LS xs d (by omega) _ _) (fun qx1 => ?_)
      refine fo_b rfl rfl ?_ ?_
      · exact g_X7_plainSort_55 LS xs d hd _ _ _
      · refine fo_st rfl rfl ?_
        refine fo_b rfl rfl ?_ ?_
        · exact g_X7_plainSort_47 LS xs d hd _ ih _ _ _
        · refine fo_st rfl rfl ?_
          refine fo_get rfl (eg_7 _) rfl ?_
          refine fo_st rfl rfl ?_
          refine fo_iald rfl (eg_ar _ rfl) ?_
          refine fo_callI (As := [.int ((gA qx1.2 83).getD l1.toNatClampNeg 0)]) (rest := []) rfl rfl rfl rfl True.intro (c_X7_isFigure LS xs d (by omega) _ _) (fun qx2 => ?_)
          refine fo_b rfl rfl ?_ ?_
          · exact g_X7_plainSort_47 LS xs d hd _ ih _ _ _
          · refine fo_st rfl rfl ?_
            refine fo_st rfl rfl ?_
            exact g_X7_plainSort_48 LS xs d hd _ ih _ _ _ _
def f_X7_plainSort_0    (s : fS) : Option (Int32 × fS) := f_X7_plainSort_7 fuel (gI s 82 27) (1 : Int32) s
theorem g_X7_plainSort_0 (LS : Nat) (xs : Nat → Int32) (d : Nat) (hd : 3 ≤ d)       (s : fS) : fo cvI t_X7_plainSort LS xs (mi_call mi_ms false LS xs d) (0, [some (.ref 82), none, none], [], enc s) (f_X7_plainSort_0 s) := by
  unfold f_X7_plainSort_0
  refine fo_st rfl rfl ?_
  refine fo_get rfl (eg_7 _) rfl ?_
  refine fo_st rfl rfl ?_
  refine fo_st rfl rfl ?_
  refine fo_st rfl rfl ?_
  exact g_X7_plainSort_7 LS xs d hd fuel _ _ _
def f_X7_plainSort  (s : fS) : Option (Int32 × fS) := f_X7_plainSort_0 s
theorem c_X7_plainSort (LS : Nat) (xs : Nat → Int32) (d : Nat) (hd : 4 ≤ d)   (s : fS) : fm mi_ms cvI LS xs d 109 [.ref 82] (enc s) (f_X7_plainSort  s) := by
  obtain ⟨e, rfl⟩ : ∃ e, d = e + 1 := ⟨d - 1, by omega⟩
  exact fm_of (M := m_X7_plainSort) rfl rfl (fun _ => ⟨_, rfl⟩) (g_X7_plainSort_0 LS xs e (by omega) s)
theorem p_X7_plainSort_124    (l1 : Int32) (l2 : Int32) (t0 : Int32) (s : fS) : pu s (f_X7_plainSort_124 l1 l2 t0 s) := by
  unfold f_X7_plainSort_124
  exact pu_some rfl
theorem p_X7_plainSort_123    (l1 : Int32) (l2 : Int32) (s : fS) : pu s (f_X7_plainSort_123 l1 l2 s) := by
  unfold f_X7_plainSort_123
  exact p_X7_plainSort_124 _ _ _ _
theorem p_X7_plainSort_119    (l1 : Int32) (l2 : Int32) (s : fS) : pu s (f_X7_plainSort_119 l1 l2 s) := by
  unfold f_X7_plainSort_119
  exact p_X7_plainSort_124 _ _ _ _
theorem p_X7_plainSort_80    (l1 : Int32) (l2 : Int32) (s : fS) : pu s (f_X7_plainSort_80 l1 l2 s) := by
  unfold f_X7_plainSort_80
  refine pu_b ?_ ?_
  · exact p_X7_plainSort_123 _ _ _
  · refine pu_b ?_ ?_
    · exact p_X7_plainSort_123 _ _ _
    · refine pu_b ?_ ?_
      · exact p_X7_plainSort_119 _ _ _
      · refine pu_ck ?_
        refine pu_b ?_ ?_
        · exact p_X7_plainSort_123 _ _ _
        · exact p_X7_plainSort_119 _ _ _
theorem p_X7_plainSort_55    (l1 : Int32) (l2 : Int32) (s : fS) : pu s (f_X7_plainSort_55 l1 l2 s) := by
  unfold f_X7_plainSort_55
  refine pu_b ?_ ?_
  · exact p_X7_plainSort_80 _ _ _
  · refine pu_b ?_ ?_
    · exact p_X7_plainSort_80 _ _ _
    · refine pu_ck ?_
      refine pu_b ?_ ?_
      · exact p_X7_plainSort_80 _ _ _
      · exact pu_some rfl
theorem p_X7_plainSort_48  (r7 : Int32 → Int32 → fS → Option (Int32 × fS)) (q7 : ∀ (l1 : Int32) (l2 : Int32) (s : fS), pu s (r7 l1 l2 s)) (l1 : Int32) (l2 : Int32) (t0 : Int32) (s : fS) : pu s (f_X7_plainSort_48 r7 l1 l2 t0 s) := by
  unfold f_X7_plainSort_48
  exact q7 _ _ _
theorem p_X7_plainSort_47  (r7 : Int32 → Int32 → fS → Option (Int32 × fS)) (q7 : ∀ (l1 : Int32) (l2 : Int32) (s : fS), pu s (r7 l1 l2 s)) (l1 : Int32) (l2 : Int32) (s : fS) : pu s (f_X7_plainSort_47 r7 l1 l2 s) := by
  unfold f_X7_plainSort_47
  exact p_X7_plainSort_48 _ q7 _ _ _ _
theorem p_X7_plainSort_7    (n : Nat) : ∀ (l1 : Int32) (l2 : Int32) (s : fS), pu s (f_X7_plainSort_7 n l1 l2 s) := by
  induction n with
  | zero => intro l1 l2 s; exact pu_none
  | succ n ih =>
    intro l1 l2 s
    rw [f_X7_plainSort_7]
    refine pu_b ?_ ?_
    · exact p_X7_plainSort_55 _ _ _
    · refine pu_ck ?_
      refine pu_bind (p_X7_isPlain _ _) (fun v => ?_)
      refine pu_b ?_ ?_
      · exact p_X7_plainSort_55 _ _ _
      · refine pu_b ?_ ?_
        · exact p_X7_plainSort_47 _ ih _ _ _
        · refine pu_ck ?_
          refine pu_bind (p_X7_isFigure _ _) (fun v => ?_)
          refine pu_b ?_ ?_
          · exact p_X7_plainSort_47 _ ih _ _ _
          · exact p_X7_plainSort_48 _ ih _ _ _ _
theorem p_X7_plainSort_0     (s : fS) : pu s (f_X7_plainSort_0 s) := by
  unfold f_X7_plainSort_0
  exact p_X7_plainSort_7 fuel _ _ _
theorem p_X7_plainSort  (s : fS) : pu s (f_X7_plainSort  s) := p_X7_plainSort_0 s
def f_X7_readPlainDecimal_89   (l1 : Int32) (s : fS) : Option fS := some s
theorem g_X7_readPlainDecimal_89 (LS : Nat) (xs : Nat → Int32) (d : Nat) (hd : 4 ≤ d)     (l1 : Int32)  (s : fS) : fo cvV t_X7_readPlainDecimal LS xs (mi_call mi_ms false LS xs d) (89, [some (.ref 82), some (.int l1)], [], enc s) (f_X7_readPlainDecimal_89 l1 s) := by
  unfold f_X7_readPlainDecimal_89
  exact fo_ret rfl rfl rfl
def f_X7_readPlainDecimal_60   (l1 : Int32) (s : fS) : Option fS := (bif decide ((l1 - (gI s 82 27)) ≤ (3 : Int32)) then ((f_X7_readNumber (0 : Int32) s).bind fun qx1 => f_X7_readPlainDecimal_89 l1 qx1) else ((f_X7_wrong (2 : Int32) ((gI s 82 27) + (3 : Int32)) s).bind fun qx2 => f_X7_readPlainDecimal_89 l1 qx2))
theorem g_X7_readPlainDecimal_60 (LS : Nat) (xs : Nat → Int32) (d : Nat) (hd : 4 ≤ d)     (l1 : Int32)  (s : fS) : fo cvV t_X7_readPlainDecimal LS xs (mi_call mi_ms false LS xs d) (60, [some (.ref 82), some (.int l1)], [], enc s) (f_X7_readPlainDecimal_60 l1 s) := by
  unfold f_X7_readPlainDecimal_60
  refine fo_st rfl rfl ?_
  refine fo_st rfl rfl ?_
  refine fo_get rfl (eg_7 _) rfl ?_
  refine fo_st rfl rfl ?_
  refine fo_st rfl rfl ?_
  refine fo_b rfl rfl ?_ ?_
  · refine fo_st rfl rfl ?_
    refine fo_st rfl rfl ?_
    refine fo_callV (As := [.ref 82, .int (0 : Int32)]) (rest := []) rfl rfl rfl rfl (mi_rcv_of (eg_7 _)) (c_X7_readNumber LS xs d (by omega) _ _) (fun qx1 => ?_)
    exact g_X7_readPlainDecimal_89 LS xs d hd _ _
  · refine fo_st rfl rfl ?_
    refine fo_st rfl rfl ?_
    refine fo_st rfl rfl ?_
    refine fo_get rfl (eg_7 _) rfl ?_
    refine fo_st rfl rfl ?_
    refine fo_st rfl rfl ?_
    refine fo_callV (As := [.ref 82, .int (2 : Int32), .int ((gI s 82 27) + (3 : Int32))]) (rest := []) rfl rfl rfl rfl (mi_rcv_of (eg_7 _)) (c_X7_wrong LS xs d (by omega) _ _ _) (fun qx2 => ?_)
    refine fo_st rfl rfl ?_
    exact g_X7_readPlainDecimal_89 LS xs d hd _ _
def f_X7_readPlainDecimal_5   : Nat → Int32 → fS → Option fS
  | 0, _, _ => none
  | n + 1, l1, s => fchk (mi_in l1 (gA s 83).length) ((bif decide (((gA s 83).getD l1.toNatClampNeg 0) = (46 : Int32)) then fchk (mi_in (gI s 82 27) (gA s 83).length) ((bif decide (¬ ((gA s 83).getD (gI s 82 27).toNatClampNeg 0) = (48 : Int32)) then f_X7_readPlainDecimal_60 l1 s else (bif decide ((l1 - (gI s 82 27)) ≤ (1 : Int32)) then f_X7_readPlainDecimal_60 l1 s else ((f_X7_wrong (1 : Int32) ((gI s 82 27) + (1 : Int32)) s).bind fun qx1 => f_X7_readPlainDecimal_89 l1 qx1)))) else f_X7_readPlainDecimal_5 n (l1 + Int32.ofInt (1)) s))
theorem g_X7_readPlainDecimal_5 (LS : Nat) (xs : Nat → Int32) (d : Nat) (hd : 4 ≤ d)     (n : Nat) : ∀ (l1 : Int32) (s : fS), fo cvV t_X7_readPlainDecimal LS xs (mi_call mi_ms false LS xs d) (5, [some (.ref 82), some (.int l1)], [], enc s) (f_X7_readPlainDecimal_5 n l1 s) := by
  induction n with
  | zero => intro l1 s; exact fo_none
  | succ n ih =>
    intro l1 s
    rw [f_X7_readPlainDecimal_5]
    refine fo_st rfl rfl ?_
    refine fo_get rfl (eg_7 _) rfl ?_
    refine fo_st rfl rfl ?_
    refine fo_iald rfl (eg_ar _ rfl) ?_
    refine fo_st rfl rfl ?_
    refine fo_b rfl rfl ?_ ?_
    · refine fo_st rfl rfl ?_
      refine fo_get rfl (eg_7 _) rfl ?_
      refine fo_st rfl rfl ?_
      refine fo_get rfl (eg_7 _) rfl ?_
      refine fo_iald rfl (eg_ar _ rfl) ?_
      refine fo_st rfl rfl ?_
      refine fo_b rfl rfl ?_ ?_
      · exact g_X7_readPlainDecimal_60 LS xs d hd _ _
      · refine fo_st rfl rfl ?_
        refine fo_st rfl rfl ?_
        refine fo_get rfl (eg_7 _) rfl ?_
        refine fo_st rfl rfl ?_
        refine fo_st rfl rfl ?_
        refine fo_b rfl rfl ?_ ?_
        · exact g_X7_readPlainDecimal_60 LS xs d hd _ _
        · refine fo_st rfl rfl ?_
          refine fo_st rfl rfl ?_
          refine fo_st rfl rfl ?_
          refine fo_get rfl (eg_7 _) rfl ?_
          refine fo_st rfl rfl ?_
          refine fo_st rfl rfl ?_
          refine fo_callV (As := [.ref 82, .int (1 : Int32), .int ((gI s 82 27) + (1 : Int32))]) (rest := []) rfl rfl rfl rfl (mi_rcv_of (eg_7 _)) (c_X7_wrong LS xs d (by omega) _ _ _) (fun qx1 => ?_)
          refine fo_st rfl rfl ?_
          exact g_X7_readPlainDecimal_89 LS xs d hd _ _
    · refine fo_st rfl rfl ?_
      refine fo_st rfl rfl ?_
      exact ih _ _
def f_X7_readPlainDecimal_0    (s : fS) : Option fS := f_X7_readPlainDecimal_5 fuel (gI s 82 27) s
theorem g_X7_readPlainDecimal_0 (LS : Nat) (xs : Nat → Int32) (d : Nat) (hd : 4 ≤ d)       (s : fS) : fo cvV t_X7_readPlainDecimal LS xs (mi_call mi_ms false LS xs d) (0, [some (.ref 82), none], [], enc s) (f_X7_readPlainDecimal_0 s) := by
  unfold f_X7_readPlainDecimal_0
  refine fo_st rfl rfl ?_
  refine fo_get rfl (eg_7 _) rfl ?_
  refine fo_st rfl rfl ?_
  exact g_X7_readPlainDecimal_5 LS xs d hd fuel _ _
def f_X7_readPlainDecimal  (s : fS) : Option fS := f_X7_readPlainDecimal_0 s
theorem c_X7_readPlainDecimal (LS : Nat) (xs : Nat → Int32) (d : Nat) (hd : 5 ≤ d)   (s : fS) : fm mi_ms cvV LS xs d 110 [.ref 82] (enc s) (f_X7_readPlainDecimal  s) := by
  obtain ⟨e, rfl⟩ : ∃ e, d = e + 1 := ⟨d - 1, by omega⟩
  exact fm_of (M := m_X7_readPlainDecimal) rfl rfl (fun _ => ⟨_, rfl⟩) (g_X7_readPlainDecimal_0 LS xs e (by omega) s)
def f_X7_readAny_66   (l1 : Int32) (l2 : Int32) (s : fS) : Option fS := some s
theorem g_X7_readAny_66 (LS : Nat) (xs : Nat → Int32) (d : Nat) (hd : 5 ≤ d)     (l1 : Int32) (l2 : Int32)  (s : fS) : fo cvV t_X7_readAny LS xs (mi_call mi_ms false LS xs d) (66, [some (.ref 82), some (.int l1), some (.int l2)], [], enc s) (f_X7_readAny_66 l1 l2 s) := by
  unfold f_X7_readAny_66
  exact fo_ret rfl rfl rfl
def f_X7_readAny_54   (l1 : Int32) (l2 : Int32) (s : fS) : Option fS := ((f_X7_readNumber (0 : Int32) s).bind fun qx1 => f_X7_readAny_66 l1 l2 qx1)
theorem g_X7_readAny_54 (LS : Nat) (xs : Nat → Int32) (d : Nat) (hd : 5 ≤ d)     (l1 : Int32) (l2 : Int32)  (s : fS) : fo cvV t_X7_readAny LS xs (mi_call mi_ms false LS xs d) (54, [some (.ref 82), some (.int l1), some (.int l2)], [], enc s) (f_X7_readAny_54 l1 l2 s) := by
  unfold f_X7_readAny_54
  refine fo_st rfl rfl ?_
  refine fo_st rfl rfl ?_
  refine fo_callV (As := [.ref 82, .int (0 : Int32)]) (rest := []) rfl rfl rfl rfl (mi_rcv_of (eg_7 _)) (c_X7_readNumber LS xs d (by omega) _ _) (fun qx1 => ?_)
  refine fo_st rfl rfl ?_
  exact g_X7_readAny_66 LS xs d hd _ _ _
def f_X7_readAny_25   (l1 : Int32) (t0 : Int32) (s : fS) : Option fS := (bif decide (¬ t0 = (3 : Int32)) then (bif decide (l1 = (45 : Int32)) then f_X7_readAny_54 l1 t0 s else (bif decide (¬ t0 = (1 : Int32)) then ((f_X7_readPlainDecimal s).bind fun qx1 => f_X7_readAny_66 l1 t0 qx1) else f_X7_readAny_54 l1 t0 s)) else ((f_X7_readName (sI s 82 33 (3 : Int32))).bind fun qx2 => f_X7_readAny_66 l1 t0 qx2))
theorem g_X7_readAny_25 (LS : Nat) (xs : Nat → Int32) (d : Nat) (hd : 5 ≤ d)     (l1 : Int32) (t0 : Int32)  (s : fS) : fo cvV t_X7_readAny LS xs (mi_call mi_ms false LS xs d) (25, [some (.ref 82), some (.int l1), none], [.int t0], enc s) (f_X7_readAny_25 l1 t0 s) := by
  unfold f_X7_readAny_25
  refine fo_st rfl rfl ?_
  refine fo_st rfl rfl ?_
  refine fo_st rfl rfl ?_
  refine fo_b rfl rfl ?_ ?_
  · refine fo_st rfl rfl ?_
    refine fo_st rfl rfl ?_
    refine fo_b rfl rfl ?_ ?_
    · exact g_X7_readAny_54 LS xs d hd _ _ _
    · refine fo_st rfl rfl ?_
      refine fo_st rfl rfl ?_
      refine fo_b rfl rfl ?_ ?_
      · refine fo_st rfl rfl ?_
        refine fo_callV (As := [.ref 82]) (rest := []) rfl rfl rfl rfl (mi_rcv_of (eg_7 _)) (c_X7_readPlainDecimal LS xs d (by omega)  _) (fun qx1 => ?_)
        exact g_X7_readAny_66 LS xs d hd _ _ _
      · exact g_X7_readAny_54 LS xs d hd _ _ _
  · refine fo_st rfl rfl ?_
    refine fo_st rfl rfl ?_
    refine fo_put rfl (eg_7 _) rfl rfl (es_7_33 _ _) ?_
    refine fo_st rfl rfl ?_
    refine fo_callV (As := [.ref 82]) (rest := []) rfl rfl rfl rfl (mi_rcv_of (eg_7 _)) (c_X7_readName LS xs d (by omega)  _) (fun qx2 => ?_)
    refine fo_st rfl rfl ?_
    exact g_X7_readAny_66 LS xs d hd _ _ _
def f_X7_readAny_0   (l1 : Int32) (s : fS) : Option fS := (bif decide (¬ l1 = (45 : Int32)) then ((f_X7_isPlain l1 s).bind fun qx1 => (bif decide (qx1.1 = 0) then f_X7_readAny_25 l1 (3 : Int32) qx1.2 else ((f_X7_plainSort qx1.2).bind fun qx2 => f_X7_readAny_25 l1 qx2.1 qx2.2))) else f_X7_readAny_25 l1 (2 : Int32) s)
theorem g_X7_readAny_0 (LS : Nat) (xs : Nat → Int32) (d : Nat) (hd : 5 ≤ d)     (l1 : Int32)  (s : fS) : fo cvV t_X7_readAny LS xs (mi_call mi_ms false LS xs d) (0, [some (.ref 82), some (.int l1), none], [], enc s) (f_X7_readAny_0 l1 s) := by
  unfold f_X7_readAny_0
  refine fo_st rfl rfl ?_
  refine fo_st rfl rfl ?_
  refine fo_b rfl rfl ?_ ?_
  · refine fo_st rfl rfl ?_
    refine fo_callI (As := [.int l1]) (rest := []) rfl rfl rfl rfl True.intro (c_X7_isPlain LS xs d (by omega) _ _) (fun qx1 => ?_)
    refine fo_b rfl rfl ?_ ?_
    · refine fo_st rfl rfl ?_
      exact g_X7_readAny_25 LS xs d hd _ _ _
    · refine fo_st rfl rfl ?_
      refine fo_callI (As := [.ref 82]) (rest := []) rfl rfl rfl rfl (mi_rcv_of (eg_7 _)) (c_X7_plainSort LS xs d (by omega)  _) (fun qx2 => ?_)
      refine fo_st rfl rfl ?_
      exact g_X7_readAny_25 LS xs d hd _ _ _
  · refine fo_st rfl rfl ?_
    refine fo_st rfl rfl ?_
    exact g_X7_readAny_25 LS xs d hd _ _ _
def f_X7_readAny (l1 : Int32) (s : fS) : Option fS := f_X7_readAny_0 l1 s
theorem c_X7_readAny (LS : Nat) (xs : Nat → Int32) (d : Nat) (hd : 6 ≤ d) (l1 : Int32)  (s : fS) : fm mi_ms cvV LS xs d 112 [.ref 82, .int l1] (enc s) (f_X7_readAny l1 s) := by
  obtain ⟨e, rfl⟩ : ∃ e, d = e + 1 := ⟨d - 1, by omega⟩
  exact fm_of (M := m_X7_readAny) rfl rfl (fun _ => ⟨_, rfl⟩) (g_X7_readAny_0 LS xs e (by omega) l1 s)
def f_X7_readValue_216   (l1 : Int32) (l2 : Int32) (l3 : Int32) (s : fS) : Option fS := some s
theorem g_X7_readValue_216 (LS : Nat) (xs : Nat → Int32) (d : Nat) (hd : 6 ≤ d)     (l1 : Int32) (l2 : Int32) (l3 : Int32)  (s : fS) : fo cvV t_X7_readValue LS xs (mi_call mi_ms false LS xs d) (216, [some (.ref 82), some (.int l1), some (.int l2), some (.int l3)], [], enc s) (f_X7_readValue_216 l1 l2 l3 s) := by
  unfold f_X7_readValue_216
  exact fo_ret rfl rfl rfl
def f_X7_readValue_158   (l1 : Int32) (l2 : Int32) (l3 : Int32) (s : fS) : Option fS := ((f_X7_wrong (3 : Int32) (gI s 82 27) s).bind fun qx1 => f_X7_readValue_216 l1 l2 l3 qx1)
theorem g_X7_readValue_158 (LS : Nat) (xs : Nat → Int32) (d : Nat) (hd : 6 ≤ d)     (l1 : Int32) (l2 : Int32) (l3 : Int32)  (s : fS) : fo cvV t_X7_readValue LS xs (mi_call mi_ms false LS xs d) (158, [some (.ref 82), some (.int l1), some (.int l2), some (.int l3)], [], enc s) (f_X7_readValue_158 l1 l2 l3 s) := by
  unfold f_X7_readValue_158
  refine fo_st rfl rfl ?_
  refine fo_st rfl rfl ?_
  refine fo_st rfl rfl ?_
  refine fo_get rfl (eg_7 _) rfl ?_
  refine fo_callV (As := [.ref 82, .int (3 : Int32), .int (gI s 82 27)]) (rest := []) rfl rfl rfl rfl (mi_rcv_of (eg_7 _)) (c_X7_wrong LS xs d (by omega) _ _ _) (fun qx1 => ?_)
  refine fo_st rfl rfl ?_
  exact g_X7_readValue_216 LS xs d hd _ _ _ _
def f_X7_readValue_193   (l1 : Int32) (l2 : Int32) (l3 : Int32) (t0 : Int32) (s : fS) : Option fS := ((f_X7_readNumber t0 s).bind fun qx1 => f_X7_readValue_216 l1 l2 l3 qx1)
theorem g_X7_readValue_193 (LS : Nat) (xs : Nat → Int32) (d : Nat) (hd : 6 ≤ d)     (l1 : Int32) (l2 : Int32) (l3 : Int32) (t0 : Int32)  (s : fS) : fo cvV t_X7_readValue LS xs (mi_call mi_ms false LS xs d) (193, [some (.ref 82), some (.int l1), some (.int l2), some (.int l3)], [.int t0, .ref 82], enc s) (f_X7_readValue_193 l1 l2 l3 t0 s) := by
  unfold f_X7_readValue_193
  refine fo_callV (As := [.ref 82, .int t0]) (rest := []) rfl rfl rfl rfl (mi_rcv_of (eg_7 _)) (c_X7_readNumber LS xs d (by omega) _ _) (fun qx1 => ?_)
  refine fo_st rfl rfl ?_
  exact g_X7_readValue_216 LS xs d hd _ _ _ _
def f_X7_readValue_183   (l1 : Int32) (l2 : Int32) (l3 : Int32) (s : fS) : Option fS := (bif decide (¬ l1 = 0) then f_X7_readValue_193 l1 l2 l3 (0 : Int32) s else f_X7_readValue_193 l1 l2 l3 (1 : Int32) s)
theorem g_X7_readValue_183 (LS : Nat) (xs : Nat → Int32) (d : Nat) (hd : 6 ≤ d)     (l1 : Int32) (l2 : Int32) (l3 : Int32)  (s : fS) : fo cvV t_X7_readValue LS xs (mi_call mi_ms false LS xs d) (183, [some (.ref 82), some (.int l1), some (.int l2), some (.int l3)], [], enc s) (f_X7_readValue_183 l1 l2 l3 s) := by
  unfold f_X7_readValue_183
  refine fo_st rfl rfl ?_
  refine fo_st rfl rfl ?_
  refine fo_b rfl rfl ?_ ?_
  · refine fo_st rfl rfl ?_
    exact g_X7_readValue_193 LS xs d hd _ _ _ _ _
  · refine fo_st rfl rfl ?_
    refine fo_st rfl rfl ?_
    exact g_X7_readValue_193 LS xs d hd _ _ _ _ _
def f_X7_readValue_170   (l1 : Int32) (l2 : Int32) (l3 : Int32) (s : fS) : Option fS := (bif decide (l2 = (45 : Int32)) then f_X7_readValue_183 l1 l2 l3 s else ((f_X7_isFigure l2 s).bind fun qx1 => (bif decide (qx1.1 = 0) then ((f_X7_wrong (1 : Int32) (gI qx1.2 82 27) qx1.2).bind fun qx2 => f_X7_readValue_216 l1 l2 l3 qx2) else f_X7_readValue_183 l1 l2 l3 qx1.2)))
theorem g_X7_readValue_170 (LS : Nat) (xs : Nat → Int32) (d : Nat) (hd : 6 ≤ d)     (l1 : Int32) (l2 : Int32) (l3 : Int32)  (s : fS) : fo cvV t_X7_readValue LS xs (mi_call mi_ms false LS xs d) (170, [some (.ref 82), some (.int l1), some (.int l2), some (.int l3)], [], enc s) (f_X7_readValue_170 l1 l2 l3 s) := by
  unfold f_X7_readValue_170
  refine fo_st rfl rfl ?_
  refine fo_st rfl rfl ?_
  refine fo_b rfl rfl ?_ ?_
  · exact g_X7_readValue_183 LS xs d hd _ _ _ _
  · refine fo_st rfl rfl ?_
    refine fo_callI (As := [.int l2]) (rest := []) rfl rfl rfl rfl True.intro (c_X7_isFigure LS xs d (by omega) _ _) (fun qx1 => ?_)
    refine fo_b rfl rfl ?_ ?_
    · refine fo_st rfl rfl ?_
      refine fo_st rfl rfl ?_
      refine fo_st rfl rfl ?_
      refine fo_get rfl (eg_7 _) rfl ?_
      refine fo_callV (As := [.ref 82, .int (1 : Int32), .int (gI qx1.2 82 27)]) (rest := []) rfl rfl rfl rfl (mi_rcv_of (eg_7 _)) (c_X7_wrong LS xs d (by omega) _ _ _) (fun qx2 => ?_)
      refine fo_st rfl rfl ?_
      exact g_X7_readValue_216 LS xs d hd _ _ _ _
    · exact g_X7_readValue_183 LS xs d hd _ _ _ _
def f_X7_readValue_73   (l1 : Int32) (l2 : Int32) (t0 : Int32) (s : fS) : Option fS := (bif decide (t0 = 0) then (bif decide (¬ l1 = (2 : Int32)) then (bif decide ((2 : Int32) ≤ l1) then ((f_X7_readAny l2 s).bind fun qx1 => f_X7_readValue_216 l1 l2 t0 qx1) else (bif decide (l2 = (34 : Int32)) then f_X7_readValue_158 l1 l2 t0 s else ((f_X7_isPlain l2 s).bind fun qx2 => (bif decide (qx2.1 = 0) then f_X7_readValue_170 l1 l2 t0 qx2.2 else ((f_X7_isFigure l2 qx2.2).bind fun qx3 => (bif decide (¬ qx3.1 = 0) then f_X7_readValue_170 l1 l2 t0 qx3.2 else f_X7_readValue_158 l1 l2 t0 qx3.2)))))) else (bif decide (¬ l2 = (45 : Int32)) then ((f_X7_readName (sI s 82 33 (3 : Int32))).bind fun qx4 => f_X7_readValue_216 l1 l2 t0 qx4) else ((f_X7_wrong (1 : Int32) ((gI s 82 27) + (1 : Int32)) (sI s 82 33 (3 : Int32))).bind fun qx5 => f_X7_readValue_216 l1 l2 t0 qx5))) else f_X7_readValue_216 l1 l2 t0 (sI (sI s 82 33 (0 : Int32)) 82 27 ((gI s 82 27) + (1 : Int32))))
theorem g_X7_readValue_73 (LS : Nat) (xs : Nat → Int32) (d : Nat) (hd : 6 ≤ d)     (l1 : Int32) (l2 : Int32) (t0 : Int32)  (s : fS) : fo cvV t_X7_readValue LS xs (mi_call mi_ms false LS xs d) (73, [some (.ref 82), some (.int l1), some (.int l2), none], [.int t0], enc s) (f_X7_readValue_73 l1 l2 t0 s) := by
  unfold f_X7_readValue_73
  refine fo_st rfl rfl ?_
  refine fo_st rfl rfl ?_
  refine fo_b rfl rfl ?_ ?_
  · refine fo_st rfl rfl ?_
    refine fo_st rfl rfl ?_
    refine fo_b rfl rfl ?_ ?_
    · refine fo_st rfl rfl ?_
      refine fo_st rfl rfl ?_
      refine fo_b rfl rfl ?_ ?_
      · refine fo_st rfl rfl ?_
        refine fo_st rfl rfl ?_
        refine fo_callV (As := [.ref 82, .int l2]) (rest := []) rfl rfl rfl rfl (mi_rcv_of (eg_7 _)) (c_X7_readAny LS xs d (by omega) _ _) (fun qx1 => ?_)
        exact g_X7_readValue_216 LS xs d hd _ _ _ _
      · refine fo_st rfl rfl ?_
        refine fo_st rfl rfl ?_
        refine fo_b rfl rfl ?_ ?_
        · exact g_X7_readValue_158 LS xs d hd _ _ _ _
        · refine fo_st rfl rfl ?_
          refine fo_callI (As := [.int l2]) (rest := []) rfl rfl rfl rfl True.intro (c_X7_isPlain LS xs d (by omega) _ _) (fun qx2 => ?_)
          refine fo_b rfl rfl ?_ ?_
          · exact g_X7_readValue_170 LS xs d hd _ _ _ _
          · refine fo_st rfl rfl ?_
            refine fo_callI (As := [.int l2]) (rest := []) rfl rfl rfl rfl True.intro (c_X7_isFigure LS xs d (by omega) _ _) (fun qx3 => ?_)
            refine fo_b rfl rfl ?_ ?_
            · exact g_X7_readValue_170 LS xs d hd _ _ _ _
            · exact g_X7_readValue_158 LS xs d hd _ _ _ _
    · refine fo_st rfl rfl ?_
      refine fo_st rfl rfl ?_
      refine fo_put rfl (eg_7 _) rfl rfl (es_7_33 _ _) ?_
      refine fo_st rfl rfl ?_
      refine fo_st rfl rfl ?_
      refine fo_b rfl rfl ?_ ?_
      · refine fo_st rfl rfl ?_
        refine fo_callV (As := [.ref 82]) (rest := []) rfl rfl rfl rfl (mi_rcv_of (eg_7 _)) (c_X7_readName LS xs d (by omega)  _) (fun qx4 => ?_)
        refine fo_st rfl rfl ?_
        exact g_X7_readValue_216 LS xs d hd _ _ _ _
      · refine fo_st rfl rfl ?_
        refine fo_st rfl rfl ?_
        refine fo_st rfl rfl ?_
        refine fo_get rfl (eg_7 _) rfl ?_
        refine fo_st rfl rfl ?_
        refine fo_st rfl rfl ?_
        refine fo_callV (As := [.ref 82, .int (1 : Int32), .int ((gI s 82 27) + (1 : Int32))]) (rest := []) rfl rfl rfl rfl (mi_rcv_of (eg_7 _)) (c_X7_wrong LS xs d (by omega) _ _ _) (fun qx5 => ?_)
        refine fo_st rfl rfl ?_
        exact g_X7_readValue_216 LS xs d hd _ _ _ _
  · refine fo_st rfl rfl ?_
    refine fo_st rfl rfl ?_
    refine fo_put rfl (eg_7 _) rfl rfl (es_7_33 _ _) ?_
    refine fo_st rfl rfl ?_
    refine fo_st rfl rfl ?_
    refine fo_get rfl (eg_7 _) rfl ?_
    refine fo_st rfl rfl ?_
    refine fo_st rfl rfl ?_
    refine fo_put rfl (eg_7 _) rfl rfl (es_7_27 _ _) ?_
    refine fo_st rfl rfl ?_
    exact g_X7_readValue_216 LS xs d hd _ _ _ _
def f_X7_readValue_72   (l1 : Int32) (l2 : Int32) (s : fS) : Option fS := f_X7_readValue_73 l1 l2 (0 : Int32) s
theorem g_X7_readValue_72 (LS : Nat) (xs : Nat → Int32) (d : Nat) (hd : 6 ≤ d)     (l1 : Int32) (l2 : Int32)  (s : fS) : fo cvV t_X7_readValue LS xs (mi_call mi_ms false LS xs d) (72, [some (.ref 82), some (.int l1), some (.int l2), none], [], enc s) (f_X7_readValue_72 l1 l2 s) := by
  unfold f_X7_readValue_72
  refine fo_st rfl rfl ?_
  exact g_X7_readValue_73 LS xs d hd _ _ _ _
def f_X7_readValue_68   (l1 : Int32) (l2 : Int32) (s : fS) : Option fS := f_X7_readValue_73 l1 l2 (1 : Int32) s
theorem g_X7_readValue_68 (LS : Nat) (xs : Nat → Int32) (d : Nat) (hd : 6 ≤ d)     (l1 : Int32) (l2 : Int32)  (s : fS) : fo cvV t_X7_readValue LS xs (mi_call mi_ms false LS xs d) (68, [some (.ref 82), some (.int l1), some (.int l2), none], [], enc s) (f_X7_readValue_68 l1 l2 s) := by
  unfold f_X7_readValue_68
  refine fo_st rfl rfl ?_
  refine fo_st rfl rfl ?_
  exact g_X7_readValue_73 LS xs d hd _ _ _ _
def f_X7_readValue_0   (l1 : Int32) (s : fS) : Option fS := fchk (mi_in (0 : Int32) (gA s 103).length) (((f_X7_here (sI (sA s 103 ((gA s 103).set (0 : Int32).toNatClampNeg (0 : Int32))) 82 34 (0 : Int32))).bind fun qx1 => (bif decide (¬ qx1.1 = (45 : Int32)) then f_X7_readValue_72 l1 qx1.1 qx1.2 else (bif decide ((gI qx1.2 82 2) ≤ ((gI qx1.2 82 27) + (1 : Int32))) then f_X7_readValue_68 l1 qx1.1 qx1.2 else fchk (mi_in ((gI qx1.2 82 27) + (1 : Int32)) (gA qx1.2 83).length) ((bif decide (((gA qx1.2 83).getD ((gI qx1.2 82 27) + (1 : Int32)).toNatClampNeg 0) = (32 : Int32)) then f_X7_readValue_68 l1 qx1.1 qx1.2 else fchk (mi_in ((gI qx1.2 82 27) + (1 : Int32)) (gA qx1.2 83).length) ((bif decide (¬ ((gA qx1.2 83).getD ((gI qx1.2 82 27) + (1 : Int32)).toNatClampNeg 0) = (10 : Int32)) then f_X7_readValue_72 l1 qx1.1 qx1.2 else f_X7_readValue_68 l1 qx1.1 qx1.2))))))))
theorem g_X7_readValue_0 (LS : Nat) (xs : Nat → Int32) (d : Nat) (hd : 6 ≤ d)     (l1 : Int32)  (s : fS) : fo cvV t_X7_readValue LS xs (mi_call mi_ms false LS xs d) (0, [some (.ref 82), some (.int l1), none, none], [], enc s) (f_X7_readValue_0 l1 s) := by
  unfold f_X7_readValue_0
  refine fo_st rfl rfl ?_
  refine fo_get rfl (eg_7 _) rfl ?_
  refine fo_st rfl rfl ?_
  refine fo_st rfl rfl ?_
  refine fo_iast rfl (eg_ar _ rfl) (es_ar _ rfl _) ?_
  refine fo_st rfl rfl ?_
  refine fo_st rfl rfl ?_
  refine fo_put rfl (eg_7 _) rfl rfl (es_7_34 _ _) ?_
  refine fo_st rfl rfl ?_
  refine fo_callI (As := [.ref 82]) (rest := []) rfl rfl rfl rfl (mi_rcv_of (eg_7 _)) (c_X7_here LS xs d (by omega)  _) (fun qx1 => ?_)
  refine fo_st rfl rfl ?_
  refine fo_st rfl rfl ?_
  refine fo_st rfl rfl ?_
  refine fo_b rfl rfl ?_ ?_
  · exact g_X7_readValue_72 LS xs d hd _ _ _
  · refine fo_st rfl rfl ?_
    refine fo_get rfl (eg_7 _) rfl ?_
    refine fo_st rfl rfl ?_
    refine fo_st rfl rfl ?_
    refine fo_st rfl rfl ?_
    refine fo_get rfl (eg_7 _) rfl ?_
    refine fo_b rfl rfl ?_ ?_
    · exact g_X7_readValue_68 LS xs d hd _ _ _
    · refine fo_st rfl rfl ?_
      refine fo_get rfl (eg_7 _) rfl ?_
      refine fo_st rfl rfl ?_
      refine fo_get rfl (eg_7 _) rfl ?_
      refine fo_st rfl rfl ?_
      refine fo_st rfl rfl ?_
      refine fo_iald rfl (eg_ar _ rfl) ?_
      refine fo_st rfl rfl ?_
      refine fo_b rfl rfl ?_ ?_
      · exact g_X7_readValue_68 LS xs d hd _ _ _
      · refine fo_st rfl rfl ?_
        refine fo_get rfl (eg_7 _) rfl ?_
        refine fo_st rfl rfl ?_
        refine fo_get rfl (eg_7 _) rfl ?_
        refine fo_st rfl rfl ?_
        refine fo_st rfl rfl ?_
        refine fo_iald rfl (eg_ar _ rfl) ?_
        refine fo_st rfl rfl ?_
        refine fo_b rfl rfl ?_ ?_
        · exact g_X7_readValue_72 LS xs d hd _ _ _
        · exact g_X7_readValue_68 LS xs d hd _ _ _
def f_X7_readValue (l1 : Int32) (s : fS) : Option fS := f_X7_readValue_0 l1 s
theorem c_X7_readValue (LS : Nat) (xs : Nat → Int32) (d : Nat) (hd : 7 ≤ d) (l1 : Int32)  (s : fS) : fm mi_ms cvV LS xs d 111 [.ref 82, .int l1] (enc s) (f_X7_readValue l1 s) := by
  obtain ⟨e, rfl⟩ : ∃ e, d = e + 1 := ⟨d - 1, by omega⟩
  exact fm_of (M := m_X7_readValue) rfl rfl (fun _ => ⟨_, rfl⟩) (g_X7_readValue_0 LS xs e (by omega) l1 s)
def f_X7_isSame_64 (a1 : Nat)  (l2 : Int32) (l3 : Int32) (l4 : Int32) (s : fS) : Option (Int32 × fS) := fchk (fbl l3) (some (l3, s))
theorem g_X7_isSame_64 (LS : Nat) (xs : Nat → Int32) (d : Nat) (hd : 0 ≤ d) (a1 : Nat) (h1 : isAr a1 = true)   (l2 : Int32) (l3 : Int32) (l4 : Int32)  (s : fS) : fo cvI t_X7_isSame LS xs (mi_call mi_ms false LS xs d) (64, [some (.ref 82), some (.ref a1), some (.int l2), some (.int l3), some (.int l4)], [], enc s) (f_X7_isSame_64 a1 l2 l3 l4 s) := by
  unfold f_X7_isSame_64
  refine fo_st rfl rfl ?_
  exact fo_ret2 rfl rfl
def f_X7_isSame_57 (a1 : Nat) (r21 : Int32 → Int32 → Int32 → fS → Option (Int32 × fS)) (l2 : Int32) (l3 : Int32) (l4 : Int32) (t0 : Int32) (s : fS) : Option (Int32 × fS) := r21 l2 t0 (l4 + Int32.ofInt (1)) s
theorem g_X7_isSame_57 (LS : Nat) (xs : Nat → Int32) (d : Nat) (hd : 0 ≤ d) (a1 : Nat) (h1 : isAr a1 = true) (r21 : Int32 → Int32 → Int32 → fS → Option (Int32 × fS)) (q21 : ∀ (l2 : Int32) (l3 : Int32) (l4 : Int32) (s : fS), fo cvI t_X7_isSame LS xs (mi_call mi_ms false LS xs d) (21, [some (.ref 82), some (.ref a1), some (.int l2), some (.int l3), some (.int l4)], [], enc s) (r21 l2 l3 l4 s)) (l2 : Int32) (l3 : Int32) (l4 : Int32) (t0 : Int32)  (s : fS) : fo cvI t_X7_isSame LS xs (mi_call mi_ms false LS xs d) (57, [some (.ref 82), some (.ref a1), some (.int l2), some (.int l3), some (.int l4)], [.int t0], enc s) (f_X7_isSame_57 a1 r21 l2 l3 l4 t0 s) := by
  unfold f_X7_isSame_57
  refine fo_st rfl rfl ?_
  refine fo_st rfl rfl ?_
  refine fo_st rfl rfl ?_
  exact q21 _ _ _ _
def f_X7_isSame_21 (a1 : Nat)  : Nat → Int32 → Int32 → Int32 → fS → Option (Int32 × fS)
  | 0, _, _, _, _ => none
  | n + 1, l2, l3, l4, s => fchk (mi_in (0 : Int32) (gA s 103).length) ((bif decide (((gA s 103).getD (0 : Int32).toNatClampNeg 0) < l4) then f_X7_isSame_64 a1 l2 l3 l4 s else (bif decide (l3 = 0) then f_X7_isSame_64 a1 l2 l3 l4 s else fchk (mi_in (l2 + l4) (gA s a1).length) (fchk (mi_in l4 (gA s 103).length) ((bif decide (¬ ((gA s a1).getD (l2 + l4).toNatClampNeg 0) = ((gA s 103).getD l4.toNatClampNeg 0)) then f_X7_isSame_57 a1 (fun l2' l3' l4' s' => f_X7_isSame_21 a1 n l2' l3' l4' s') l2 l3 l4 (0 : Int32) s else f_X7_isSame_57 a1 (fun l2' l3' l4' s' => f_X7_isSame_21 a1 n l2' l3' l4' s') l2 l3 l4 (1 : Int32) s))))))
theorem g_X7_isSame_21 (LS : Nat) (xs : Nat → Int32) (d : Nat) (hd : 0 ≤ d) (a1 : Nat) (h1 : isAr a1 = true)   (n : Nat) : ∀ (l2 : Int32) (l3 : Int32) (l4 : Int32) (s : fS), fo cvI t_X7_isSame LS xs (mi_call mi_ms false LS xs d) (21, [some (.ref 82), some (.ref a1), some (.int l2), some (.int l3), some (.int l4)], [], enc s) (f_X7_isSame_21 a1 n l2 l3 l4 s) := by
  induction n with
  | zero => intro l2 l3 l4 s; exact fo_none
  | succ n ih =>
    intro l2 l3 l4 s
    rw [f_X7_isSame_21]
    refine fo_st rfl rfl ?_
    refine fo_st rfl rfl ?_
    refine fo_get rfl (eg_7 _) rfl ?_
    refine fo_st rfl rfl ?_
    refine fo_iald rfl (eg_ar _ rfl) ?_
    refine fo_b rfl rfl ?_ ?_
    · exact g_X7_isSame_64 LS xs d hd a1 h1 _ _ _ _
    · refine fo_st rfl rfl ?_
      refine fo_b rfl rfl ?_ ?_
      · exact g_X7_isSame_64 LS xs d hd a1 h1 _ _ _ _
      · refine fo_st rfl rfl ?_
        refine fo_st rfl rfl ?_
        refine fo_st rfl rfl ?_
        refine fo_st rfl rfl ?_
        refine fo_iald rfl (eg_ar _ h1) ?_
        refine fo_st rfl rfl ?_
        refine fo_get rfl (eg_7 _) rfl ?_
        refine fo_st rfl rfl ?_
        refine fo_iald rfl (eg_ar _ rfl) ?_
        refine fo_b rfl rfl ?_ ?_
        · refine fo_st rfl rfl ?_
          exact g_X7_isSame_57 LS xs d hd a1 h1 _ ih _ _ _ _ _
        · refine fo_st rfl rfl ?_
          refine fo_st rfl rfl ?_
          exact g_X7_isSame_57 LS xs d hd a1 h1 _ ih _ _ _ _ _
def f_X7_isSame_17 (a1 : Nat)  (l2 : Int32) (t0 : Int32) (s : fS) : Option (Int32 × fS) := f_X7_isSame_21 a1 fuel l2 t0 (1 : Int32) s
theorem g_X7_isSame_17 (LS : Nat) (xs : Nat → Int32) (d : Nat) (hd : 0 ≤ d) (a1 : Nat) (h1 : isAr a1 = true)   (l2 : Int32) (t0 : Int32)  (s : fS) : fo cvI t_X7_isSame LS xs (mi_call mi_ms false LS xs d) (17, [some (.ref 82), some (.ref a1), some (.int l2), none, none], [.int t0], enc s) (f_X7_isSame_17 a1 l2 t0 s) := by
  unfold f_X7_isSame_17
  refine fo_st rfl rfl ?_
  refine fo_st rfl rfl ?_
  refine fo_st rfl rfl ?_
  exact g_X7_isSame_21 LS xs d hd a1 h1 fuel _ _ _ _
def f_X7_isSame_0 (a1 : Nat)  (l2 : Int32) (s : fS) : Option (Int32 × fS) := fchk (mi_in l2 (gA s a1).length) (fchk (mi_in (0 : Int32) (gA s 103).length) ((bif decide (¬ ((gA s a1).getD l2.toNatClampNeg 0) = ((gA s 103).getD (0 : Int32).toNatClampNeg 0)) then f_X7_isSame_17 a1 l2 (0 : Int32) s else f_X7_isSame_17 a1 l2 (1 : Int32) s)))
theorem g_X7_isSame_0 (LS : Nat) (xs : Nat → Int32) (d : Nat) (hd : 0 ≤ d) (a1 : Nat) (h1 : isAr a1 = true)   (l2 : Int32)  (s : fS) : fo cvI t_X7_isSame LS xs (mi_call mi_ms false LS xs d) (0, [some (.ref 82), some (.ref a1), some (.int l2), none, none], [], enc s) (f_X7_isSame_0 a1 l2 s) := by
  unfold f_X7_isSame_0
  refine fo_st rfl rfl ?_
  refine fo_st rfl rfl ?_
  refine fo_iald rfl (eg_ar _ h1) ?_
  refine fo_st rfl rfl ?_
  refine fo_get rfl (eg_7 _) rfl ?_
  refine fo_st rfl rfl ?_
  refine fo_iald rfl (eg_ar _ rfl) ?_
  refine fo_b rfl rfl ?_ ?_
  · refine fo_st rfl rfl ?_
    exact g_X7_isSame_17 LS xs d hd a1 h1 _ _ _
  · refine fo_st rfl rfl ?_
    refine fo_st rfl rfl ?_
    exact g_X7_isSame_17 LS xs d hd a1 h1 _ _ _
def f_X7_isSame (a1 : Nat) (l2 : Int32) (s : fS) : Option (Int32 × fS) := f_X7_isSame_0 a1 l2 s
theorem c_X7_isSame (LS : Nat) (xs : Nat → Int32) (d : Nat) (hd : 1 ≤ d) (a1 : Nat) (l2 : Int32) (h1 : isAr a1 = true) (s : fS) : fm mi_ms cvI LS xs d 113 [.ref 82, .ref a1, .int l2] (enc s) (f_X7_isSame a1 l2 s) := by
  obtain ⟨e, rfl⟩ : ∃ e, d = e + 1 := ⟨d - 1, by omega⟩
  exact fm_of (M := m_X7_isSame) rfl rfl (fun _ => ⟨_, rfl⟩) (g_X7_isSame_0 LS xs e (by omega) a1 h1 l2 s)
theorem p_X7_isSame_64 (a1 : Nat)   (l2 : Int32) (l3 : Int32) (l4 : Int32) (s : fS) : pu s (f_X7_isSame_64 a1 l2 l3 l4 s) := by
  unfold f_X7_isSame_64
  refine pu_ck ?_
  exact pu_some rfl
theorem p_X7_isSame_57 (a1 : Nat) (r21 : Int32 → Int32 → Int32 → fS → Option (Int32 × fS)) (q21 : ∀ (l2 : Int32) (l3 : Int32) (l4 : Int32) (s : fS), pu s (r21 l2 l3 l4 s)) (l2 : Int32) (l3 : Int32) (l4 : Int32) (t0 : Int32) (s : fS) : pu s (f_X7_isSame_57 a1 r21 l2 l3 l4 t0 s) := by
  unfold f_X7_isSame_57
  exact q21 _ _ _ _
theorem p_X7_isSame_21 (a1 : Nat)   (n : Nat) : ∀ (l2 : Int32) (l3 : Int32) (l4 : Int32) (s : fS), pu s (f_X7_isSame_21 a1 n l2 l3 l4 s) := by
  induction n with
  | zero => intro l2 l3 l4 s; exact pu_none
  | succ n ih =>
    intro l2 l3 l4 s
    rw [f_X7_isSame_21]
    refine pu_ck ?_
    refine pu_b ?_ ?_
    · exact p_X7_isSame_64 a1 _ _ _ _
    · refine pu_b ?_ ?_
      · exact p_X7_isSame_64 a1 _ _ _ _
      · refine pu_ck ?_
        refine pu_ck ?_
        refine pu_b ?_ ?_
        · exact p_X7_isSame_57 a1 _ ih _ _ _ _ _
        · exact p_X7_isSame_57 a1 _ ih _ _ _ _ _
theorem p_X7_isSame_17 (a1 : Nat)   (l2 : Int32) (t0 : Int32) (s : fS) : pu s (f_X7_isSame_17 a1 l2 t0 s) := by
  unfold f_X7_isSame_17
  exact p_X7_isSame_21 a1 fuel _ _ _ _
theorem p_X7_isSame_0 (a1 : Nat)   (l2 : Int32) (s : fS) : pu s (f_X7_isSame_0 a1 l2 s) := by
  unfold f_X7_isSame_0
  refine pu_ck ?_
  refine pu_ck ?_
  refine pu_b ?_ ?_
  · exact p_X7_isSame_17 a1 _ _ _
  · exact p_X7_isSame_17 a1 _ _ _
theorem p_X7_isSame (a1 : Nat) (l2 : Int32) (s : fS) : pu s (f_X7_isSame a1 l2 s) := p_X7_isSame_0 a1 l2 s
def f_X7_layName_2 (a1 : Nat)  : Nat → Int32 → Int32 → fS → Option fS
  | 0, _, _, _ => none
  | n + 1, l2, l3, s => fchk (mi_in (0 : Int32) (gA s 103).length) ((bif decide (((gA s 103).getD (0 : Int32).toNatClampNeg 0) < l3) then some s else fchk (mi_in l3 (gA s 103).length) (fchk (mi_in (l2 + l3) (gA s a1).length) (f_X7_layName_2 a1 n l2 (l3 + Int32.ofInt (1)) (sA s a1 ((gA s a1).set (l2 + l3).toNatClampNeg ((gA s 103).getD l3.toNatClampNeg 0)))))))
theorem g_X7_layName_2 (LS : Nat) (xs : Nat → Int32) (d : Nat) (hd : 0 ≤ d) (a1 : Nat) (h1 : isAr a1 = true)   (n : Nat) : ∀ (l2 : Int32) (l3 : Int32) (s : fS), fo cvV t_X7_layName LS xs (mi_call mi_ms false LS xs d) (2, [some (.ref 82), some (.ref a1), some (.int l2), some (.int l3)], [], enc s) (f_X7_layName_2 a1 n l2 l3 s) := by
  induction n with
  | zero => intro l2 l3 s; exact fo_none
  | succ n ih =>
    intro l2 l3 s
    rw [f_X7_layName_2]
    refine fo_st rfl rfl ?_
    refine fo_st rfl rfl ?_
    refine fo_get rfl (eg_7 _) rfl ?_
    refine fo_st rfl rfl ?_
    refine fo_iald rfl (eg_ar _ rfl) ?_
    refine fo_b rfl rfl ?_ ?_
    · exact fo_ret rfl rfl rfl
    · refine fo_st rfl rfl ?_
      refine fo_st rfl rfl ?_
      refine fo_st rfl rfl ?_
      refine fo_st rfl rfl ?_
      refine fo_st rfl rfl ?_
      refine fo_get rfl (eg_7 _) rfl ?_
      refine fo_st rfl rfl ?_
      refine fo_iald rfl (eg_ar _ rfl) ?_
      refine fo_iast rfl (eg_ar _ h1) (es_ar _ h1 _) ?_
      refine fo_st rfl rfl ?_
      refine fo_st rfl rfl ?_
      exact ih _ _ _
def f_X7_layName_0 (a1 : Nat)  (l2 : Int32) (s : fS) : Option fS := f_X7_layName_2 a1 fuel l2 (0 : Int32) s
theorem g_X7_layName_0 (LS : Nat) (xs : Nat → Int32) (d : Nat) (hd : 0 ≤ d) (a1 : Nat) (h1 : isAr a1 = true)   (l2 : Int32)  (s : fS) : fo cvV t_X7_layName LS xs (mi_call mi_ms false LS xs d) (0, [some (.ref 82), some (.ref a1), some (.int l2), none], [], enc s) (f_X7_layName_0 a1 l2 s) := by
  unfold f_X7_layName_0
  refine fo_st rfl rfl ?_
  refine fo_st rfl rfl ?_
  exact g_X7_layName_2 LS xs d hd a1 h1 fuel _ _ _
def f_X7_layName (a1 : Nat) (l2 : Int32) (s : fS) : Option fS := f_X7_layName_0 a1 l2 s
theorem c_X7_layName (LS : Nat) (xs : Nat → Int32) (d : Nat) (hd : 1 ≤ d) (a1 : Nat) (l2 : Int32) (h1 : isAr a1 = true) (s : fS) : fm mi_ms cvV LS xs d 114 [.ref 82, .ref a1, .int l2] (enc s) (f_X7_layName a1 l2 s) := by
  obtain ⟨e, rfl⟩ : ∃ e, d = e + 1 := ⟨d - 1, by omega⟩
  exact fm_of (M := m_X7_layName) rfl rfl (fun _ => ⟨_, rfl⟩) (g_X7_layName_0 LS xs e (by omega) a1 h1 l2 s)
def f_X7_laySort_0   (l1 : Int32) (s : fS) : Option fS := fchk (mi_in (1 : Int32) (gA s 99).length) (fchk (mi_in ((601 : Int32) + ((gA s 99).getD (1 : Int32).toNatClampNeg 0)) (gA s 100).length) (fchk (mi_in (1 : Int32) (gA s 99).length) (fchk (mi_in (1 : Int32) (gA s 99).length) (some (sA (sA s 100 ((gA s 100).set ((601 : Int32) + ((gA s 99).getD (1 : Int32).toNatClampNeg 0)).toNatClampNeg l1)) 99 ((gA s 99).set (1 : Int32).toNatClampNeg (((gA s 99).getD (1 : Int32).toNatClampNeg 0) + (1 : Int32))))))))
theorem g_X7_laySort_0 (LS : Nat) (xs : Nat → Int32) (d : Nat) (hd : 0 ≤ d)     (l1 : Int32)  (s : fS) : fo cvV t_X7_laySort LS xs (mi_call mi_ms false LS xs d) (0, [some (.ref 82), some (.int l1)], [], enc s) (f_X7_laySort_0 l1 s) := by
  unfold f_X7_laySort_0
  refine fo_st rfl rfl ?_
  refine fo_get rfl (eg_7 _) rfl ?_
  refine fo_st rfl rfl ?_
  refine fo_st rfl rfl ?_
  refine fo_get rfl (eg_7 _) rfl ?_
  refine fo_st rfl rfl ?_
  refine fo_iald rfl (eg_ar _ rfl) ?_
  refine fo_st rfl rfl ?_
  refine fo_st rfl rfl ?_
  refine fo_iast rfl (eg_ar _ rfl) (es_ar _ rfl _) ?_
  refine fo_st rfl rfl ?_
  refine fo_get rfl (eg_7 _) rfl ?_
  refine fo_st rfl rfl ?_
  refine fo_st rfl rfl ?_
  refine fo_iald rfl (eg_ar _ rfl) ?_
  refine fo_st rfl rfl ?_
  refine fo_st rfl rfl ?_
  refine fo_iast rfl (eg_ar _ rfl) (es_ar _ rfl _) ?_
  exact fo_ret rfl rfl rfl
def f_X7_laySort (l1 : Int32) (s : fS) : Option fS := f_X7_laySort_0 l1 s
theorem c_X7_laySort (LS : Nat) (xs : Nat → Int32) (d : Nat) (hd : 1 ≤ d) (l1 : Int32)  (s : fS) : fm mi_ms cvV LS xs d 115 [.ref 82, .int l1] (enc s) (f_X7_laySort l1 s) := by
  obtain ⟨e, rfl⟩ : ∃ e, d = e + 1 := ⟨d - 1, by omega⟩
  exact fm_of (M := m_X7_laySort) rfl rfl (fun _ => ⟨_, rfl⟩) (g_X7_laySort_0 LS xs e (by omega) l1 s)
def f_X7_readComment_113   (l1 : Int32) (l2 : Int32) (s : fS) : Option fS := fchk (mi_in l1 (gA s 98).length) (fchk (mi_in (1 : Int32) (gA s 97).length) (fchk (mi_in (1 : Int32) (gA s 97).length) (((f_X7_laySort (1 : Int32) (sA (sA s 98 ((gA s 98).set l1.toNatClampNeg l2)) 97 ((gA s 97).set (1 : Int32).toNatClampNeg (((gA s 97).getD (1 : Int32).toNatClampNeg 0) + (1 : Int32))))).bind fun qx1 => some qx1))))
theorem g_X7_readComment_113 (LS : Nat) (xs : Nat → Int32) (d : Nat) (hd : 1 ≤ d)     (l1 : Int32) (l2 : Int32)  (s : fS) : fo cvV t_X7_readComment LS xs (mi_call mi_ms false LS xs d) (113, [some (.ref 82), some (.int l1), some (.int l2)], [], enc s) (f_X7_readComment_113 l1 l2 s) := by
  unfold f_X7_readComment_113
  refine fo_st rfl rfl ?_
  refine fo_get rfl (eg_7 _) rfl ?_
  refine fo_st rfl rfl ?_
  refine fo_st rfl rfl ?_
  refine fo_iast rfl (eg_ar _ rfl) (es_ar _ rfl _) ?_
  refine fo_st rfl rfl ?_
  refine fo_get rfl (eg_7 _) rfl ?_
  refine fo_st rfl rfl ?_
  refine fo_st rfl rfl ?_
  refine fo_iald rfl (eg_ar _ rfl) ?_
  refine fo_st rfl rfl ?_
  refine fo_st rfl rfl ?_
  refine fo_iast rfl (eg_ar _ rfl) (es_ar _ rfl _) ?_
  refine fo_st rfl rfl ?_
  refine fo_st rfl rfl ?_
  refine fo_callV (As := [.ref 82, .int (1 : Int32)]) (rest := []) rfl rfl rfl rfl (mi_rcv_of (eg_7 _)) (c_X7_laySort LS xs d (by omega) _ _) (fun qx1 => ?_)
  exact fo_ret rfl rfl rfl
def f_X7_readComment_26   : Nat → Int32 → Int32 → fS → Option fS
  | 0, _, _, _ => none
  | n + 1, l1, l2, s => (bif decide (¬ (gI s 82 30) = 0) then f_X7_readComment_113 l1 l2 s else ((f_X7_here s).bind fun qx1 => (bif decide (qx1.1 = (-1 : Int32)) then f_X7_readComment_113 l1 l2 qx1.2 else ((f_X7_here qx1.2).bind fun qx2 => ((f_X7_in qx2.1 (32 : Int32) (126 : Int32) qx2.2).bind fun qx3 => (bif decide (¬ qx3.1 = 0) then (bif decide (¬ l2 = (20 : Int32)) then ((f_X7_here qx3.2).bind fun qx4 => fchk (mi_in (l1 + (l2 + Int32.ofInt (1))) (gA qx4.2 98).length) (f_X7_readComment_26 n l1 (l2 + Int32.ofInt (1)) (sI (sA qx4.2 98 ((gA qx4.2 98).set (l1 + (l2 + Int32.ofInt (1))).toNatClampNeg qx4.1)) 82 27 ((gI qx4.2 82 27) + (1 : Int32))))) else ((f_X7_wrong (2 : Int32) (gI qx3.2 82 27) qx3.2).bind fun qx5 => f_X7_readComment_26 n l1 l2 qx5)) else ((f_X7_wrong (1 : Int32) (gI qx3.2 82 27) qx3.2).bind fun qx6 => f_X7_readComment_26 n l1 l2 qx6)))))))
theorem g_X7_readComment_26 (LS : Nat) (xs : Nat → Int32) (d : Nat) (hd : 1 ≤ d)     (n : Nat) : ∀ (l1 : Int32) (l2 : Int32) (s : fS), fo cvV t_X7_readComment LS xs (mi_call mi_ms false LS xs d) (26, [some (.ref 82), some (.int l1), some (.int l2)], [], enc s) (f_X7_readComment_26 n l1 l2 s) := by
  induction n with
  | zero => intro l1 l2 s; exact fo_none
  | succ n ih =>
    intro l1 l2 s
    rw [f_X7_readComment_26]
    refine fo_st rfl rfl ?_
    refine fo_get rfl (eg_7 _) rfl ?_
    refine fo_b rfl rfl ?_ ?_
    · exact g_X7_readComment_113 LS xs d hd _ _ _
    · refine fo_st rfl rfl ?_
      refine fo_callI (As := [.ref 82]) (rest := []) rfl rfl rfl rfl (mi_rcv_of (eg_7 _)) (c_X7_here LS xs d (by omega)  _) (fun qx1 => ?_)
      refine fo_st rfl rfl ?_
      refine fo_b rfl rfl ?_ ?_
      · exact g_X7_readComment_113 LS xs d hd _ _ _
      · refine fo_st rfl rfl ?_
        refine fo_callI (As := [.ref 82]) (rest := []) rfl rfl rfl rfl (mi_rcv_of (eg_7 _)) (c_X7_here LS xs d (by omega)  _) (fun qx2 => ?_)
        refine fo_st rfl rfl ?_
        refine fo_st rfl rfl ?_
        refine fo_callI (As := [.int qx2.1, .int (32 : Int32), .int (126 : Int32)]) (rest := []) rfl rfl rfl rfl True.intro (c_X7_in LS xs d (by omega) _ _ _ _) (fun qx3 => ?_)
        refine fo_b rfl rfl ?_ ?_
        · refine fo_st rfl rfl ?_
          refine fo_st rfl rfl ?_
          refine fo_b rfl rfl ?_ ?_
          · refine fo_st rfl rfl ?_
            refine fo_st rfl rfl ?_
            refine fo_get rfl (eg_7 _) rfl ?_
            refine fo_st rfl rfl ?_
            refine fo_st rfl rfl ?_
            refine fo_st rfl rfl ?_
            refine fo_st rfl rfl ?_
            refine fo_callI (As := [.ref 82]) (rest := [.int (l1 + (l2 + Int32.ofInt (1))), .ref 98]) rfl rfl rfl rfl (mi_rcv_of (eg_7 _)) (c_X7_here LS xs d (by omega)  _) (fun qx4 => ?_)
            refine fo_iast rfl (eg_ar _ rfl) (es_ar _ rfl _) ?_
            refine fo_st rfl rfl ?_
            refine fo_st rfl rfl ?_
            refine fo_get rfl (eg_7 _) rfl ?_
            refine fo_st rfl rfl ?_
            refine fo_st rfl rfl ?_
            refine fo_put rfl (eg_7 _) rfl rfl (es_7_27 _ _) ?_
            refine fo_st rfl rfl ?_
            exact ih _ _ _
          · refine fo_st rfl rfl ?_
            refine fo_st rfl rfl ?_
            refine fo_st rfl rfl ?_
            refine fo_get rfl (eg_7 _) rfl ?_
            refine fo_callV (As := [.ref 82, .int (2 : Int32), .int (gI qx3.2 82 27)]) (rest := []) rfl rfl rfl rfl (mi_rcv_of (eg_7 _)) (c_X7_wrong LS xs d (by omega) _ _ _) (fun qx5 => ?_)
            refine fo_st rfl rfl ?_
            exact ih _ _ _
        · refine fo_st rfl rfl ?_
          refine fo_st rfl rfl ?_
          refine fo_st rfl rfl ?_
          refine fo_get rfl (eg_7 _) rfl ?_
          refine fo_callV (As := [.ref 82, .int (1 : Int32), .int (gI qx3.2 82 27)]) (rest := []) rfl rfl rfl rfl (mi_rcv_of (eg_7 _)) (c_X7_wrong LS xs d (by omega) _ _ _) (fun qx6 => ?_)
          refine fo_st rfl rfl ?_
          exact ih _ _ _
def f_X7_readComment_0    (s : fS) : Option fS := fchk (mi_in (1 : Int32) (gA s 97).length) (f_X7_readComment_26 fuel ((6300 : Int32) + ((21 : Int32) * ((gA s 97).getD (1 : Int32).toNatClampNeg 0))) (0 : Int32) (sI s 82 27 ((gI s 82 27) + (1 : Int32))))
theorem g_X7_readComment_0 (LS : Nat) (xs : Nat → Int32) (d : Nat) (hd : 1 ≤ d)       (s : fS) : fo cvV t_X7_readComment LS xs (mi_call mi_ms false LS xs d) (0, [some (.ref 82), none, none], [], enc s) (f_X7_readComment_0 s) := by
  unfold f_X7_readComment_0
  refine fo_st rfl rfl ?_
  refine fo_st rfl rfl ?_
  refine fo_get rfl (eg_7 _) rfl ?_
  refine fo_st rfl rfl ?_
  refine fo_st rfl rfl ?_
  refine fo_put rfl (eg_7 _) rfl rfl (es_7_27 _ _) ?_
  refine fo_st rfl rfl ?_
  refine fo_st rfl rfl ?_
  refine fo_st rfl rfl ?_
  refine fo_get rfl (eg_7 _) rfl ?_
  refine fo_st rfl rfl ?_
  refine fo_iald rfl (eg_ar _ rfl) ?_
  refine fo_st rfl rfl ?_
  refine fo_st rfl rfl ?_
  refine fo_st rfl rfl ?_
  refine fo_st rfl rfl ?_
  refine fo_st rfl rfl ?_
  exact g_X7_readComment_26 LS xs d hd fuel _ _ _
def f_X7_readComment  (s : fS) : Option fS := f_X7_readComment_0 s
theorem c_X7_readComment (LS : Nat) (xs : Nat → Int32) (d : Nat) (hd : 2 ≤ d)   (s : fS) : fm mi_ms cvV LS xs d 116 [.ref 82] (enc s) (f_X7_readComment  s) := by
  obtain ⟨e, rfl⟩ : ∃ e, d = e + 1 := ⟨d - 1, by omega⟩
  exact fm_of (M := m_X7_readComment) rfl rfl (fun _ => ⟨_, rfl⟩) (g_X7_readComment_0 LS xs e (by omega) s)
end FM7
