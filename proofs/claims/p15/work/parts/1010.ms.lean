section FM10
def f_X7_read_228   (l1 : Int32) (t0 : Int32) (s : fS) : Option (Int32 × fS) := (bif decide ((gI s 82 30) ≤ 0) then ((f_X7_guessKinds (sI s 82 5 t0)).bind fun qx1 => ((f_X7_takeOver qx1).bind fun qx2 => fchk (mi_in (0 : Int32) (gA qx2 86).length) (some (((gA qx2 86).getD (0 : Int32).toNatClampNeg 0), qx2)))) else some (((-10 : Int32) - (gI s 82 30)), (sI s 82 5 t0)))
theorem g_X7_read_228 (LS : Nat) (xs : Nat → Int32) (d : Nat) (hd : 9 ≤ d)     (l1 : Int32) (t0 : Int32)  (s : fS) : fo cvI t_X7_read LS xs (mi_call mi_ms false LS xs d) (228, [some (.ref 82), some (.int l1)], [.int t0, .ref 82], enc s) (f_X7_read_228 l1 t0 s) := by
  unfold f_X7_read_228
  refine fo_put rfl (eg_7 _) rfl rfl (es_7_5 _ _) ?_
  refine fo_st rfl rfl ?_
  refine fo_get rfl (eg_7 _) rfl ?_
  refine fo_b rfl rfl ?_ ?_
  · refine fo_st rfl rfl ?_
    refine fo_callV (As := [.ref 82]) (rest := []) rfl rfl rfl rfl (mi_rcv_of (eg_7 _)) (c_X7_guessKinds LS xs d (by omega)  _) (fun qx1 => ?_)
    refine fo_st rfl rfl ?_
    refine fo_callV (As := [.ref 82]) (rest := []) rfl rfl rfl rfl (mi_rcv_of (eg_7 _)) (c_X7_takeOver LS xs d (by omega)  _) (fun qx2 => ?_)
    refine fo_st rfl rfl ?_
    refine fo_get rfl (eg_7 _) rfl ?_
    refine fo_st rfl rfl ?_
    refine fo_iald rfl (eg_ar _ rfl) ?_
    exact fo_ret rfl rfl rfl
  · refine fo_st rfl rfl ?_
    refine fo_st rfl rfl ?_
    refine fo_get rfl (eg_7 _) rfl ?_
    refine fo_st rfl rfl ?_
    exact fo_ret rfl rfl rfl
def f_X7_read_202   (l1 : Int32) (t0 : Int32) (s : fS) : Option (Int32 × fS) := (bif decide (¬ (gI s 82 30) = 0) then f_X7_read_228 l1 (((gI s 82 31) - (gI s 82 29)) + (1 : Int32)) (sI s 82 4 t0) else f_X7_read_228 l1 (-1 : Int32) (sI s 82 4 t0))
theorem g_X7_read_202 (LS : Nat) (xs : Nat → Int32) (d : Nat) (hd : 9 ≤ d)     (l1 : Int32) (t0 : Int32)  (s : fS) : fo cvI t_X7_read LS xs (mi_call mi_ms false LS xs d) (202, [some (.ref 82), some (.int l1)], [.int t0, .ref 82], enc s) (f_X7_read_202 l1 t0 s) := by
  unfold f_X7_read_202
  refine fo_put rfl (eg_7 _) rfl rfl (es_7_4 _ _) ?_
  refine fo_st rfl rfl ?_
  refine fo_st rfl rfl ?_
  refine fo_get rfl (eg_7 _) rfl ?_
  refine fo_b rfl rfl ?_ ?_
  · refine fo_st rfl rfl ?_
    refine fo_get rfl (eg_7 _) rfl ?_
    refine fo_st rfl rfl ?_
    refine fo_get rfl (eg_7 _) rfl ?_
    refine fo_st rfl rfl ?_
    refine fo_st rfl rfl ?_
    refine fo_st rfl rfl ?_
    exact g_X7_read_228 LS xs d hd _ _ _
  · refine fo_st rfl rfl ?_
    refine fo_st rfl rfl ?_
    exact g_X7_read_228 LS xs d hd _ _ _
def f_X7_read_123  (r90 : Int32 → fS → Option (Int32 × fS)) (l1 : Int32) (t0 : Int32) (s : fS) : Option (Int32 × fS) := (bif decide (t0 = 0) then r90 t0 s else r90 t0 (sI (sI (sI s 82 27 ((gI s 82 27) + (1 : Int32))) 82 28 ((gI s 82 28) + (1 : Int32))) 82 29 ((gI s 82 27) + (1 : Int32))))
theorem g_X7_read_123 (LS : Nat) (xs : Nat → Int32) (d : Nat) (hd : 9 ≤ d)   (r90 : Int32 → fS → Option (Int32 × fS)) (q90 : ∀ (l1 : Int32) (s : fS), fo cvI t_X7_read LS xs (mi_call mi_ms false LS xs d) (90, [some (.ref 82), some (.int l1)], [], enc s) (r90 l1 s)) (l1 : Int32) (t0 : Int32)  (s : fS) : fo cvI t_X7_read LS xs (mi_call mi_ms false LS xs d) (123, [some (.ref 82), some (.int l1)], [.int t0], enc s) (f_X7_read_123 r90 l1 t0 s) := by
  unfold f_X7_read_123
  refine fo_st rfl rfl ?_
  refine fo_st rfl rfl ?_
  refine fo_b rfl rfl ?_ ?_
  · exact q90 _ _
  · refine fo_st rfl rfl ?_
    refine fo_st rfl rfl ?_
    refine fo_get rfl (eg_7 _) rfl ?_
    refine fo_st rfl rfl ?_
    refine fo_st rfl rfl ?_
    refine fo_put rfl (eg_7 _) rfl rfl (es_7_27 _ _) ?_
    refine fo_st rfl rfl ?_
    refine fo_st rfl rfl ?_
    refine fo_get rfl (eg_7 _) rfl ?_
    refine fo_st rfl rfl ?_
    refine fo_st rfl rfl ?_
    refine fo_put rfl (eg_7 _) rfl rfl (es_7_28 _ _) ?_
    refine fo_st rfl rfl ?_
    refine fo_st rfl rfl ?_
    refine fo_get rfl (eg_7 _) rfl ?_
    refine fo_put rfl (eg_7 _) rfl rfl (es_7_29 _ _) ?_
    refine fo_st rfl rfl ?_
    exact q90 _ _
def f_X7_read_122  (r90 : Int32 → fS → Option (Int32 × fS)) (l1 : Int32) (s : fS) : Option (Int32 × fS) := f_X7_read_123 r90 l1 (0 : Int32) s
theorem g_X7_read_122 (LS : Nat) (xs : Nat → Int32) (d : Nat) (hd : 9 ≤ d)   (r90 : Int32 → fS → Option (Int32 × fS)) (q90 : ∀ (l1 : Int32) (s : fS), fo cvI t_X7_read LS xs (mi_call mi_ms false LS xs d) (90, [some (.ref 82), some (.int l1)], [], enc s) (r90 l1 s)) (l1 : Int32)  (s : fS) : fo cvI t_X7_read LS xs (mi_call mi_ms false LS xs d) (122, [some (.ref 82), some (.int l1)], [], enc s) (f_X7_read_122 r90 l1 s) := by
  unfold f_X7_read_122
  refine fo_st rfl rfl ?_
  exact g_X7_read_123 LS xs d hd _ q90 _ _ _
def f_X7_read_90   : Nat → Int32 → fS → Option (Int32 × fS)
  | 0, _, _ => none
  | n + 1, l1, s => (bif decide (l1 = 0) then fchk (mi_in (1 : Int32) (gA s 84).length) (((f_X7_lie ((gA s 84).getD (1 : Int32).toNatClampNeg 0) (0 : Int32) s).bind fun qx1 => fchk (mi_in (1 : Int32) (gA qx1 86).length) (((f_X7_lie ((gA qx1 86).getD (1 : Int32).toNatClampNeg 0) (1 : Int32) qx1).bind fun qx2 => (bif decide (¬ (gI qx2 82 30) = 0) then f_X7_read_202 l1 (gI qx2 82 28) (sI qx2 82 2 (0 : Int32)) else f_X7_read_202 l1 (-1 : Int32) (sI qx2 82 2 (0 : Int32))))))) else ((f_X7_readLine s).bind fun qx3 => (bif decide (¬ (gI qx3 82 30) = 0) then f_X7_read_122 (fun l1' s' => f_X7_read_90 n l1' s') l1 qx3 else (bif decide (((gI qx3 82 2) - (1 : Int32)) ≤ (gI qx3 82 27)) then f_X7_read_122 (fun l1' s' => f_X7_read_90 n l1' s') l1 qx3 else f_X7_read_123 (fun l1' s' => f_X7_read_90 n l1' s') l1 (1 : Int32) qx3))))
theorem g_X7_read_90 (LS : Nat) (xs : Nat → Int32) (d : Nat) (hd : 9 ≤ d)     (n : Nat) : ∀ (l1 : Int32) (s : fS), fo cvI t_X7_read LS xs (mi_call mi_ms false LS xs d) (90, [some (.ref 82), some (.int l1)], [], enc s) (f_X7_read_90 n l1 s) := by
  induction n with
  | zero => intro l1 s; exact fo_none
  | succ n ih =>
    intro l1 s
    rw [f_X7_read_90]
    refine fo_st rfl rfl ?_
    refine fo_b rfl rfl ?_ ?_
    · refine fo_st rfl rfl ?_
      refine fo_st rfl rfl ?_
      refine fo_get rfl (eg_7 _) rfl ?_
      refine fo_st rfl rfl ?_
      refine fo_iald rfl (eg_ar _ rfl) ?_
      refine fo_st rfl rfl ?_
      refine fo_callV (As := [.ref 82, .int ((gA s 84).getD (1 : Int32).toNatClampNeg 0), .int (0 : Int32)]) (rest := []) rfl rfl rfl rfl (mi_rcv_of (eg_7 _)) (c_X7_lie LS xs d (by omega) _ _ _) (fun qx1 => ?_)
      refine fo_st rfl rfl ?_
      refine fo_st rfl rfl ?_
      refine fo_get rfl (eg_7 _) rfl ?_
      refine fo_st rfl rfl ?_
      refine fo_iald rfl (eg_ar _ rfl) ?_
      refine fo_st rfl rfl ?_
      refine fo_callV (As := [.ref 82, .int ((gA qx1 86).getD (1 : Int32).toNatClampNeg 0), .int (1 : Int32)]) (rest := []) rfl rfl rfl rfl (mi_rcv_of (eg_7 _)) (c_X7_lie LS xs d (by omega) _ _ _) (fun qx2 => ?_)
      refine fo_st rfl rfl ?_
      refine fo_st rfl rfl ?_
      refine fo_put rfl (eg_7 _) rfl rfl (es_7_2 _ _) ?_
      refine fo_st rfl rfl ?_
      refine fo_st rfl rfl ?_
      refine fo_get rfl (eg_7 _) rfl ?_
      refine fo_b rfl rfl ?_ ?_
      · refine fo_st rfl rfl ?_
        refine fo_get rfl (eg_7 _) rfl ?_
        exact g_X7_read_202 LS xs d hd _ _ _
      · refine fo_st rfl rfl ?_
        refine fo_st rfl rfl ?_
        exact g_X7_read_202 LS xs d hd _ _ _
    · refine fo_st rfl rfl ?_
      refine fo_callV (As := [.ref 82]) (rest := []) rfl rfl rfl rfl (mi_rcv_of (eg_7 _)) (c_X7_readLine LS xs d (by omega)  _) (fun qx3 => ?_)
      refine fo_st rfl rfl ?_
      refine fo_get rfl (eg_7 _) rfl ?_
      refine fo_b rfl rfl ?_ ?_
      · exact g_X7_read_122 LS xs d hd _ ih _ _
      · refine fo_st rfl rfl ?_
        refine fo_get rfl (eg_7 _) rfl ?_
        refine fo_st rfl rfl ?_
        refine fo_get rfl (eg_7 _) rfl ?_
        refine fo_st rfl rfl ?_
        refine fo_st rfl rfl ?_
        refine fo_b rfl rfl ?_ ?_
        · exact g_X7_read_122 LS xs d hd _ ih _ _
        · refine fo_st rfl rfl ?_
          refine fo_st rfl rfl ?_
          exact g_X7_read_123 LS xs d hd _ ih _ _ _
def f_X7_read_89   (t0 : Int32) (s : fS) : Option (Int32 × fS) := f_X7_read_90 fuel t0 s
theorem g_X7_read_89 (LS : Nat) (xs : Nat → Int32) (d : Nat) (hd : 9 ≤ d)     (t0 : Int32)  (s : fS) : fo cvI t_X7_read LS xs (mi_call mi_ms false LS xs d) (89, [some (.ref 82), none], [.int t0], enc s) (f_X7_read_89 t0 s) := by
  unfold f_X7_read_89
  refine fo_st rfl rfl ?_
  exact g_X7_read_90 LS xs d hd fuel _ _
def f_X7_read_0    (s : fS) : Option (Int32 × fS) := fchk (mi_in (1 : Int32) (gA s 84).length) (fchk (mi_in (1 : Int32) (gA s 86).length) (fchk (mi_in (1 : Int32) (gA s 90).length) (fchk (mi_in (1 : Int32) (gA s 96).length) (fchk (mi_in (1 : Int32) (gA s 97).length) (fchk (mi_in (1 : Int32) (gA s 99).length) ((bif decide ((gI s 82 2) ≤ 0) then f_X7_read_89 (0 : Int32) (sA (sA (sA (sA (sA (sA (sI (sI (sI (sI (sI (sI (sI s 82 0 (0 : Int32)) 82 27 (0 : Int32)) 82 28 (1 : Int32)) 82 29 (0 : Int32)) 82 30 (0 : Int32)) 82 35 (0 : Int32)) 82 38 (0 : Int32)) 84 ((gA s 84).set (1 : Int32).toNatClampNeg (0 : Int32))) 86 ((gA s 86).set (1 : Int32).toNatClampNeg (0 : Int32))) 90 ((gA s 90).set (1 : Int32).toNatClampNeg (0 : Int32))) 96 ((gA s 96).set (1 : Int32).toNatClampNeg (0 : Int32))) 97 ((gA s 97).set (1 : Int32).toNatClampNeg (0 : Int32))) 99 ((gA s 99).set (1 : Int32).toNatClampNeg (0 : Int32))) else f_X7_read_89 (1 : Int32) (sA (sA (sA (sA (sA (sA (sI (sI (sI (sI (sI (sI (sI s 82 0 (0 : Int32)) 82 27 (0 : Int32)) 82 28 (1 : Int32)) 82 29 (0 : Int32)) 82 30 (0 : Int32)) 82 35 (0 : Int32)) 82 38 (0 : Int32)) 84 ((gA s 84).set (1 : Int32).toNatClampNeg (0 : Int32))) 86 ((gA s 86).set (1 : Int32).toNatClampNeg (0 : Int32))) 90 ((gA s 90).set (1 : Int32).toNatClampNeg (0 : Int32))) 96 ((gA s 96).set (1 : Int32).toNatClampNeg (0 : Int32))) 97 ((gA s 97).set (1 : Int32).toNatClampNeg (0 : Int32))) 99 ((gA s 99).set (1 : Int32).toNatClampNeg (0 : Int32))))))))))
theorem g_X7_read_0 (LS : Nat) (xs : Nat → Int32) (d : Nat) (hd : 9 ≤ d)       (s : fS) : fo cvI t_X7_read LS xs (mi_call mi_ms false LS xs d) (0, [some (.ref 82), none], [], enc s) (f_X7_read_0 s) := by
  unfold f_X7_read_0
  refine fo_st rfl rfl ?_
  refine fo_st rfl rfl ?_
  refine fo_put rfl (eg_7 _) rfl rfl (es_7_0 _ _) ?_
  refine fo_st rfl rfl ?_
  refine fo_st rfl rfl ?_
  refine fo_put rfl (eg_7 _) rfl rfl (es_7_27 _ _) ?_
  refine fo_st rfl rfl ?_
  refine fo_st rfl rfl ?_
  refine fo_put rfl (eg_7 _) rfl rfl (es_7_28 _ _) ?_
  refine fo_st rfl rfl ?_
  refine fo_st rfl rfl ?_
  refine fo_put rfl (eg_7 _) rfl rfl (es_7_29 _ _) ?_
  refine fo_st rfl rfl ?_
  refine fo_st rfl rfl ?_
  refine fo_put rfl (eg_7 _) rfl rfl (es_7_30 _ _) ?_
  refine fo_st rfl rfl ?_
  refine fo_st rfl rfl ?_
  refine fo_put rfl (eg_7 _) rfl rfl (es_7_35 _ _) ?_
  refine fo_st rfl rfl ?_
  refine fo_st rfl rfl ?_
  refine fo_put rfl (eg_7 _) rfl rfl (es_7_38 _ _) ?_
  refine fo_st rfl rfl ?_
  refine fo_get rfl (eg_7 _) rfl ?_
  refine fo_st rfl rfl ?_
  refine fo_st rfl rfl ?_
  refine fo_iast rfl (eg_ar _ rfl) (es_ar _ rfl _) ?_
  refine fo_st rfl rfl ?_
  refine fo_get rfl (eg_7 _) rfl ?_
  refine fo_st rfl rfl ?_
  refine fo_st rfl rfl ?_
  refine fo_iast rfl (eg_ar _ rfl) (es_ar _ rfl _) ?_
  refine fo_st rfl rfl ?_
  refine fo_get rfl (eg_7 _) rfl ?_
  refine fo_st rfl rfl ?_
  refine fo_st rfl rfl ?_
  refine fo_iast rfl (eg_ar _ rfl) (es_ar _ rfl _) ?_
  refine fo_st rfl rfl ?_
  refine fo_get rfl (eg_7 _) rfl ?_
  refine fo_st rfl rfl ?_
  refine fo_st rfl rfl ?_
  refine fo_iast rfl (eg_ar _ rfl) (es_ar _ rfl _) ?_
  refine fo_st rfl rfl ?_
  refine fo_get rfl (eg_7 _) rfl ?_
  refine fo_st rfl rfl ?_
  refine fo_st rfl rfl ?_
  refine fo_iast rfl (eg_ar _ rfl) (es_ar _ rfl _) ?_
  refine fo_st rfl rfl ?_
  refine fo_get rfl (eg_7 _) rfl ?_
  refine fo_st rfl rfl ?_
  refine fo_st rfl rfl ?_
  refine fo_iast rfl (eg_ar _ rfl) (es_ar _ rfl _) ?_
  refine fo_st rfl rfl ?_
  refine fo_get rfl (eg_7 _) rfl ?_
  refine fo_b rfl rfl ?_ ?_
  · refine fo_st rfl rfl ?_
    exact g_X7_read_89 LS xs d hd _ _
  · refine fo_st rfl rfl ?_
    refine fo_st rfl rfl ?_
    exact g_X7_read_89 LS xs d hd _ _
def f_X7_read  (s : fS) : Option (Int32 × fS) := f_X7_read_0 s
theorem c_X7_read (LS : Nat) (xs : Nat → Int32) (d : Nat) (hd : 10 ≤ d)   (s : fS) : fm mi_ms cvI LS xs d 127 [.ref 82] (enc s) (f_X7_read  s) := by
  obtain ⟨e, rfl⟩ : ∃ e, d = e + 1 := ⟨d - 1, by omega⟩
  exact fm_of (M := m_X7_read) rfl rfl (fun _ => ⟨_, rfl⟩) (g_X7_read_0 LS xs e (by omega) s)
def f_X7_fault_30   (l1 : Int32) (t0 : Int32) (s : fS) : Option (Int32 × fS) := some (t0, s)
theorem g_X7_fault_30 (LS : Nat) (xs : Nat → Int32) (d : Nat) (hd : 0 ≤ d)     (l1 : Int32) (t0 : Int32)  (s : fS) : fo cvI t_X7_fault LS xs (mi_call mi_ms false LS xs d) (30, [some (.ref 82), some (.int l1)], [.int t0], enc s) (f_X7_fault_30 l1 t0 s) := by
  unfold f_X7_fault_30
  exact fo_ret rfl rfl rfl
def f_X7_fault_0   (l1 : Int32) (s : fS) : Option (Int32 × fS) := (bif decide (¬ l1 = 0) then (bif decide (¬ l1 = (1 : Int32)) then f_X7_fault_30 l1 (-102 : Int32) (sI s 82 0 (0 : Int32)) else f_X7_fault_30 l1 (gI s 82 5) (sI s 82 0 (0 : Int32))) else f_X7_fault_30 l1 (gI s 82 4) (sI s 82 0 (0 : Int32)))
theorem g_X7_fault_0 (LS : Nat) (xs : Nat → Int32) (d : Nat) (hd : 0 ≤ d)     (l1 : Int32)  (s : fS) : fo cvI t_X7_fault LS xs (mi_call mi_ms false LS xs d) (0, [some (.ref 82), some (.int l1)], [], enc s) (f_X7_fault_0 l1 s) := by
  unfold f_X7_fault_0
  refine fo_st rfl rfl ?_
  refine fo_st rfl rfl ?_
  refine fo_put rfl (eg_7 _) rfl rfl (es_7_0 _ _) ?_
  refine fo_st rfl rfl ?_
  refine fo_b rfl rfl ?_ ?_
  · refine fo_st rfl rfl ?_
    refine fo_st rfl rfl ?_
    refine fo_b rfl rfl ?_ ?_
    · refine fo_st rfl rfl ?_
      exact g_X7_fault_30 LS xs d hd _ _ _
    · refine fo_st rfl rfl ?_
      refine fo_get rfl (eg_7 _) rfl ?_
      refine fo_st rfl rfl ?_
      exact g_X7_fault_30 LS xs d hd _ _ _
  · refine fo_st rfl rfl ?_
    refine fo_get rfl (eg_7 _) rfl ?_
    refine fo_st rfl rfl ?_
    exact g_X7_fault_30 LS xs d hd _ _ _
def f_X7_fault (l1 : Int32) (s : fS) : Option (Int32 × fS) := f_X7_fault_0 l1 s
theorem c_X7_fault (LS : Nat) (xs : Nat → Int32) (d : Nat) (hd : 1 ≤ d) (l1 : Int32)  (s : fS) : fm mi_ms cvI LS xs d 129 [.ref 82, .int l1] (enc s) (f_X7_fault l1 s) := by
  obtain ⟨e, rfl⟩ : ∃ e, d = e + 1 := ⟨d - 1, by omega⟩
  exact fm_of (M := m_X7_fault) rfl rfl (fun _ => ⟨_, rfl⟩) (g_X7_fault_0 LS xs e (by omega) l1 s)
def f_X7_manner_0   (l1 : Int32) (s : fS) : Option (Int32 × fS) := ((f_X7_in l1 (0 : Int32) (2 : Int32) (sI s 82 0 (0 : Int32))).bind fun qx1 => (bif decide (¬ qx1.1 = 0) then some ((gI qx1.2 82 3), (sI qx1.2 82 3 l1)) else some ((-102 : Int32), qx1.2)))
theorem g_X7_manner_0 (LS : Nat) (xs : Nat → Int32) (d : Nat) (hd : 1 ≤ d)     (l1 : Int32)  (s : fS) : fo cvI t_X7_manner LS xs (mi_call mi_ms false LS xs d) (0, [some (.ref 82), some (.int l1), none], [], enc s) (f_X7_manner_0 l1 s) := by
  unfold f_X7_manner_0
  refine fo_st rfl rfl ?_
  refine fo_st rfl rfl ?_
  refine fo_put rfl (eg_7 _) rfl rfl (es_7_0 _ _) ?_
  refine fo_st rfl rfl ?_
  refine fo_st rfl rfl ?_
  refine fo_st rfl rfl ?_
  refine fo_callI (As := [.int l1, .int (0 : Int32), .int (2 : Int32)]) (rest := []) rfl rfl rfl rfl True.intro (c_X7_in LS xs d (by omega) _ _ _ _) (fun qx1 => ?_)
  refine fo_b rfl rfl ?_ ?_
  · refine fo_st rfl rfl ?_
    refine fo_get rfl (eg_7 _) rfl ?_
    refine fo_st rfl rfl ?_
    refine fo_st rfl rfl ?_
    refine fo_st rfl rfl ?_
    refine fo_put rfl (eg_7 _) rfl rfl (es_7_3 _ _) ?_
    refine fo_st rfl rfl ?_
    exact fo_ret rfl rfl rfl
  · refine fo_st rfl rfl ?_
    exact fo_ret rfl rfl rfl
def f_X7_manner (l1 : Int32) (s : fS) : Option (Int32 × fS) := f_X7_manner_0 l1 s
theorem c_X7_manner (LS : Nat) (xs : Nat → Int32) (d : Nat) (hd : 2 ≤ d) (l1 : Int32)  (s : fS) : fm mi_ms cvI LS xs d 130 [.ref 82, .int l1] (enc s) (f_X7_manner l1 s) := by
  obtain ⟨e, rfl⟩ : ∃ e, d = e + 1 := ⟨d - 1, by omega⟩
  exact fm_of (M := m_X7_manner) rfl rfl (fun _ => ⟨_, rfl⟩) (g_X7_manner_0 LS xs e (by omega) l1 s)
def f_X7_find_102  (r9 : Int32 → Int32 → fS → Option (Int32 × fS)) (l1 : Int32) (l2 : Int32) (l3 : Int32) (l4 : Int32) (t0 : Int32) (s : fS) : Option (Int32 × fS) := r9 t0 (l2 + Int32.ofInt (1)) s
theorem g_X7_find_102 (LS : Nat) (xs : Nat → Int32) (d : Nat) (hd : 0 ≤ d)   (r9 : Int32 → Int32 → fS → Option (Int32 × fS)) (q9 : ∀ (l1 : Int32) (l2 : Int32) (d3 : Option Value) (d4 : Option Value) (s : fS), fo cvI t_X7_find LS xs (mi_call mi_ms false LS xs d) (9, [some (.ref 82), some (.int l1), some (.int l2), d3, d4], [], enc s) (r9 l1 l2 s)) (l1 : Int32) (l2 : Int32) (l3 : Int32) (l4 : Int32) (t0 : Int32)  (s : fS) : fo cvI t_X7_find LS xs (mi_call mi_ms false LS xs d) (102, [some (.ref 82), some (.int l1), some (.int l2), some (.int l3), some (.int l4)], [.int t0], enc s) (f_X7_find_102 r9 l1 l2 l3 l4 t0 s) := by
  unfold f_X7_find_102
  refine fo_st rfl rfl ?_
  refine fo_st rfl rfl ?_
  refine fo_st rfl rfl ?_
  exact q9 _ _ _ _ _
def f_X7_find_93  (r9 : Int32 → Int32 → fS → Option (Int32 × fS)) (l1 : Int32) (l2 : Int32) (l3 : Int32) (l4 : Int32) (s : fS) : Option (Int32 × fS) := (bif decide (l3 = 0) then f_X7_find_102 r9 l1 l2 l3 l4 l1 s else f_X7_find_102 r9 l1 l2 l3 l4 l2 s)
theorem g_X7_find_93 (LS : Nat) (xs : Nat → Int32) (d : Nat) (hd : 0 ≤ d)   (r9 : Int32 → Int32 → fS → Option (Int32 × fS)) (q9 : ∀ (l1 : Int32) (l2 : Int32) (d3 : Option Value) (d4 : Option Value) (s : fS), fo cvI t_X7_find LS xs (mi_call mi_ms false LS xs d) (9, [some (.ref 82), some (.int l1), some (.int l2), d3, d4], [], enc s) (r9 l1 l2 s)) (l1 : Int32) (l2 : Int32) (l3 : Int32) (l4 : Int32)  (s : fS) : fo cvI t_X7_find LS xs (mi_call mi_ms false LS xs d) (93, [some (.ref 82), some (.int l1), some (.int l2), some (.int l3), some (.int l4)], [], enc s) (f_X7_find_93 r9 l1 l2 l3 l4 s) := by
  unfold f_X7_find_93
  refine fo_st rfl rfl ?_
  refine fo_b rfl rfl ?_ ?_
  · refine fo_st rfl rfl ?_
    exact g_X7_find_102 LS xs d hd _ q9 _ _ _ _ _ _
  · refine fo_st rfl rfl ?_
    refine fo_st rfl rfl ?_
    exact g_X7_find_102 LS xs d hd _ q9 _ _ _ _ _ _
def f_X7_find_86  (r9 : Int32 → Int32 → fS → Option (Int32 × fS)) (r44 : Int32 → Int32 → Int32 → Int32 → fS → Option (Int32 × fS)) (l1 : Int32) (l2 : Int32) (l3 : Int32) (l4 : Int32) (t0 : Int32) (s : fS) : Option (Int32 × fS) := r44 l1 l2 t0 (l4 + Int32.ofInt (1)) s
theorem g_X7_find_86 (LS : Nat) (xs : Nat → Int32) (d : Nat) (hd : 0 ≤ d)   (r9 : Int32 → Int32 → fS → Option (Int32 × fS)) (r44 : Int32 → Int32 → Int32 → Int32 → fS → Option (Int32 × fS)) (q9 : ∀ (l1 : Int32) (l2 : Int32) (d3 : Option Value) (d4 : Option Value) (s : fS), fo cvI t_X7_find LS xs (mi_call mi_ms false LS xs d) (9, [some (.ref 82), some (.int l1), some (.int l2), d3, d4], [], enc s) (r9 l1 l2 s)) (q44 : ∀ (l1 : Int32) (l2 : Int32) (l3 : Int32) (l4 : Int32) (s : fS), fo cvI t_X7_find LS xs (mi_call mi_ms false LS xs d) (44, [some (.ref 82), some (.int l1), some (.int l2), some (.int l3), some (.int l4)], [], enc s) (r44 l1 l2 l3 l4 s)) (l1 : Int32) (l2 : Int32) (l3 : Int32) (l4 : Int32) (t0 : Int32)  (s : fS) : fo cvI t_X7_find LS xs (mi_call mi_ms false LS xs d) (86, [some (.ref 82), some (.int l1), some (.int l2), some (.int l3), some (.int l4)], [.int t0], enc s) (f_X7_find_86 r9 r44 l1 l2 l3 l4 t0 s) := by
  unfold f_X7_find_86
  refine fo_st rfl rfl ?_
  refine fo_st rfl rfl ?_
  refine fo_st rfl rfl ?_
  exact q44 _ _ _ _ _
def f_X7_find_44  (r9 : Int32 → Int32 → fS → Option (Int32 × fS)) : Nat → Int32 → Int32 → Int32 → Int32 → fS → Option (Int32 × fS)
  | 0, _, _, _, _, _ => none
  | n + 1, l1, l2, l3, l4, s => (bif decide ((gI s 82 2) ≤ l4) then f_X7_find_93 r9 l1 l2 l3 l4 s else (bif decide (l3 = 0) then f_X7_find_93 r9 l1 l2 l3 l4 s else fchk (mi_in ((((9 : Int32) * l2) + (1 : Int32)) + l4) (gA s 85).length) (fchk (mi_in l4 (gA s 83).length) ((bif decide (¬ ((gA s 85).getD ((((9 : Int32) * l2) + (1 : Int32)) + l4).toNatClampNeg 0) = ((gA s 83).getD l4.toNatClampNeg 0)) then f_X7_find_86 r9 (fun l1' l2' l3' l4' s' => f_X7_find_44 r9 n l1' l2' l3' l4' s') l1 l2 l3 l4 (0 : Int32) s else f_X7_find_86 r9 (fun l1' l2' l3' l4' s' => f_X7_find_44 r9 n l1' l2' l3' l4' s') l1 l2 l3 l4 (1 : Int32) s)))))
theorem g_X7_find_44 (LS : Nat) (xs : Nat → Int32) (d : Nat) (hd : 0 ≤ d)   (r9 : Int32 → Int32 → fS → Option (Int32 × fS)) (q9 : ∀ (l1 : Int32) (l2 : Int32) (d3 : Option Value) (d4 : Option Value) (s : fS), fo cvI t_X7_find LS xs (mi_call mi_ms false LS xs d) (9, [some (.ref 82), some (.int l1), some (.int l2), d3, d4], [], enc s) (r9 l1 l2 s)) (n : Nat) : ∀ (l1 : Int32) (l2 : Int32) (l3 : Int32) (l4 : Int32) (s : fS), fo cvI t_X7_find LS xs (mi_call mi_ms false LS xs d) (44, [some (.ref 82), some (.int l1), some (.int l2), some (.int l3), some (.int l4)], [], enc s) (f_X7_find_44 r9 n l1 l2 l3 l4 s) := by
  induction n with
  | zero => intro l1 l2 l3 l4 s; exact fo_none
  | succ n ih =>
    intro l1 l2 l3 l4 s
    rw [f_X7_find_44]
    refine fo_st rfl rfl ?_
    refine fo_st rfl rfl ?_
    refine fo_get rfl (eg_7 _) rfl ?_
    refine fo_b rfl rfl ?_ ?_
    · exact g_X7_find_93 LS xs d hd _ q9 _ _ _ _ _
    · refine fo_st rfl rfl ?_
      refine fo_b rfl rfl ?_ ?_
      · exact g_X7_find_93 LS xs d hd _ q9 _ _ _ _ _
      · refine fo_st rfl rfl ?_
        refine fo_get rfl (eg_7 _) rfl ?_
        refine fo_st rfl rfl ?_
        refine fo_st rfl rfl ?_
        refine fo_st rfl rfl ?_
        refine fo_st rfl rfl ?_
        refine fo_st rfl rfl ?_
        refine fo_st rfl rfl ?_
        refine fo_st rfl rfl ?_
        refine fo_iald rfl (eg_ar _ rfl) ?_
        refine fo_st rfl rfl ?_
        refine fo_get rfl (eg_7 _) rfl ?_
        refine fo_st rfl rfl ?_
        refine fo_iald rfl (eg_ar _ rfl) ?_
        refine fo_b rfl rfl ?_ ?_
        · refine fo_st rfl rfl ?_
          exact g_X7_find_86 LS xs d hd _ _ q9 ih _ _ _ _ _ _
        · refine fo_st rfl rfl ?_
          refine fo_st rfl rfl ?_
          exact g_X7_find_86 LS xs d hd _ _ q9 ih _ _ _ _ _ _
def f_X7_find_40  (r9 : Int32 → Int32 → fS → Option (Int32 × fS)) (l1 : Int32) (l2 : Int32) (t0 : Int32) (s : fS) : Option (Int32 × fS) := f_X7_find_44 r9 fuel l1 l2 t0 (0 : Int32) s
theorem g_X7_find_40 (LS : Nat) (xs : Nat → Int32) (d : Nat) (hd : 0 ≤ d)   (r9 : Int32 → Int32 → fS → Option (Int32 × fS)) (q9 : ∀ (l1 : Int32) (l2 : Int32) (d3 : Option Value) (d4 : Option Value) (s : fS), fo cvI t_X7_find LS xs (mi_call mi_ms false LS xs d) (9, [some (.ref 82), some (.int l1), some (.int l2), d3, d4], [], enc s) (r9 l1 l2 s)) (l1 : Int32) (l2 : Int32) (t0 : Int32) (d3 : Option Value) (d4 : Option Value) (s : fS) : fo cvI t_X7_find LS xs (mi_call mi_ms false LS xs d) (40, [some (.ref 82), some (.int l1), some (.int l2), d3, d4], [.int t0], enc s) (f_X7_find_40 r9 l1 l2 t0 s) := by
  unfold f_X7_find_40
  refine fo_std rfl rfl rfl rfl rfl ?_
  refine fo_st rfl rfl ?_
  refine fo_std rfl rfl rfl rfl rfl ?_
  exact g_X7_find_44 LS xs d hd _ q9 fuel _ _ _ _ _
def f_X7_find_9   : Nat → Int32 → Int32 → fS → Option (Int32 × fS)
  | 0, _, _, _ => none
  | n + 1, l1, l2, s => fchk (mi_in (0 : Int32) (gA s 84).length) ((bif decide (((gA s 84).getD (0 : Int32).toNatClampNeg 0) ≤ l2) then some (l1, (sI s 82 2 (0 : Int32))) else fchk (mi_in ((9 : Int32) * l2) (gA s 85).length) ((bif decide (¬ ((gA s 85).getD ((9 : Int32) * l2).toNatClampNeg 0) = (gI s 82 2)) then f_X7_find_40 (fun l1' l2' s' => f_X7_find_9 n l1' l2' s') l1 l2 (0 : Int32) s else f_X7_find_40 (fun l1' l2' s' => f_X7_find_9 n l1' l2' s') l1 l2 (1 : Int32) s))))
theorem g_X7_find_9 (LS : Nat) (xs : Nat → Int32) (d : Nat) (hd : 0 ≤ d)     (n : Nat) : ∀ (l1 : Int32) (l2 : Int32) (d3 : Option Value) (d4 : Option Value) (s : fS), fo cvI t_X7_find LS xs (mi_call mi_ms false LS xs d) (9, [some (.ref 82), some (.int l1), some (.int l2), d3, d4], [], enc s) (f_X7_find_9 n l1 l2 s) := by
  induction n with
  | zero => intro l1 l2 d3 d4 s; exact fo_none
  | succ n ih =>
    intro l1 l2 d3 d4 s
    rw [f_X7_find_9]
    refine fo_st rfl rfl ?_
    refine fo_st rfl rfl ?_
    refine fo_get rfl (eg_7 _) rfl ?_
    refine fo_st rfl rfl ?_
    refine fo_iald rfl (eg_ar _ rfl) ?_
    refine fo_b rfl rfl ?_ ?_
    · refine fo_st rfl rfl ?_
      refine fo_st rfl rfl ?_
      refine fo_put rfl (eg_7 _) rfl rfl (es_7_2 _ _) ?_
      refine fo_st rfl rfl ?_
      exact fo_ret rfl rfl rfl
    · refine fo_st rfl rfl ?_
      refine fo_get rfl (eg_7 _) rfl ?_
      refine fo_st rfl rfl ?_
      refine fo_st rfl rfl ?_
      refine fo_st rfl rfl ?_
      refine fo_iald rfl (eg_ar _ rfl) ?_
      refine fo_st rfl rfl ?_
      refine fo_get rfl (eg_7 _) rfl ?_
      refine fo_b rfl rfl ?_ ?_
      · refine fo_st rfl rfl ?_
        exact g_X7_find_40 LS xs d hd _ ih _ _ _ _ _ _
      · refine fo_st rfl rfl ?_
        refine fo_st rfl rfl ?_
        exact g_X7_find_40 LS xs d hd _ ih _ _ _ _ _ _
def f_X7_find_0    (s : fS) : Option (Int32 × fS) := f_X7_find_9 fuel (-1 : Int32) (0 : Int32) (sI s 82 0 (0 : Int32))
theorem g_X7_find_0 (LS : Nat) (xs : Nat → Int32) (d : Nat) (hd : 0 ≤ d)       (s : fS) : fo cvI t_X7_find LS xs (mi_call mi_ms false LS xs d) (0, [some (.ref 82), none, none, none, none], [], enc s) (f_X7_find_0 s) := by
  unfold f_X7_find_0
  refine fo_st rfl rfl ?_
  refine fo_st rfl rfl ?_
  refine fo_put rfl (eg_7 _) rfl rfl (es_7_0 _ _) ?_
  refine fo_st rfl rfl ?_
  refine fo_st rfl rfl ?_
  refine fo_st rfl rfl ?_
  refine fo_st rfl rfl ?_
  exact g_X7_find_9 LS xs d hd fuel _ _ _ _ _
def f_X7_find  (s : fS) : Option (Int32 × fS) := f_X7_find_0 s
theorem c_X7_find (LS : Nat) (xs : Nat → Int32) (d : Nat) (hd : 1 ≤ d)   (s : fS) : fm mi_ms cvI LS xs d 131 [.ref 82] (enc s) (f_X7_find  s) := by
  obtain ⟨e, rfl⟩ : ∃ e, d = e + 1 := ⟨d - 1, by omega⟩
  exact fm_of (M := m_X7_find) rfl rfl (fun _ => ⟨_, rfl⟩) (g_X7_find_0 LS xs e (by omega) s)
def f_X7_node_76   (l1 : Int32) (l2 : Int32) (t0 : Int32) (s : fS) : Option (Int32 × fS) := some (t0, s)
theorem g_X7_node_76 (LS : Nat) (xs : Nat → Int32) (d : Nat) (hd : 1 ≤ d)     (l1 : Int32) (l2 : Int32) (t0 : Int32)  (s : fS) : fo cvI t_X7_node LS xs (mi_call mi_ms false LS xs d) (76, [some (.ref 82), some (.int l1), some (.int l2)], [.int t0], enc s) (f_X7_node_76 l1 l2 t0 s) := by
  unfold f_X7_node_76
  exact fo_ret rfl rfl rfl
def f_X7_node_49   (l1 : Int32) (l2 : Int32) (t0 : Int32) (s : fS) : Option (Int32 × fS) := (bif decide (t0 ≤ 0) then fchk (mi_in ((((9 : Int32) * l1) + (1 : Int32)) + l2) (gA s 85).length) (f_X7_node_76 l1 l2 ((gA s 85).getD ((((9 : Int32) * l1) + (1 : Int32)) + l2).toNatClampNeg 0) (sI s 82 0 t0)) else f_X7_node_76 l1 l2 (0 : Int32) (sI s 82 0 t0))
theorem g_X7_node_49 (LS : Nat) (xs : Nat → Int32) (d : Nat) (hd : 1 ≤ d)     (l1 : Int32) (l2 : Int32) (t0 : Int32)  (s : fS) : fo cvI t_X7_node LS xs (mi_call mi_ms false LS xs d) (49, [some (.ref 82), some (.int l1), some (.int l2)], [.int t0, .ref 82], enc s) (f_X7_node_49 l1 l2 t0 s) := by
  unfold f_X7_node_49
  refine fo_put rfl (eg_7 _) rfl rfl (es_7_0 _ _) ?_
  refine fo_st rfl rfl ?_
  refine fo_get rfl (eg_7 _) rfl ?_
  refine fo_b rfl rfl ?_ ?_
  · refine fo_st rfl rfl ?_
    refine fo_get rfl (eg_7 _) rfl ?_
    refine fo_st rfl rfl ?_
    refine fo_st rfl rfl ?_
    refine fo_st rfl rfl ?_
    refine fo_st rfl rfl ?_
    refine fo_st rfl rfl ?_
    refine fo_st rfl rfl ?_
    refine fo_st rfl rfl ?_
    refine fo_iald rfl (eg_ar _ rfl) ?_
    exact g_X7_node_76 LS xs d hd _ _ _ _
  · refine fo_st rfl rfl ?_
    refine fo_st rfl rfl ?_
    exact g_X7_node_76 LS xs d hd _ _ _ _
def f_X7_node_0   (l1 : Int32) (l2 : Int32) (s : fS) : Option (Int32 × fS) := fchk (mi_in (0 : Int32) (gA s 84).length) (((f_X7_in l1 (0 : Int32) (((gA s 84).getD (0 : Int32).toNatClampNeg 0) - (1 : Int32)) (sI s 82 0 (0 : Int32))).bind fun qx1 => (bif decide (¬ qx1.1 = 0) then fchk (mi_in ((9 : Int32) * l1) (gA qx1.2 85).length) (((f_X7_in l2 (0 : Int32) (((gA qx1.2 85).getD ((9 : Int32) * l1).toNatClampNeg 0) - (1 : Int32)) qx1.2).bind fun qx2 => (bif decide (qx2.1 = 0) then f_X7_node_49 l1 l2 (1 : Int32) qx2.2 else f_X7_node_49 l1 l2 (0 : Int32) qx2.2))) else some ((-101 : Int32), qx1.2))))
theorem g_X7_node_0 (LS : Nat) (xs : Nat → Int32) (d : Nat) (hd : 1 ≤ d)     (l1 : Int32) (l2 : Int32)  (s : fS) : fo cvI t_X7_node LS xs (mi_call mi_ms false LS xs d) (0, [some (.ref 82), some (.int l1), some (.int l2)], [], enc s) (f_X7_node_0 l1 l2 s) := by
  unfold f_X7_node_0
  refine fo_st rfl rfl ?_
  refine fo_st rfl rfl ?_
  refine fo_put rfl (eg_7 _) rfl rfl (es_7_0 _ _) ?_
  refine fo_st rfl rfl ?_
  refine fo_st rfl rfl ?_
  refine fo_st rfl rfl ?_
  refine fo_get rfl (eg_7 _) rfl ?_
  refine fo_st rfl rfl ?_
  refine fo_iald rfl (eg_ar _ rfl) ?_
  refine fo_st rfl rfl ?_
  refine fo_st rfl rfl ?_
  refine fo_callI (As := [.int l1, .int (0 : Int32), .int (((gA s 84).getD (0 : Int32).toNatClampNeg 0) - (1 : Int32))]) (rest := []) rfl rfl rfl rfl True.intro (c_X7_in LS xs d (by omega) _ _ _ _) (fun qx1 => ?_)
  refine fo_b rfl rfl ?_ ?_
  · refine fo_st rfl rfl ?_
    refine fo_st rfl rfl ?_
    refine fo_st rfl rfl ?_
    refine fo_st rfl rfl ?_
    refine fo_get rfl (eg_7 _) rfl ?_
    refine fo_st rfl rfl ?_
    refine fo_st rfl rfl ?_
    refine fo_st rfl rfl ?_
    refine fo_iald rfl (eg_ar _ rfl) ?_
    refine fo_st rfl rfl ?_
    refine fo_st rfl rfl ?_
    refine fo_callI (As := [.int l2, .int (0 : Int32), .int (((gA qx1.2 85).getD ((9 : Int32) * l1).toNatClampNeg 0) - (1 : Int32))]) (rest := [.ref 82]) rfl rfl rfl rfl True.intro (c_X7_in LS xs d (by omega) _ _ _ _) (fun qx2 => ?_)
    refine fo_b rfl rfl ?_ ?_
    · refine fo_st rfl rfl ?_
      exact g_X7_node_49 LS xs d hd _ _ _ _
    · refine fo_st rfl rfl ?_
      refine fo_st rfl rfl ?_
      exact g_X7_node_49 LS xs d hd _ _ _ _
  · refine fo_st rfl rfl ?_
    exact fo_ret rfl rfl rfl
def f_X7_node (l1 : Int32) (l2 : Int32) (s : fS) : Option (Int32 × fS) := f_X7_node_0 l1 l2 s
theorem c_X7_node (LS : Nat) (xs : Nat → Int32) (d : Nat) (hd : 2 ≤ d) (l1 : Int32) (l2 : Int32)  (s : fS) : fm mi_ms cvI LS xs d 132 [.ref 82, .int l1, .int l2] (enc s) (f_X7_node l1 l2 s) := by
  obtain ⟨e, rfl⟩ : ∃ e, d = e + 1 := ⟨d - 1, by omega⟩
  exact fm_of (M := m_X7_node) rfl rfl (fun _ => ⟨_, rfl⟩) (g_X7_node_0 LS xs e (by omega) l1 l2 s)
def f_X7_arc_120   (l1 : Int32) (l2 : Int32) (l3 : Int32) (l4 : Int32) (t0 : Int32) (s : fS) : Option (Int32 × fS) := some (t0, s)
theorem g_X7_arc_120 (LS : Nat) (xs : Nat → Int32) (d : Nat) (hd : 1 ≤ d)     (l1 : Int32) (l2 : Int32) (l3 : Int32) (l4 : Int32) (t0 : Int32)  (s : fS) : fo cvI t_X7_arc LS xs (mi_call mi_ms false LS xs d) (120, [some (.ref 82), some (.int l1), some (.int l2), some (.int l3), some (.int l4)], [.int t0], enc s) (f_X7_arc_120 l1 l2 l3 l4 t0 s) := by
  unfold f_X7_arc_120
  exact fo_ret rfl rfl rfl
def f_X7_arc_60  (r29 : Int32 → Int32 → Int32 → Int32 → fS → Option (Int32 × fS)) (l1 : Int32) (l2 : Int32) (l3 : Int32) (l4 : Int32) (t0 : Int32) (t1 : Int32) (s : fS) : Option (Int32 × fS) := r29 l1 l2 (t1 + t0) (l4 + Int32.ofInt (1)) s
theorem g_X7_arc_60 (LS : Nat) (xs : Nat → Int32) (d : Nat) (hd : 1 ≤ d)   (r29 : Int32 → Int32 → Int32 → Int32 → fS → Option (Int32 × fS)) (q29 : ∀ (l1 : Int32) (l2 : Int32) (l3 : Int32) (l4 : Int32) (s : fS), fo cvI t_X7_arc LS xs (mi_call mi_ms false LS xs d) (29, [some (.ref 82), some (.int l1), some (.int l2), some (.int l3), some (.int l4)], [], enc s) (r29 l1 l2 l3 l4 s)) (l1 : Int32) (l2 : Int32) (l3 : Int32) (l4 : Int32) (t0 : Int32) (t1 : Int32)  (s : fS) : fo cvI t_X7_arc LS xs (mi_call mi_ms false LS xs d) (60, [some (.ref 82), some (.int l1), some (.int l2), some (.int l3), some (.int l4)], [.int t0, .int t1], enc s) (f_X7_arc_60 r29 l1 l2 l3 l4 t0 t1 s) := by
  unfold f_X7_arc_60
  refine fo_st rfl rfl ?_
  refine fo_st rfl rfl ?_
  refine fo_st rfl rfl ?_
  refine fo_st rfl rfl ?_
  exact q29 _ _ _ _ _
def f_X7_arc_29   : Nat → Int32 → Int32 → Int32 → Int32 → fS → Option (Int32 × fS)
  | 0, _, _, _, _, _ => none
  | n + 1, l1, l2, l3, l4, s => fchk (mi_in (0 : Int32) (gA s 90).length) ((bif decide (((gA s 90).getD (0 : Int32).toNatClampNeg 0) ≤ l4) then (bif decide (¬ l2 = 0) then (bif decide (¬ l2 = (1 : Int32)) then (bif decide (¬ l2 = (2 : Int32)) then (bif decide (¬ l2 = (3 : Int32)) then f_X7_arc_120 l1 l2 l3 l4 (-102 : Int32) s else f_X7_arc_120 l1 l2 l3 l4 l3 s) else fchk (mi_in l1 (gA s 89).length) (f_X7_arc_120 l1 l2 l3 l4 ((gA s 89).getD l1.toNatClampNeg 0) s)) else fchk (mi_in l1 (gA s 88).length) (f_X7_arc_120 l1 l2 l3 l4 ((gA s 88).getD l1.toNatClampNeg 0) s)) else fchk (mi_in l1 (gA s 87).length) (f_X7_arc_120 l1 l2 l3 l4 ((gA s 87).getD l1.toNatClampNeg 0) s)) else fchk (mi_in (((3 : Int32) * l1) + l4) (gA s 93).length) ((bif decide (¬ ((gA s 93).getD (((3 : Int32) * l1) + l4).toNatClampNeg 0) = 0) then f_X7_arc_60 (fun l1' l2' l3' l4' s' => f_X7_arc_29 n l1' l2' l3' l4' s') l1 l2 l3 l4 (0 : Int32) l3 s else f_X7_arc_60 (fun l1' l2' l3' l4' s' => f_X7_arc_29 n l1' l2' l3' l4' s') l1 l2 l3 l4 (1 : Int32) l3 s))))
theorem g_X7_arc_29 (LS : Nat) (xs : Nat → Int32) (d : Nat) (hd : 1 ≤ d)     (n : Nat) : ∀ (l1 : Int32) (l2 : Int32) (l3 : Int32) (l4 : Int32) (s : fS), fo cvI t_X7_arc LS xs (mi_call mi_ms false LS xs d) (29, [some (.ref 82), some (.int l1), some (.int l2), some (.int l3), some (.int l4)], [], enc s) (f_X7_arc_29 n l1 l2 l3 l4 s) := by
  induction n with
  | zero => intro l1 l2 l3 l4 s; exact fo_none
  | succ n ih =>
    intro l1 l2 l3 l4 s
    rw [f_X7_arc_29]
    refine fo_st rfl rfl ?_
    refine fo_st rfl rfl ?_
    refine fo_get rfl (eg_7 _) rfl ?_
    refine fo_st rfl rfl ?_
    refine fo_iald rfl (eg_ar _ rfl) ?_
    refine fo_b rfl rfl ?_ ?_
    · refine fo_st rfl rfl ?_
      refine fo_b rfl rfl ?_ ?_
      · refine fo_st rfl rfl ?_
        refine fo_st rfl rfl ?_
        refine fo_b rfl rfl ?_ ?_
        · refine fo_st rfl rfl ?_
          refine fo_st rfl rfl ?_
          refine fo_b rfl rfl ?_ ?_
          · refine fo_st rfl rfl ?_
            refine fo_st rfl rfl ?_
            refine fo_b rfl rfl ?_ ?_
            · refine fo_st rfl rfl ?_
              exact g_X7_arc_120 LS xs d hd _ _ _ _ _ _
            · refine fo_st rfl rfl ?_
              refine fo_st rfl rfl ?_
              exact g_X7_arc_120 LS xs d hd _ _ _ _ _ _
          · refine fo_st rfl rfl ?_
            refine fo_get rfl (eg_7 _) rfl ?_
            refine fo_st rfl rfl ?_
            refine fo_iald rfl (eg_ar _ rfl) ?_
            refine fo_st rfl rfl ?_
            exact g_X7_arc_120 LS xs d hd _ _ _ _ _ _
        · refine fo_st rfl rfl ?_
          refine fo_get rfl (eg_7 _) rfl ?_
          refine fo_st rfl rfl ?_
          refine fo_iald rfl (eg_ar _ rfl) ?_
          refine fo_st rfl rfl ?_
          exact g_X7_arc_120 LS xs d hd _ _ _ _ _ _
      · refine fo_st rfl rfl ?_
        refine fo_get rfl (eg_7 _) rfl ?_
        refine fo_st rfl rfl ?_
        refine fo_iald rfl (eg_ar _ rfl) ?_
        refine fo_st rfl rfl ?_
        exact g_X7_arc_120 LS xs d hd _ _ _ _ _ _
    · refine fo_st rfl rfl ?_
      refine fo_st rfl rfl ?_
      refine fo_get rfl (eg_7 _) rfl ?_
      refine fo_st rfl rfl ?_
      refine fo_st rfl rfl ?_
      refine fo_st rfl rfl ?_
      refine fo_st rfl rfl ?_
      refine fo_st rfl rfl ?_
      refine fo_iald rfl (eg_ar _ rfl) ?_
      refine fo_b rfl rfl ?_ ?_
      · refine fo_st rfl rfl ?_
        exact g_X7_arc_60 LS xs d hd _ ih _ _ _ _ _ _ _
      · refine fo_st rfl rfl ?_
        refine fo_st rfl rfl ?_
        exact g_X7_arc_60 LS xs d hd _ ih _ _ _ _ _ _ _
def f_X7_arc_0   (l1 : Int32) (l2 : Int32) (s : fS) : Option (Int32 × fS) := fchk (mi_in (0 : Int32) (gA s 86).length) (((f_X7_in l1 (0 : Int32) (((gA s 86).getD (0 : Int32).toNatClampNeg 0) - (1 : Int32)) (sI s 82 0 (0 : Int32))).bind fun qx1 => (bif decide (¬ qx1.1 = 0) then f_X7_arc_29 fuel l1 l2 (0 : Int32) (0 : Int32) qx1.2 else some ((-101 : Int32), qx1.2))))
theorem g_X7_arc_0 (LS : Nat) (xs : Nat → Int32) (d : Nat) (hd : 1 ≤ d)     (l1 : Int32) (l2 : Int32)  (s : fS) : fo cvI t_X7_arc LS xs (mi_call mi_ms false LS xs d) (0, [some (.ref 82), some (.int l1), some (.int l2), none, none], [], enc s) (f_X7_arc_0 l1 l2 s) := by
  unfold f_X7_arc_0
  refine fo_st rfl rfl ?_
  refine fo_st rfl rfl ?_
  refine fo_put rfl (eg_7 _) rfl rfl (es_7_0 _ _) ?_
  refine fo_st rfl rfl ?_
  refine fo_st rfl rfl ?_
  refine fo_st rfl rfl ?_
  refine fo_get rfl (eg_7 _) rfl ?_
  refine fo_st rfl rfl ?_
  refine fo_iald rfl (eg_ar _ rfl) ?_
  refine fo_st rfl rfl ?_
  refine fo_st rfl rfl ?_
  refine fo_callI (As := [.int l1, .int (0 : Int32), .int (((gA s 86).getD (0 : Int32).toNatClampNeg 0) - (1 : Int32))]) (rest := []) rfl rfl rfl rfl True.intro (c_X7_in LS xs d (by omega) _ _ _ _) (fun qx1 => ?_)
  refine fo_b rfl rfl ?_ ?_
  · refine fo_st rfl rfl ?_
    refine fo_st rfl rfl ?_
    refine fo_st rfl rfl ?_
    refine fo_st rfl rfl ?_
    exact g_X7_arc_29 LS xs d hd fuel _ _ _ _ _
  · refine fo_st rfl rfl ?_
    exact fo_ret rfl rfl rfl
def f_X7_arc (l1 : Int32) (l2 : Int32) (s : fS) : Option (Int32 × fS) := f_X7_arc_0 l1 l2 s
theorem c_X7_arc (LS : Nat) (xs : Nat → Int32) (d : Nat) (hd : 2 ≤ d) (l1 : Int32) (l2 : Int32)  (s : fS) : fm mi_ms cvI LS xs d 133 [.ref 82, .int l1, .int l2] (enc s) (f_X7_arc l1 l2 s) := by
  obtain ⟨e, rfl⟩ : ∃ e, d = e + 1 := ⟨d - 1, by omega⟩
  exact fm_of (M := m_X7_arc) rfl rfl (fun _ => ⟨_, rfl⟩) (g_X7_arc_0 LS xs e (by omega) l1 l2 s)
def f_X7_isColumn_0   (l1 : Int32) (s : fS) : Option (Int32 × fS) := fchk (mi_in (0 : Int32) (gA s 90).length) (((f_X7_in l1 (0 : Int32) (((gA s 90).getD (0 : Int32).toNatClampNeg 0) - (1 : Int32)) s).bind fun qx1 => fchk (fbl qx1.1) (some (qx1.1, qx1.2))))
theorem g_X7_isColumn_0 (LS : Nat) (xs : Nat → Int32) (d : Nat) (hd : 1 ≤ d)     (l1 : Int32)  (s : fS) : fo cvI t_X7_isColumn LS xs (mi_call mi_ms false LS xs d) (0, [some (.ref 82), some (.int l1)], [], enc s) (f_X7_isColumn_0 l1 s) := by
  unfold f_X7_isColumn_0
  refine fo_st rfl rfl ?_
  refine fo_st rfl rfl ?_
  refine fo_st rfl rfl ?_
  refine fo_get rfl (eg_7 _) rfl ?_
  refine fo_st rfl rfl ?_
  refine fo_iald rfl (eg_ar _ rfl) ?_
  refine fo_st rfl rfl ?_
  refine fo_st rfl rfl ?_
  refine fo_callI (As := [.int l1, .int (0 : Int32), .int (((gA s 90).getD (0 : Int32).toNatClampNeg 0) - (1 : Int32))]) (rest := []) rfl rfl rfl rfl True.intro (c_X7_in LS xs d (by omega) _ _ _ _) (fun qx1 => ?_)
  exact fo_ret2 rfl rfl
def f_X7_isColumn (l1 : Int32) (s : fS) : Option (Int32 × fS) := f_X7_isColumn_0 l1 s
theorem c_X7_isColumn (LS : Nat) (xs : Nat → Int32) (d : Nat) (hd : 2 ≤ d) (l1 : Int32)  (s : fS) : fm mi_ms cvI LS xs d 134 [.ref 82, .int l1] (enc s) (f_X7_isColumn l1 s) := by
  obtain ⟨e, rfl⟩ : ∃ e, d = e + 1 := ⟨d - 1, by omega⟩
  exact fm_of (M := m_X7_isColumn) rfl rfl (fun _ => ⟨_, rfl⟩) (g_X7_isColumn_0 LS xs e (by omega) l1 s)
theorem p_X7_isColumn_0    (l1 : Int32) (s : fS) : pu s (f_X7_isColumn_0 l1 s) := by
  unfold f_X7_isColumn_0
  refine pu_ck ?_
  refine pu_bind (p_X7_in _ _ _ _) (fun v => ?_)
  refine pu_ck ?_
  exact pu_some rfl
theorem p_X7_isColumn (l1 : Int32) (s : fS) : pu s (f_X7_isColumn l1 s) := p_X7_isColumn_0 l1 s
def f_X7_kind_24   (l1 : Int32) (t0 : Int32) (s : fS) : Option (Int32 × fS) := some (t0, s)
theorem g_X7_kind_24 (LS : Nat) (xs : Nat → Int32) (d : Nat) (hd : 2 ≤ d)     (l1 : Int32) (t0 : Int32)  (s : fS) : fo cvI t_X7_kind LS xs (mi_call mi_ms false LS xs d) (24, [some (.ref 82), some (.int l1)], [.int t0], enc s) (f_X7_kind_24 l1 t0 s) := by
  unfold f_X7_kind_24
  exact fo_ret rfl rfl rfl
def f_X7_kind_0   (l1 : Int32) (s : fS) : Option (Int32 × fS) := ((f_X7_isColumn l1 (sI s 82 0 (0 : Int32))).bind fun qx1 => (bif decide (qx1.1 = 0) then f_X7_kind_24 l1 (-101 : Int32) qx1.2 else fchk (mi_in l1 (gA qx1.2 91).length) (f_X7_kind_24 l1 ((gA qx1.2 91).getD l1.toNatClampNeg 0) qx1.2)))
theorem g_X7_kind_0 (LS : Nat) (xs : Nat → Int32) (d : Nat) (hd : 2 ≤ d)     (l1 : Int32)  (s : fS) : fo cvI t_X7_kind LS xs (mi_call mi_ms false LS xs d) (0, [some (.ref 82), some (.int l1)], [], enc s) (f_X7_kind_0 l1 s) := by
  unfold f_X7_kind_0
  refine fo_st rfl rfl ?_
  refine fo_st rfl rfl ?_
  refine fo_put rfl (eg_7 _) rfl rfl (es_7_0 _ _) ?_
  refine fo_st rfl rfl ?_
  refine fo_st rfl rfl ?_
  refine fo_callI (As := [.ref 82, .int l1]) (rest := []) rfl rfl rfl rfl (mi_rcv_of (eg_7 _)) (c_X7_isColumn LS xs d (by omega) _ _) (fun qx1 => ?_)
  refine fo_b rfl rfl ?_ ?_
  · refine fo_st rfl rfl ?_
    exact g_X7_kind_24 LS xs d hd _ _ _
  · refine fo_st rfl rfl ?_
    refine fo_get rfl (eg_7 _) rfl ?_
    refine fo_st rfl rfl ?_
    refine fo_iald rfl (eg_ar _ rfl) ?_
    refine fo_st rfl rfl ?_
    exact g_X7_kind_24 LS xs d hd _ _ _
def f_X7_kind (l1 : Int32) (s : fS) : Option (Int32 × fS) := f_X7_kind_0 l1 s
theorem c_X7_kind (LS : Nat) (xs : Nat → Int32) (d : Nat) (hd : 3 ≤ d) (l1 : Int32)  (s : fS) : fm mi_ms cvI LS xs d 135 [.ref 82, .int l1] (enc s) (f_X7_kind l1 s) := by
  obtain ⟨e, rfl⟩ : ∃ e, d = e + 1 := ⟨d - 1, by omega⟩
  exact fm_of (M := m_X7_kind) rfl rfl (fun _ => ⟨_, rfl⟩) (g_X7_kind_0 LS xs e (by omega) l1 s)
def f_X7_head_68   (l1 : Int32) (l2 : Int32) (t0 : Int32) (s : fS) : Option (Int32 × fS) := some (t0, s)
theorem g_X7_head_68 (LS : Nat) (xs : Nat → Int32) (d : Nat) (hd : 2 ≤ d)     (l1 : Int32) (l2 : Int32) (t0 : Int32)  (s : fS) : fo cvI t_X7_head LS xs (mi_call mi_ms false LS xs d) (68, [some (.ref 82), some (.int l1), some (.int l2)], [.int t0], enc s) (f_X7_head_68 l1 l2 t0 s) := by
  unfold f_X7_head_68
  exact fo_ret rfl rfl rfl
def f_X7_head_41   (l1 : Int32) (l2 : Int32) (t0 : Int32) (s : fS) : Option (Int32 × fS) := (bif decide (t0 ≤ 0) then fchk (mi_in ((((9 : Int32) * l1) + (1 : Int32)) + l2) (gA s 92).length) (f_X7_head_68 l1 l2 ((gA s 92).getD ((((9 : Int32) * l1) + (1 : Int32)) + l2).toNatClampNeg 0) (sI s 82 0 t0)) else f_X7_head_68 l1 l2 (0 : Int32) (sI s 82 0 t0))
theorem g_X7_head_41 (LS : Nat) (xs : Nat → Int32) (d : Nat) (hd : 2 ≤ d)     (l1 : Int32) (l2 : Int32) (t0 : Int32)  (s : fS) : fo cvI t_X7_head LS xs (mi_call mi_ms false LS xs d) (41, [some (.ref 82), some (.int l1), some (.int l2)], [.int t0, .ref 82], enc s) (f_X7_head_41 l1 l2 t0 s) := by
  unfold f_X7_head_41
  refine fo_put rfl (eg_7 _) rfl rfl (es_7_0 _ _) ?_
  refine fo_st rfl rfl ?_
  refine fo_get rfl (eg_7 _) rfl ?_
  refine fo_b rfl rfl ?_ ?_
  · refine fo_st rfl rfl ?_
    refine fo_get rfl (eg_7 _) rfl ?_
    refine fo_st rfl rfl ?_
    refine fo_st rfl rfl ?_
    refine fo_st rfl rfl ?_
    refine fo_st rfl rfl ?_
    refine fo_st rfl rfl ?_
    refine fo_st rfl rfl ?_
    refine fo_st rfl rfl ?_
    refine fo_iald rfl (eg_ar _ rfl) ?_
    exact g_X7_head_68 LS xs d hd _ _ _ _
  · refine fo_st rfl rfl ?_
    refine fo_st rfl rfl ?_
    exact g_X7_head_68 LS xs d hd _ _ _ _
def f_X7_head_0   (l1 : Int32) (l2 : Int32) (s : fS) : Option (Int32 × fS) := ((f_X7_isColumn l1 (sI s 82 0 (0 : Int32))).bind fun qx1 => (bif decide (¬ qx1.1 = 0) then fchk (mi_in ((9 : Int32) * l1) (gA qx1.2 92).length) (((f_X7_in l2 (0 : Int32) (((gA qx1.2 92).getD ((9 : Int32) * l1).toNatClampNeg 0) - (1 : Int32)) qx1.2).bind fun qx2 => (bif decide (qx2.1 = 0) then f_X7_head_41 l1 l2 (1 : Int32) qx2.2 else f_X7_head_41 l1 l2 (0 : Int32) qx2.2))) else some ((-101 : Int32), qx1.2)))
theorem g_X7_head_0 (LS : Nat) (xs : Nat → Int32) (d : Nat) (hd : 2 ≤ d)     (l1 : Int32) (l2 : Int32)  (s : fS) : fo cvI t_X7_head LS xs (mi_call mi_ms false LS xs d) (0, [some (.ref 82), some (.int l1), some (.int l2)], [], enc s) (f_X7_head_0 l1 l2 s) := by
  unfold f_X7_head_0
  refine fo_st rfl rfl ?_
  refine fo_st rfl rfl ?_
  refine fo_put rfl (eg_7 _) rfl rfl (es_7_0 _ _) ?_
  refine fo_st rfl rfl ?_
  refine fo_st rfl rfl ?_
  refine fo_callI (As := [.ref 82, .int l1]) (rest := []) rfl rfl rfl rfl (mi_rcv_of (eg_7 _)) (c_X7_isColumn LS xs d (by omega) _ _) (fun qx1 => ?_)
  refine fo_b rfl rfl ?_ ?_
  · refine fo_st rfl rfl ?_
    refine fo_st rfl rfl ?_
    refine fo_st rfl rfl ?_
    refine fo_st rfl rfl ?_
    refine fo_get rfl (eg_7 _) rfl ?_
    refine fo_st rfl rfl ?_
    refine fo_st rfl rfl ?_
    refine fo_st rfl rfl ?_
    refine fo_iald rfl (eg_ar _ rfl) ?_
    refine fo_st rfl rfl ?_
    refine fo_st rfl rfl ?_
    refine fo_callI (As := [.int l2, .int (0 : Int32), .int (((gA qx1.2 92).getD ((9 : Int32) * l1).toNatClampNeg 0) - (1 : Int32))]) (rest := [.ref 82]) rfl rfl rfl rfl True.intro (c_X7_in LS xs d (by omega) _ _ _ _) (fun qx2 => ?_)
    refine fo_b rfl rfl ?_ ?_
    · refine fo_st rfl rfl ?_
      exact g_X7_head_41 LS xs d hd _ _ _ _
    · refine fo_st rfl rfl ?_
      refine fo_st rfl rfl ?_
      exact g_X7_head_41 LS xs d hd _ _ _ _
  · refine fo_st rfl rfl ?_
    exact fo_ret rfl rfl rfl
def f_X7_head (l1 : Int32) (l2 : Int32) (s : fS) : Option (Int32 × fS) := f_X7_head_0 l1 l2 s
theorem c_X7_head (LS : Nat) (xs : Nat → Int32) (d : Nat) (hd : 3 ≤ d) (l1 : Int32) (l2 : Int32)  (s : fS) : fm mi_ms cvI LS xs d 136 [.ref 82, .int l1, .int l2] (enc s) (f_X7_head l1 l2 s) := by
  obtain ⟨e, rfl⟩ : ∃ e, d = e + 1 := ⟨d - 1, by omega⟩
  exact fm_of (M := m_X7_head) rfl rfl (fun _ => ⟨_, rfl⟩) (g_X7_head_0 LS xs e (by omega) l1 l2 s)
def f_X7_value_29   (l1 : Int32) (l2 : Int32) (s : fS) : Option (Int32 × fS) := some ((-101 : Int32), s)
theorem g_X7_value_29 (LS : Nat) (xs : Nat → Int32) (d : Nat) (hd : 2 ≤ d)     (l1 : Int32) (l2 : Int32)  (s : fS) : fo cvI t_X7_value LS xs (mi_call mi_ms false LS xs d) (29, [some (.ref 82), some (.int l1), some (.int l2)], [], enc s) (f_X7_value_29 l1 l2 s) := by
  unfold f_X7_value_29
  refine fo_st rfl rfl ?_
  exact fo_ret rfl rfl rfl
def f_X7_value_89   (l1 : Int32) (l2 : Int32) (t0 : Int32) (s : fS) : Option (Int32 × fS) := some (t0, s)
theorem g_X7_value_89 (LS : Nat) (xs : Nat → Int32) (d : Nat) (hd : 2 ≤ d)     (l1 : Int32) (l2 : Int32) (t0 : Int32)  (s : fS) : fo cvI t_X7_value LS xs (mi_call mi_ms false LS xs d) (89, [some (.ref 82), some (.int l1), some (.int l2)], [.int t0], enc s) (f_X7_value_89 l1 l2 t0 s) := by
  unfold f_X7_value_89
  exact fo_ret rfl rfl rfl
def f_X7_value_65   (l1 : Int32) (l2 : Int32) (t0 : Int32) (s : fS) : Option (Int32 × fS) := (bif decide (t0 ≤ 0) then fchk (mi_in (((3 : Int32) * l1) + l2) (gA s 94).length) (f_X7_value_89 l1 l2 ((gA s 94).getD (((3 : Int32) * l1) + l2).toNatClampNeg 0) (sI s 82 0 t0)) else f_X7_value_89 l1 l2 (0 : Int32) (sI s 82 0 t0))
theorem g_X7_value_65 (LS : Nat) (xs : Nat → Int32) (d : Nat) (hd : 2 ≤ d)     (l1 : Int32) (l2 : Int32) (t0 : Int32)  (s : fS) : fo cvI t_X7_value LS xs (mi_call mi_ms false LS xs d) (65, [some (.ref 82), some (.int l1), some (.int l2)], [.int t0, .ref 82], enc s) (f_X7_value_65 l1 l2 t0 s) := by
  unfold f_X7_value_65
  refine fo_put rfl (eg_7 _) rfl rfl (es_7_0 _ _) ?_
  refine fo_st rfl rfl ?_
  refine fo_get rfl (eg_7 _) rfl ?_
  refine fo_b rfl rfl ?_ ?_
  · refine fo_st rfl rfl ?_
    refine fo_get rfl (eg_7 _) rfl ?_
    refine fo_st rfl rfl ?_
    refine fo_st rfl rfl ?_
    refine fo_st rfl rfl ?_
    refine fo_st rfl rfl ?_
    refine fo_st rfl rfl ?_
    refine fo_iald rfl (eg_ar _ rfl) ?_
    exact g_X7_value_89 LS xs d hd _ _ _ _
  · refine fo_st rfl rfl ?_
    refine fo_st rfl rfl ?_
    exact g_X7_value_89 LS xs d hd _ _ _ _
def f_X7_value_0   (l1 : Int32) (l2 : Int32) (s : fS) : Option (Int32 × fS) := fchk (mi_in (0 : Int32) (gA s 86).length) (((f_X7_in l1 (0 : Int32) (((gA s 86).getD (0 : Int32).toNatClampNeg 0) - (1 : Int32)) (sI s 82 0 (0 : Int32))).bind fun qx1 => (bif decide (qx1.1 = 0) then f_X7_value_29 l1 l2 qx1.2 else ((f_X7_isColumn l2 qx1.2).bind fun qx2 => (bif decide (¬ qx2.1 = 0) then fchk (mi_in (((3 : Int32) * l1) + l2) (gA qx2.2 93).length) ((bif decide (¬ ((gA qx2.2 93).getD (((3 : Int32) * l1) + l2).toNatClampNeg 0) = 0) then fchk (mi_in l2 (gA qx2.2 91).length) ((bif decide (¬ ((gA qx2.2 91).getD l2.toNatClampNeg 0) = (2 : Int32)) then f_X7_value_65 l1 l2 (0 : Int32) qx2.2 else f_X7_value_65 l1 l2 (2 : Int32) qx2.2)) else f_X7_value_65 l1 l2 (1 : Int32) qx2.2)) else f_X7_value_29 l1 l2 qx2.2)))))
theorem g_X7_value_0 (LS : Nat) (xs : Nat → Int32) (d : Nat) (hd : 2 ≤ d)     (l1 : Int32) (l2 : Int32)  (s : fS) : fo cvI t_X7_value LS xs (mi_call mi_ms false LS xs d) (0, [some (.ref 82), some (.int l1), some (.int l2)], [], enc s) (f_X7_value_0 l1 l2 s) := by
  unfold f_X7_value_0
  refine fo_st rfl rfl ?_
  refine fo_st rfl rfl ?_
  refine fo_put rfl (eg_7 _) rfl rfl (es_7_0 _ _) ?_
  refine fo_st rfl rfl ?_
  refine fo_st rfl rfl ?_
  refine fo_st rfl rfl ?_
  refine fo_get rfl (eg_7 _) rfl ?_
  refine fo_st rfl rfl ?_
  refine fo_iald rfl (eg_ar _ rfl) ?_
  refine fo_st rfl rfl ?_
  refine fo_st rfl rfl ?_
  refine fo_callI (As := [.int l1, .int (0 : Int32), .int (((gA s 86).getD (0 : Int32).toNatClampNeg 0) - (1 : Int32))]) (rest := []) rfl rfl rfl rfl True.intro (c_X7_in LS xs d (by omega) _ _ _ _) (fun qx1 => ?_)
  refine fo_b rfl rfl ?_ ?_
  · exact g_X7_value_29 LS xs d hd _ _ _
  · refine fo_st rfl rfl ?_
    refine fo_st rfl rfl ?_
    refine fo_callI (As := [.ref 82, .int l2]) (rest := []) rfl rfl rfl rfl (mi_rcv_of (eg_7 _)) (c_X7_isColumn LS xs d (by omega) _ _) (fun qx2 => ?_)
    refine fo_b rfl rfl ?_ ?_
    · refine fo_st rfl rfl ?_
      refine fo_st rfl rfl ?_
      refine fo_get rfl (eg_7 _) rfl ?_
      refine fo_st rfl rfl ?_
      refine fo_st rfl rfl ?_
      refine fo_st rfl rfl ?_
      refine fo_st rfl rfl ?_
      refine fo_st rfl rfl ?_
      refine fo_iald rfl (eg_ar _ rfl) ?_
      refine fo_b rfl rfl ?_ ?_
      · refine fo_st rfl rfl ?_
        refine fo_get rfl (eg_7 _) rfl ?_
        refine fo_st rfl rfl ?_
        refine fo_iald rfl (eg_ar _ rfl) ?_
        refine fo_st rfl rfl ?_
        refine fo_b rfl rfl ?_ ?_
        · refine fo_st rfl rfl ?_
          exact g_X7_value_65 LS xs d hd _ _ _ _
        · refine fo_st rfl rfl ?_
          refine fo_st rfl rfl ?_
          exact g_X7_value_65 LS xs d hd _ _ _ _
      · refine fo_st rfl rfl ?_
        refine fo_st rfl rfl ?_
        exact g_X7_value_65 LS xs d hd _ _ _ _
    · exact g_X7_value_29 LS xs d hd _ _ _
def f_X7_value (l1 : Int32) (l2 : Int32) (s : fS) : Option (Int32 × fS) := f_X7_value_0 l1 l2 s
theorem c_X7_value (LS : Nat) (xs : Nat → Int32) (d : Nat) (hd : 3 ≤ d) (l1 : Int32) (l2 : Int32)  (s : fS) : fm mi_ms cvI LS xs d 137 [.ref 82, .int l1, .int l2] (enc s) (f_X7_value l1 l2 s) := by
  obtain ⟨e, rfl⟩ : ∃ e, d = e + 1 := ⟨d - 1, by omega⟩
  exact fm_of (M := m_X7_value) rfl rfl (fun _ => ⟨_, rfl⟩) (g_X7_value_0 LS xs e (by omega) l1 l2 s)
end FM10
