section FM8
def f_X7_readCount_171   (l1 : Int32) (s : fS) : Option fS := ((f_X7_ended s).bind fun qx1 => ((f_X7_laySort (2 : Int32) qx1).bind fun qx2 => some qx2))
theorem g_X7_readCount_171 (LS : Nat) (xs : Nat → Int32) (d : Nat) (hd : 2 ≤ d)     (l1 : Int32) (d2 : Option Value) (d3 : Option Value) (s : fS) : fo cvV t_X7_readCount LS xs (mi_call mi_ms false LS xs d) (171, [some (.ref 82), some (.int l1), d2, d3], [], enc s) (f_X7_readCount_171 l1 s) := by
  unfold f_X7_readCount_171
  refine fo_st rfl rfl ?_
  refine fo_callV (As := [.ref 82]) (rest := []) rfl rfl rfl rfl (mi_rcv_of (eg_7 _)) (c_X7_ended LS xs d (by omega)  _) (fun qx1 => ?_)
  refine fo_st rfl rfl ?_
  refine fo_st rfl rfl ?_
  refine fo_callV (As := [.ref 82, .int (2 : Int32)]) (rest := []) rfl rfl rfl rfl (mi_rcv_of (eg_7 _)) (c_X7_laySort LS xs d (by omega) _ _) (fun qx2 => ?_)
  exact fo_ret rfl rfl rfl
def f_X7_readCount_156  (r33 : Int32 → fS → Option fS) (l1 : Int32) (l2 : Int32) (l3 : Int32) (s : fS) : Option fS := fchk (mi_in ((2 : Int32) + l1) (gA s 101).length) (r33 (l1 + Int32.ofInt (1)) (sA s 101 ((gA s 101).set ((2 : Int32) + l1).toNatClampNeg l3)))
theorem g_X7_readCount_156 (LS : Nat) (xs : Nat → Int32) (d : Nat) (hd : 2 ≤ d)   (r33 : Int32 → fS → Option fS) (q33 : ∀ (l1 : Int32) (d2 : Option Value) (d3 : Option Value) (s : fS), fo cvV t_X7_readCount LS xs (mi_call mi_ms false LS xs d) (33, [some (.ref 82), some (.int l1), d2, d3], [], enc s) (r33 l1 s)) (l1 : Int32) (l2 : Int32) (l3 : Int32)  (s : fS) : fo cvV t_X7_readCount LS xs (mi_call mi_ms false LS xs d) (156, [some (.ref 82), some (.int l1), some (.int l2), some (.int l3)], [], enc s) (f_X7_readCount_156 r33 l1 l2 l3 s) := by
  unfold f_X7_readCount_156
  refine fo_st rfl rfl ?_
  refine fo_get rfl (eg_7 _) rfl ?_
  refine fo_st rfl rfl ?_
  refine fo_st rfl rfl ?_
  refine fo_st rfl rfl ?_
  refine fo_st rfl rfl ?_
  refine fo_iast rfl (eg_ar _ rfl) (es_ar _ rfl _) ?_
  refine fo_st rfl rfl ?_
  refine fo_st rfl rfl ?_
  exact q33 _ _ _ _
def f_X7_readCount_127  (r33 : Int32 → fS → Option fS) (r96 : Int32 → Int32 → Int32 → fS → Option fS) (l1 : Int32) (l2 : Int32) (l3 : Int32) (s : fS) : Option fS := ((f_X7_here s).bind fun qx1 => r96 l1 (l2 + Int32.ofInt (1)) ((((10 : Int32) * l3) + qx1.1) - (48 : Int32)) (sI qx1.2 82 27 ((gI qx1.2 82 27) + (1 : Int32))))
theorem g_X7_readCount_127 (LS : Nat) (xs : Nat → Int32) (d : Nat) (hd : 2 ≤ d)   (r33 : Int32 → fS → Option fS) (r96 : Int32 → Int32 → Int32 → fS → Option fS) (q33 : ∀ (l1 : Int32) (d2 : Option Value) (d3 : Option Value) (s : fS), fo cvV t_X7_readCount LS xs (mi_call mi_ms false LS xs d) (33, [some (.ref 82), some (.int l1), d2, d3], [], enc s) (r33 l1 s)) (q96 : ∀ (l1 : Int32) (l2 : Int32) (l3 : Int32) (s : fS), fo cvV t_X7_readCount LS xs (mi_call mi_ms false LS xs d) (96, [some (.ref 82), some (.int l1), some (.int l2), some (.int l3)], [], enc s) (r96 l1 l2 l3 s)) (l1 : Int32) (l2 : Int32) (l3 : Int32)  (s : fS) : fo cvV t_X7_readCount LS xs (mi_call mi_ms false LS xs d) (127, [some (.ref 82), some (.int l1), some (.int l2), some (.int l3)], [], enc s) (f_X7_readCount_127 r33 r96 l1 l2 l3 s) := by
  unfold f_X7_readCount_127
  refine fo_st rfl rfl ?_
  refine fo_st rfl rfl ?_
  refine fo_st rfl rfl ?_
  refine fo_st rfl rfl ?_
  refine fo_callI (As := [.ref 82]) (rest := [.int ((10 : Int32) * l3)]) rfl rfl rfl rfl (mi_rcv_of (eg_7 _)) (c_X7_here LS xs d (by omega)  _) (fun qx1 => ?_)
  refine fo_st rfl rfl ?_
  refine fo_st rfl rfl ?_
  refine fo_st rfl rfl ?_
  refine fo_st rfl rfl ?_
  refine fo_st rfl rfl ?_
  refine fo_st rfl rfl ?_
  refine fo_st rfl rfl ?_
  refine fo_get rfl (eg_7 _) rfl ?_
  refine fo_st rfl rfl ?_
  refine fo_st rfl rfl ?_
  refine fo_put rfl (eg_7 _) rfl rfl (es_7_27 _ _) ?_
  refine fo_st rfl rfl ?_
  exact q96 _ _ _ _
def f_X7_readCount_96  (r33 : Int32 → fS → Option fS) : Nat → Int32 → Int32 → Int32 → fS → Option fS
  | 0, _, _, _, _ => none
  | n + 1, l1, l2, l3, s => (bif decide (¬ (gI s 82 30) = 0) then f_X7_readCount_156 r33 l1 l2 l3 s else ((f_X7_here s).bind fun qx1 => ((f_X7_isFigure qx1.1 qx1.2).bind fun qx2 => (bif decide (qx2.1 = 0) then f_X7_readCount_156 r33 l1 l2 l3 qx2.2 else (bif decide (¬ l2 = (2 : Int32)) then f_X7_readCount_127 r33 (fun l1' l2' l3' s' => f_X7_readCount_96 r33 n l1' l2' l3' s') l1 l2 l3 qx2.2 else ((f_X7_wrong (2 : Int32) (gI qx2.2 82 27) qx2.2).bind fun qx3 => f_X7_readCount_127 r33 (fun l1' l2' l3' s' => f_X7_readCount_96 r33 n l1' l2' l3' s') l1 l2 l3 qx3))))))
theorem g_X7_readCount_96 (LS : Nat) (xs : Nat → Int32) (d : Nat) (hd : 2 ≤ d)   (r33 : Int32 → fS → Option fS) (q33 : ∀ (l1 : Int32) (d2 : Option Value) (d3 : Option Value) (s : fS), fo cvV t_X7_readCount LS xs (mi_call mi_ms false LS xs d) (33, [some (.ref 82), some (.int l1), d2, d3], [], enc s) (r33 l1 s)) (n : Nat) : ∀ (l1 : Int32) (l2 : Int32) (l3 : Int32) (s : fS), fo cvV t_X7_readCount LS xs (mi_call mi_ms false LS xs d) (96, [some (.ref 82), some (.int l1), some (.int l2), some (.int l3)], [], enc s) (f_X7_readCount_96 r33 n l1 l2 l3 s) := by
  induction n with
  | zero => intro l1 l2 l3 s; exact fo_none
  | succ n ih =>
    intro l1 l2 l3 s
    rw [f_X7_readCount_96]
    refine fo_st rfl rfl ?_
    refine fo_get rfl (eg_7 _) rfl ?_
    refine fo_b rfl rfl ?_ ?_
    · exact g_X7_readCount_156 LS xs d hd _ q33 _ _ _ _
    · refine fo_st rfl rfl ?_
      refine fo_callI (As := [.ref 82]) (rest := []) rfl rfl rfl rfl (mi_rcv_of (eg_7 _)) (c_X7_here LS xs d (by omega)  _) (fun qx1 => ?_)
      refine fo_callI (As := [.int qx1.1]) (rest := []) rfl rfl rfl rfl True.intro (c_X7_isFigure LS xs d (by omega) _ _) (fun qx2 => ?_)
      refine fo_b rfl rfl ?_ ?_
      · exact g_X7_readCount_156 LS xs d hd _ q33 _ _ _ _
      · refine fo_st rfl rfl ?_
        refine fo_st rfl rfl ?_
        refine fo_b rfl rfl ?_ ?_
        · exact g_X7_readCount_127 LS xs d hd _ _ q33 ih _ _ _ _
        · refine fo_st rfl rfl ?_
          refine fo_st rfl rfl ?_
          refine fo_st rfl rfl ?_
          refine fo_get rfl (eg_7 _) rfl ?_
          refine fo_callV (As := [.ref 82, .int (2 : Int32), .int (gI qx2.2 82 27)]) (rest := []) rfl rfl rfl rfl (mi_rcv_of (eg_7 _)) (c_X7_wrong LS xs d (by omega) _ _ _) (fun qx3 => ?_)
          exact g_X7_readCount_127 LS xs d hd _ _ q33 ih _ _ _ _
def f_X7_readCount_33   : Nat → Int32 → fS → Option fS
  | 0, _, _ => none
  | n + 1, l1, s => (bif decide ((2 : Int32) ≤ l1) then f_X7_readCount_171 l1 s else (bif decide (¬ (gI s 82 30) = 0) then f_X7_readCount_171 l1 s else ((f_X7_ended s).bind fun qx1 => ((f_X7_blanks qx1).bind fun qx2 => fchk (mi_in l1 (gA qx2 104).length) (fchk (mi_in l1 (gA qx2 105).length) (((f_X7_here (sA (sA qx2 104 ((gA qx2 104).set l1.toNatClampNeg (gI qx2 82 27))) 105 ((gA qx2 105).set l1.toNatClampNeg (gI qx2 82 28)))).bind fun qx3 => ((f_X7_isFigure qx3.1 qx3.2).bind fun qx4 => (bif decide (¬ qx4.1 = 0) then f_X7_readCount_96 (fun l1' s' => f_X7_readCount_33 n l1' s') fuel l1 (0 : Int32) (0 : Int32) qx4.2 else ((f_X7_wrong (1 : Int32) (gI qx4.2 82 27) qx4.2).bind fun qx5 => f_X7_readCount_96 (fun l1' s' => f_X7_readCount_33 n l1' s') fuel l1 (0 : Int32) (0 : Int32) qx5))))))))))
theorem g_X7_readCount_33 (LS : Nat) (xs : Nat → Int32) (d : Nat) (hd : 2 ≤ d)     (n : Nat) : ∀ (l1 : Int32) (d2 : Option Value) (d3 : Option Value) (s : fS), fo cvV t_X7_readCount LS xs (mi_call mi_ms false LS xs d) (33, [some (.ref 82), some (.int l1), d2, d3], [], enc s) (f_X7_readCount_33 n l1 s) := by
  induction n with
  | zero => intro l1 d2 d3 s; exact fo_none
  | succ n ih =>
    intro l1 d2 d3 s
    rw [f_X7_readCount_33]
    refine fo_st rfl rfl ?_
    refine fo_st rfl rfl ?_
    refine fo_b rfl rfl ?_ ?_
    · exact g_X7_readCount_171 LS xs d hd _ _ _ _
    · refine fo_st rfl rfl ?_
      refine fo_get rfl (eg_7 _) rfl ?_
      refine fo_b rfl rfl ?_ ?_
      · exact g_X7_readCount_171 LS xs d hd _ _ _ _
      · refine fo_st rfl rfl ?_
        refine fo_callV (As := [.ref 82]) (rest := []) rfl rfl rfl rfl (mi_rcv_of (eg_7 _)) (c_X7_ended LS xs d (by omega)  _) (fun qx1 => ?_)
        refine fo_st rfl rfl ?_
        refine fo_callV (As := [.ref 82]) (rest := []) rfl rfl rfl rfl (mi_rcv_of (eg_7 _)) (c_X7_blanks LS xs d (by omega)  _) (fun qx2 => ?_)
        refine fo_st rfl rfl ?_
        refine fo_get rfl (eg_7 _) rfl ?_
        refine fo_st rfl rfl ?_
        refine fo_st rfl rfl ?_
        refine fo_get rfl (eg_7 _) rfl ?_
        refine fo_iast rfl (eg_ar _ rfl) (es_ar _ rfl _) ?_
        refine fo_st rfl rfl ?_
        refine fo_get rfl (eg_7 _) rfl ?_
        refine fo_st rfl rfl ?_
        refine fo_st rfl rfl ?_
        refine fo_get rfl (eg_7 _) rfl ?_
        refine fo_iast rfl (eg_ar _ rfl) (es_ar _ rfl _) ?_
        refine fo_st rfl rfl ?_
        refine fo_std rfl rfl rfl rfl rfl ?_
        refine fo_st rfl rfl ?_
        refine fo_std rfl rfl rfl rfl rfl ?_
        refine fo_st rfl rfl ?_
        refine fo_callI (As := [.ref 82]) (rest := []) rfl rfl rfl rfl (mi_rcv_of (eg_7 _)) (c_X7_here LS xs d (by omega)  _) (fun qx3 => ?_)
        refine fo_callI (As := [.int qx3.1]) (rest := []) rfl rfl rfl rfl True.intro (c_X7_isFigure LS xs d (by omega) _ _) (fun qx4 => ?_)
        refine fo_b rfl rfl ?_ ?_
        · exact g_X7_readCount_96 LS xs d hd _ ih fuel _ _ _ _
        · refine fo_st rfl rfl ?_
          refine fo_st rfl rfl ?_
          refine fo_st rfl rfl ?_
          refine fo_get rfl (eg_7 _) rfl ?_
          refine fo_callV (As := [.ref 82, .int (1 : Int32), .int (gI qx4.2 82 27)]) (rest := []) rfl rfl rfl rfl (mi_rcv_of (eg_7 _)) (c_X7_wrong LS xs d (by omega) _ _ _) (fun qx5 => ?_)
          exact g_X7_readCount_96 LS xs d hd _ ih fuel _ _ _ _
def f_X7_readCount_16    (s : fS) : Option fS := f_X7_readCount_33 fuel (0 : Int32) (sI (sI s 82 27 ((gI s 82 27) + (1 : Int32))) 82 35 (1 : Int32))
theorem g_X7_readCount_16 (LS : Nat) (xs : Nat → Int32) (d : Nat) (hd : 2 ≤ d)       (s : fS) : fo cvV t_X7_readCount LS xs (mi_call mi_ms false LS xs d) (16, [some (.ref 82), none, none, none], [], enc s) (f_X7_readCount_16 s) := by
  unfold f_X7_readCount_16
  refine fo_st rfl rfl ?_
  refine fo_st rfl rfl ?_
  refine fo_get rfl (eg_7 _) rfl ?_
  refine fo_st rfl rfl ?_
  refine fo_st rfl rfl ?_
  refine fo_put rfl (eg_7 _) rfl rfl (es_7_27 _ _) ?_
  refine fo_st rfl rfl ?_
  refine fo_st rfl rfl ?_
  refine fo_put rfl (eg_7 _) rfl rfl (es_7_35 _ _) ?_
  refine fo_st rfl rfl ?_
  refine fo_st rfl rfl ?_
  exact g_X7_readCount_33 LS xs d hd fuel _ _ _ _
def f_X7_readCount_0    (s : fS) : Option fS := (bif decide ((gI s 82 35) = 0) then f_X7_readCount_16 s else ((f_X7_wrong (4 : Int32) (gI s 82 27) s).bind fun qx1 => f_X7_readCount_16 qx1))
theorem g_X7_readCount_0 (LS : Nat) (xs : Nat → Int32) (d : Nat) (hd : 2 ≤ d)       (s : fS) : fo cvV t_X7_readCount LS xs (mi_call mi_ms false LS xs d) (0, [some (.ref 82), none, none, none], [], enc s) (f_X7_readCount_0 s) := by
  unfold f_X7_readCount_0
  refine fo_st rfl rfl ?_
  refine fo_get rfl (eg_7 _) rfl ?_
  refine fo_b rfl rfl ?_ ?_
  · exact g_X7_readCount_16 LS xs d hd _
  · refine fo_st rfl rfl ?_
    refine fo_st rfl rfl ?_
    refine fo_st rfl rfl ?_
    refine fo_get rfl (eg_7 _) rfl ?_
    refine fo_callV (As := [.ref 82, .int (4 : Int32), .int (gI s 82 27)]) (rest := []) rfl rfl rfl rfl (mi_rcv_of (eg_7 _)) (c_X7_wrong LS xs d (by omega) _ _ _) (fun qx1 => ?_)
    exact g_X7_readCount_16 LS xs d hd _
def f_X7_readCount  (s : fS) : Option fS := f_X7_readCount_0 s
theorem c_X7_readCount (LS : Nat) (xs : Nat → Int32) (d : Nat) (hd : 3 ≤ d)   (s : fS) : fm mi_ms cvV LS xs d 117 [.ref 82] (enc s) (f_X7_readCount  s) := by
  obtain ⟨e, rfl⟩ : ∃ e, d = e + 1 := ⟨d - 1, by omega⟩
  exact fm_of (M := m_X7_readCount) rfl rfl (fun _ => ⟨_, rfl⟩) (g_X7_readCount_0 LS xs e (by omega) s)
def f_X7_readHead_248   (l1 : Int32) (l2 : Int32) (l3 : Int32) (s : fS) : Option fS := some s
theorem g_X7_readHead_248 (LS : Nat) (xs : Nat → Int32) (d : Nat) (hd : 4 ≤ d)     (l1 : Int32) (l2 : Int32) (l3 : Int32)  (s : fS) : fo cvV t_X7_readHead LS xs (mi_call mi_ms false LS xs d) (248, [some (.ref 82), some (.int l1), some (.int l2), some (.int l3)], [], enc s) (f_X7_readHead_248 l1 l2 l3 s) := by
  unfold f_X7_readHead_248
  exact fo_ret rfl rfl rfl
def f_X7_readHead_178   (l1 : Int32) (l2 : Int32) (l3 : Int32) (s : fS) : Option fS := ((f_X7_ended (sI s 82 27 ((gI s 82 27) + (1 : Int32)))).bind fun qx1 => (bif decide (¬ (gI qx1 82 30) = 0) then f_X7_readHead_248 l1 l2 l3 qx1 else fchk (mi_in (1 : Int32) (gA qx1 90).length) (((f_X7_layName 92 ((27 : Int32) + ((9 : Int32) * ((gA qx1 90).getD (1 : Int32).toNatClampNeg 0))) qx1).bind fun qx2 => fchk (mi_in (1 : Int32) (gA qx2 90).length) (fchk (mi_in ((3 : Int32) + ((gA qx2 90).getD (1 : Int32).toNatClampNeg 0)) (gA qx2 91).length) (fchk (mi_in (1 : Int32) (gA qx2 90).length) (fchk (mi_in (1 : Int32) (gA qx2 90).length) (((f_X7_laySort (3 : Int32) (sA (sA qx2 91 ((gA qx2 91).set ((3 : Int32) + ((gA qx2 90).getD (1 : Int32).toNatClampNeg 0)).toNatClampNeg l3)) 90 ((gA qx2 90).set (1 : Int32).toNatClampNeg (((gA qx2 90).getD (1 : Int32).toNatClampNeg 0) + (1 : Int32))))).bind fun qx3 => f_X7_readHead_248 l1 l2 l3 qx3)))))))))
theorem g_X7_readHead_178 (LS : Nat) (xs : Nat → Int32) (d : Nat) (hd : 4 ≤ d)     (l1 : Int32) (l2 : Int32) (l3 : Int32)  (s : fS) : fo cvV t_X7_readHead LS xs (mi_call mi_ms false LS xs d) (178, [some (.ref 82), some (.int l1), some (.int l2), some (.int l3)], [], enc s) (f_X7_readHead_178 l1 l2 l3 s) := by
  unfold f_X7_readHead_178
  refine fo_st rfl rfl ?_
  refine fo_st rfl rfl ?_
  refine fo_get rfl (eg_7 _) rfl ?_
  refine fo_st rfl rfl ?_
  refine fo_st rfl rfl ?_
  refine fo_put rfl (eg_7 _) rfl rfl (es_7_27 _ _) ?_
  refine fo_st rfl rfl ?_
  refine fo_callV (As := [.ref 82]) (rest := []) rfl rfl rfl rfl (mi_rcv_of (eg_7 _)) (c_X7_ended LS xs d (by omega)  _) (fun qx1 => ?_)
  refine fo_st rfl rfl ?_
  refine fo_get rfl (eg_7 _) rfl ?_
  refine fo_b rfl rfl ?_ ?_
  · exact g_X7_readHead_248 LS xs d hd _ _ _ _
  · refine fo_st rfl rfl ?_
    refine fo_st rfl rfl ?_
    refine fo_get rfl (eg_7 _) rfl ?_
    refine fo_st rfl rfl ?_
    refine fo_st rfl rfl ?_
    refine fo_st rfl rfl ?_
    refine fo_get rfl (eg_7 _) rfl ?_
    refine fo_st rfl rfl ?_
    refine fo_iald rfl (eg_ar _ rfl) ?_
    refine fo_st rfl rfl ?_
    refine fo_st rfl rfl ?_
    refine fo_callV (As := [.ref 82, .ref 92, .int ((27 : Int32) + ((9 : Int32) * ((gA qx1 90).getD (1 : Int32).toNatClampNeg 0)))]) (rest := []) rfl rfl rfl rfl (mi_rcv_of (eg_7 _)) (c_X7_layName LS xs d (by omega) _ _ rfl _) (fun qx2 => ?_)
    refine fo_st rfl rfl ?_
    refine fo_get rfl (eg_7 _) rfl ?_
    refine fo_st rfl rfl ?_
    refine fo_st rfl rfl ?_
    refine fo_get rfl (eg_7 _) rfl ?_
    refine fo_st rfl rfl ?_
    refine fo_iald rfl (eg_ar _ rfl) ?_
    refine fo_st rfl rfl ?_
    refine fo_st rfl rfl ?_
    refine fo_iast rfl (eg_ar _ rfl) (es_ar _ rfl _) ?_
    refine fo_st rfl rfl ?_
    refine fo_get rfl (eg_7 _) rfl ?_
    refine fo_st rfl rfl ?_
    refine fo_st rfl rfl ?_
    refine fo_iald rfl (eg_ar _ rfl) ?_
    refine fo_st rfl rfl ?_
    refine fo_st rfl rfl ?_
    refine fo_iast rfl (eg_ar _ rfl) (es_ar _ rfl _) ?_
    refine fo_st rfl rfl ?_
    refine fo_st rfl rfl ?_
    refine fo_callV (As := [.ref 82, .int (3 : Int32)]) (rest := []) rfl rfl rfl rfl (mi_rcv_of (eg_7 _)) (c_X7_laySort LS xs d (by omega) _ _) (fun qx3 => ?_)
    exact g_X7_readHead_248 LS xs d hd _ _ _ _
def f_X7_readHead_163   (l1 : Int32) (l2 : Int32) (t0 : Int32) (s : fS) : Option fS := (bif decide (¬ t0 = (-1 : Int32)) then f_X7_readHead_178 l1 l2 t0 s else ((f_X7_wrong (1 : Int32) (gI s 82 27) s).bind fun qx1 => f_X7_readHead_178 l1 l2 t0 qx1))
theorem g_X7_readHead_163 (LS : Nat) (xs : Nat → Int32) (d : Nat) (hd : 4 ≤ d)     (l1 : Int32) (l2 : Int32) (t0 : Int32)  (s : fS) : fo cvV t_X7_readHead LS xs (mi_call mi_ms false LS xs d) (163, [some (.ref 82), some (.int l1), some (.int l2), none], [.int t0], enc s) (f_X7_readHead_163 l1 l2 t0 s) := by
  unfold f_X7_readHead_163
  refine fo_st rfl rfl ?_
  refine fo_st rfl rfl ?_
  refine fo_st rfl rfl ?_
  refine fo_b rfl rfl ?_ ?_
  · exact g_X7_readHead_178 LS xs d hd _ _ _ _
  · refine fo_st rfl rfl ?_
    refine fo_st rfl rfl ?_
    refine fo_st rfl rfl ?_
    refine fo_get rfl (eg_7 _) rfl ?_
    refine fo_callV (As := [.ref 82, .int (1 : Int32), .int (gI s 82 27)]) (rest := []) rfl rfl rfl rfl (mi_rcv_of (eg_7 _)) (c_X7_wrong LS xs d (by omega) _ _ _) (fun qx1 => ?_)
    exact g_X7_readHead_178 LS xs d hd _ _ _ _
def f_X7_readHead_109   (l1 : Int32) (l2 : Int32) (s : fS) : Option fS := ((f_X7_ended s).bind fun qx1 => ((f_X7_blanks qx1).bind fun qx2 => ((f_X7_here qx2).bind fun qx3 => (bif decide (¬ qx3.1 = (119 : Int32)) then (bif decide (¬ qx3.1 = (100 : Int32)) then (bif decide (¬ qx3.1 = (116 : Int32)) then (bif decide (¬ qx3.1 = (103 : Int32)) then f_X7_readHead_163 l1 qx3.1 (-1 : Int32) qx3.2 else f_X7_readHead_163 l1 qx3.1 (3 : Int32) qx3.2) else f_X7_readHead_163 l1 qx3.1 (2 : Int32) qx3.2) else f_X7_readHead_163 l1 qx3.1 (1 : Int32) qx3.2) else f_X7_readHead_163 l1 qx3.1 (0 : Int32) qx3.2))))
theorem g_X7_readHead_109 (LS : Nat) (xs : Nat → Int32) (d : Nat) (hd : 4 ≤ d)     (l1 : Int32) (l2 : Int32)  (s : fS) : fo cvV t_X7_readHead LS xs (mi_call mi_ms false LS xs d) (109, [some (.ref 82), some (.int l1), some (.int l2), none], [], enc s) (f_X7_readHead_109 l1 l2 s) := by
  unfold f_X7_readHead_109
  refine fo_st rfl rfl ?_
  refine fo_callV (As := [.ref 82]) (rest := []) rfl rfl rfl rfl (mi_rcv_of (eg_7 _)) (c_X7_ended LS xs d (by omega)  _) (fun qx1 => ?_)
  refine fo_st rfl rfl ?_
  refine fo_callV (As := [.ref 82]) (rest := []) rfl rfl rfl rfl (mi_rcv_of (eg_7 _)) (c_X7_blanks LS xs d (by omega)  _) (fun qx2 => ?_)
  refine fo_st rfl rfl ?_
  refine fo_callI (As := [.ref 82]) (rest := []) rfl rfl rfl rfl (mi_rcv_of (eg_7 _)) (c_X7_here LS xs d (by omega)  _) (fun qx3 => ?_)
  refine fo_st rfl rfl ?_
  refine fo_st rfl rfl ?_
  refine fo_st rfl rfl ?_
  refine fo_b rfl rfl ?_ ?_
  · refine fo_st rfl rfl ?_
    refine fo_st rfl rfl ?_
    refine fo_b rfl rfl ?_ ?_
    · refine fo_st rfl rfl ?_
      refine fo_st rfl rfl ?_
      refine fo_b rfl rfl ?_ ?_
      · refine fo_st rfl rfl ?_
        refine fo_st rfl rfl ?_
        refine fo_b rfl rfl ?_ ?_
        · refine fo_st rfl rfl ?_
          exact g_X7_readHead_163 LS xs d hd _ _ _ _
        · refine fo_st rfl rfl ?_
          refine fo_st rfl rfl ?_
          exact g_X7_readHead_163 LS xs d hd _ _ _ _
      · refine fo_st rfl rfl ?_
        refine fo_st rfl rfl ?_
        exact g_X7_readHead_163 LS xs d hd _ _ _ _
    · refine fo_st rfl rfl ?_
      refine fo_st rfl rfl ?_
      exact g_X7_readHead_163 LS xs d hd _ _ _ _
  · refine fo_st rfl rfl ?_
    refine fo_st rfl rfl ?_
    exact g_X7_readHead_163 LS xs d hd _ _ _ _
def f_X7_readHead_103  (r62 : Int32 → Int32 → fS → Option fS) (l1 : Int32) (l2 : Int32) (s : fS) : Option fS := r62 l1 (l2 + Int32.ofInt (1)) s
theorem g_X7_readHead_103 (LS : Nat) (xs : Nat → Int32) (d : Nat) (hd : 4 ≤ d)   (r62 : Int32 → Int32 → fS → Option fS) (q62 : ∀ (l1 : Int32) (l2 : Int32) (s : fS), fo cvV t_X7_readHead LS xs (mi_call mi_ms false LS xs d) (62, [some (.ref 82), some (.int l1), some (.int l2), none], [], enc s) (r62 l1 l2 s)) (l1 : Int32) (l2 : Int32)  (s : fS) : fo cvV t_X7_readHead LS xs (mi_call mi_ms false LS xs d) (103, [some (.ref 82), some (.int l1), some (.int l2), none], [], enc s) (f_X7_readHead_103 r62 l1 l2 s) := by
  unfold f_X7_readHead_103
  refine fo_st rfl rfl ?_
  refine fo_st rfl rfl ?_
  exact q62 _ _ _
def f_X7_readHead_62   : Nat → Int32 → Int32 → fS → Option fS
  | 0, _, _, _ => none
  | n + 1, l1, l2, s => fchk (mi_in (1 : Int32) (gA s 90).length) ((bif decide (((gA s 90).getD (1 : Int32).toNatClampNeg 0) ≤ l2) then f_X7_readHead_109 l1 l2 s else (bif decide (¬ (gI s 82 30) = 0) then f_X7_readHead_109 l1 l2 s else ((f_X7_isSame 92 ((27 : Int32) + ((9 : Int32) * l2)) s).bind fun qx1 => (bif decide (qx1.1 = 0) then f_X7_readHead_103 (fun l1' l2' s' => f_X7_readHead_62 n l1' l2' s') l1 l2 qx1.2 else ((f_X7_wrong (4 : Int32) l1 qx1.2).bind fun qx2 => f_X7_readHead_103 (fun l1' l2' s' => f_X7_readHead_62 n l1' l2' s') l1 l2 qx2))))))
theorem g_X7_readHead_62 (LS : Nat) (xs : Nat → Int32) (d : Nat) (hd : 4 ≤ d)     (n : Nat) : ∀ (l1 : Int32) (l2 : Int32) (s : fS), fo cvV t_X7_readHead LS xs (mi_call mi_ms false LS xs d) (62, [some (.ref 82), some (.int l1), some (.int l2), none], [], enc s) (f_X7_readHead_62 n l1 l2 s) := by
  induction n with
  | zero => intro l1 l2 s; exact fo_none
  | succ n ih =>
    intro l1 l2 s
    rw [f_X7_readHead_62]
    refine fo_st rfl rfl ?_
    refine fo_st rfl rfl ?_
    refine fo_get rfl (eg_7 _) rfl ?_
    refine fo_st rfl rfl ?_
    refine fo_iald rfl (eg_ar _ rfl) ?_
    refine fo_b rfl rfl ?_ ?_
    · exact g_X7_readHead_109 LS xs d hd _ _ _
    · refine fo_st rfl rfl ?_
      refine fo_get rfl (eg_7 _) rfl ?_
      refine fo_b rfl rfl ?_ ?_
      · exact g_X7_readHead_109 LS xs d hd _ _ _
      · refine fo_st rfl rfl ?_
        refine fo_st rfl rfl ?_
        refine fo_get rfl (eg_7 _) rfl ?_
        refine fo_st rfl rfl ?_
        refine fo_st rfl rfl ?_
        refine fo_st rfl rfl ?_
        refine fo_st rfl rfl ?_
        refine fo_st rfl rfl ?_
        refine fo_callI (As := [.ref 82, .ref 92, .int ((27 : Int32) + ((9 : Int32) * l2))]) (rest := []) rfl rfl rfl rfl (mi_rcv_of (eg_7 _)) (c_X7_isSame LS xs d (by omega) _ _ rfl _) (fun qx1 => ?_)
        refine fo_b rfl rfl ?_ ?_
        · exact g_X7_readHead_103 LS xs d hd _ ih _ _ _
        · refine fo_st rfl rfl ?_
          refine fo_st rfl rfl ?_
          refine fo_st rfl rfl ?_
          refine fo_callV (As := [.ref 82, .int (4 : Int32), .int l1]) (rest := []) rfl rfl rfl rfl (mi_rcv_of (eg_7 _)) (c_X7_wrong LS xs d (by omega) _ _ _) (fun qx2 => ?_)
          exact g_X7_readHead_103 LS xs d hd _ ih _ _ _
def f_X7_readHead_60   (l1 : Int32) (s : fS) : Option fS := f_X7_readHead_62 fuel l1 (0 : Int32) s
theorem g_X7_readHead_60 (LS : Nat) (xs : Nat → Int32) (d : Nat) (hd : 4 ≤ d)     (l1 : Int32)  (s : fS) : fo cvV t_X7_readHead LS xs (mi_call mi_ms false LS xs d) (60, [some (.ref 82), some (.int l1), none, none], [], enc s) (f_X7_readHead_60 l1 s) := by
  unfold f_X7_readHead_60
  refine fo_st rfl rfl ?_
  refine fo_st rfl rfl ?_
  exact g_X7_readHead_62 LS xs d hd fuel _ _ _
def f_X7_readHead_26    (s : fS) : Option fS := ((f_X7_ended (sI s 82 27 ((gI s 82 27) + (1 : Int32)))).bind fun qx1 => ((f_X7_blanks qx1).bind fun qx2 => (bif decide (¬ (gI qx2 82 30) = 0) then f_X7_readHead_60 (gI qx2 82 27) qx2 else ((f_X7_readName qx2).bind fun qx3 => f_X7_readHead_60 (gI qx2 82 27) qx3))))
theorem g_X7_readHead_26 (LS : Nat) (xs : Nat → Int32) (d : Nat) (hd : 4 ≤ d)       (s : fS) : fo cvV t_X7_readHead LS xs (mi_call mi_ms false LS xs d) (26, [some (.ref 82), none, none, none], [], enc s) (f_X7_readHead_26 s) := by
  unfold f_X7_readHead_26
  refine fo_st rfl rfl ?_
  refine fo_st rfl rfl ?_
  refine fo_get rfl (eg_7 _) rfl ?_
  refine fo_st rfl rfl ?_
  refine fo_st rfl rfl ?_
  refine fo_put rfl (eg_7 _) rfl rfl (es_7_27 _ _) ?_
  refine fo_st rfl rfl ?_
  refine fo_callV (As := [.ref 82]) (rest := []) rfl rfl rfl rfl (mi_rcv_of (eg_7 _)) (c_X7_ended LS xs d (by omega)  _) (fun qx1 => ?_)
  refine fo_st rfl rfl ?_
  refine fo_callV (As := [.ref 82]) (rest := []) rfl rfl rfl rfl (mi_rcv_of (eg_7 _)) (c_X7_blanks LS xs d (by omega)  _) (fun qx2 => ?_)
  refine fo_st rfl rfl ?_
  refine fo_get rfl (eg_7 _) rfl ?_
  refine fo_st rfl rfl ?_
  refine fo_st rfl rfl ?_
  refine fo_get rfl (eg_7 _) rfl ?_
  refine fo_b rfl rfl ?_ ?_
  · exact g_X7_readHead_60 LS xs d hd _ _
  · refine fo_st rfl rfl ?_
    refine fo_callV (As := [.ref 82]) (rest := []) rfl rfl rfl rfl (mi_rcv_of (eg_7 _)) (c_X7_readName LS xs d (by omega)  _) (fun qx3 => ?_)
    exact g_X7_readHead_60 LS xs d hd _ _
def f_X7_readHead_17    (s : fS) : Option fS := ((f_X7_wrong (4 : Int32) (gI s 82 27) s).bind fun qx1 => f_X7_readHead_26 qx1)
theorem g_X7_readHead_17 (LS : Nat) (xs : Nat → Int32) (d : Nat) (hd : 4 ≤ d)       (s : fS) : fo cvV t_X7_readHead LS xs (mi_call mi_ms false LS xs d) (17, [some (.ref 82), none, none, none], [], enc s) (f_X7_readHead_17 s) := by
  unfold f_X7_readHead_17
  refine fo_st rfl rfl ?_
  refine fo_st rfl rfl ?_
  refine fo_st rfl rfl ?_
  refine fo_get rfl (eg_7 _) rfl ?_
  refine fo_callV (As := [.ref 82, .int (4 : Int32), .int (gI s 82 27)]) (rest := []) rfl rfl rfl rfl (mi_rcv_of (eg_7 _)) (c_X7_wrong LS xs d (by omega) _ _ _) (fun qx1 => ?_)
  exact g_X7_readHead_26 LS xs d hd _
def f_X7_readHead_0    (s : fS) : Option fS := (bif decide (¬ (gI s 82 38) = 0) then f_X7_readHead_17 s else fchk (mi_in (1 : Int32) (gA s 90).length) ((bif decide (¬ ((gA s 90).getD (1 : Int32).toNatClampNeg 0) = (3 : Int32)) then f_X7_readHead_26 s else f_X7_readHead_17 s)))
theorem g_X7_readHead_0 (LS : Nat) (xs : Nat → Int32) (d : Nat) (hd : 4 ≤ d)       (s : fS) : fo cvV t_X7_readHead LS xs (mi_call mi_ms false LS xs d) (0, [some (.ref 82), none, none, none], [], enc s) (f_X7_readHead_0 s) := by
  unfold f_X7_readHead_0
  refine fo_st rfl rfl ?_
  refine fo_get rfl (eg_7 _) rfl ?_
  refine fo_b rfl rfl ?_ ?_
  · exact g_X7_readHead_17 LS xs d hd _
  · refine fo_st rfl rfl ?_
    refine fo_get rfl (eg_7 _) rfl ?_
    refine fo_st rfl rfl ?_
    refine fo_iald rfl (eg_ar _ rfl) ?_
    refine fo_st rfl rfl ?_
    refine fo_b rfl rfl ?_ ?_
    · exact g_X7_readHead_26 LS xs d hd _
    · exact g_X7_readHead_17 LS xs d hd _
def f_X7_readHead  (s : fS) : Option fS := f_X7_readHead_0 s
theorem c_X7_readHead (LS : Nat) (xs : Nat → Int32) (d : Nat) (hd : 5 ≤ d)   (s : fS) : fm mi_ms cvV LS xs d 118 [.ref 82] (enc s) (f_X7_readHead  s) := by
  obtain ⟨e, rfl⟩ : ∃ e, d = e + 1 := ⟨d - 1, by omega⟩
  exact fm_of (M := m_X7_readHead) rfl rfl (fun _ => ⟨_, rfl⟩) (g_X7_readHead_0 LS xs e (by omega) s)
def f_X7_nodeOf_2   : Nat → Int32 → Int32 → fS → Option (Int32 × fS)
  | 0, _, _, _ => none
  | n + 1, l1, l2, s => fchk (mi_in (1 : Int32) (gA s 84).length) ((bif decide (((gA s 84).getD (1 : Int32).toNatClampNeg 0) ≤ l2) then fchk (mi_in (1 : Int32) (gA s 84).length) ((bif decide (¬ ((gA s 84).getD (1 : Int32).toNatClampNeg 0) = (30 : Int32)) then fchk (mi_in (1 : Int32) (gA s 84).length) (((f_X7_layName 85 ((270 : Int32) + ((9 : Int32) * ((gA s 84).getD (1 : Int32).toNatClampNeg 0))) s).bind fun qx1 => fchk (mi_in (1 : Int32) (gA qx1 84).length) (fchk (mi_in (1 : Int32) (gA qx1 84).length) (fchk (mi_in (1 : Int32) ((gA qx1 84).set (1 : Int32).toNatClampNeg (((gA qx1 84).getD (1 : Int32).toNatClampNeg 0) + (1 : Int32))).length) (some (((((gA qx1 84).set (1 : Int32).toNatClampNeg (((gA qx1 84).getD (1 : Int32).toNatClampNeg 0) + (1 : Int32))).getD (1 : Int32).toNatClampNeg 0) - (1 : Int32)), (sA qx1 84 ((gA qx1 84).set (1 : Int32).toNatClampNeg (((gA qx1 84).getD (1 : Int32).toNatClampNeg 0) + (1 : Int32)))))))))) else ((f_X7_wrong (6 : Int32) l1 s).bind fun qx2 => some ((-1 : Int32), qx2)))) else ((f_X7_isSame 85 ((270 : Int32) + ((9 : Int32) * l2)) s).bind fun qx3 => (bif decide (qx3.1 = 0) then f_X7_nodeOf_2 n l1 (l2 + Int32.ofInt (1)) qx3.2 else some (l2, qx3.2)))))
theorem g_X7_nodeOf_2 (LS : Nat) (xs : Nat → Int32) (d : Nat) (hd : 1 ≤ d)     (n : Nat) : ∀ (l1 : Int32) (l2 : Int32) (s : fS), fo cvI t_X7_nodeOf LS xs (mi_call mi_ms false LS xs d) (2, [some (.ref 82), some (.int l1), some (.int l2)], [], enc s) (f_X7_nodeOf_2 n l1 l2 s) := by
  induction n with
  | zero => intro l1 l2 s; exact fo_none
  | succ n ih =>
    intro l1 l2 s
    rw [f_X7_nodeOf_2]
    refine fo_st rfl rfl ?_
    refine fo_st rfl rfl ?_
    refine fo_get rfl (eg_7 _) rfl ?_
    refine fo_st rfl rfl ?_
    refine fo_iald rfl (eg_ar _ rfl) ?_
    refine fo_b rfl rfl ?_ ?_
    · refine fo_st rfl rfl ?_
      refine fo_get rfl (eg_7 _) rfl ?_
      refine fo_st rfl rfl ?_
      refine fo_iald rfl (eg_ar _ rfl) ?_
      refine fo_st rfl rfl ?_
      refine fo_b rfl rfl ?_ ?_
      · refine fo_st rfl rfl ?_
        refine fo_st rfl rfl ?_
        refine fo_get rfl (eg_7 _) rfl ?_
        refine fo_st rfl rfl ?_
        refine fo_st rfl rfl ?_
        refine fo_st rfl rfl ?_
        refine fo_get rfl (eg_7 _) rfl ?_
        refine fo_st rfl rfl ?_
        refine fo_iald rfl (eg_ar _ rfl) ?_
        refine fo_st rfl rfl ?_
        refine fo_st rfl rfl ?_
        refine fo_callV (As := [.ref 82, .ref 85, .int ((270 : Int32) + ((9 : Int32) * ((gA s 84).getD (1 : Int32).toNatClampNeg 0)))]) (rest := []) rfl rfl rfl rfl (mi_rcv_of (eg_7 _)) (c_X7_layName LS xs d (by omega) _ _ rfl _) (fun qx1 => ?_)
        refine fo_st rfl rfl ?_
        refine fo_get rfl (eg_7 _) rfl ?_
        refine fo_st rfl rfl ?_
        refine fo_st rfl rfl ?_
        refine fo_iald rfl (eg_ar _ rfl) ?_
        refine fo_st rfl rfl ?_
        refine fo_st rfl rfl ?_
        refine fo_iast rfl (eg_ar _ rfl) (es_ar _ rfl _) ?_
        refine fo_st rfl rfl ?_
        refine fo_get rfl (eg_7 _) rfl ?_
        refine fo_st rfl rfl ?_
        refine fo_iald rfl (eg_ar _ rfl) ?_
        refine fo_st rfl rfl ?_
        refine fo_st rfl rfl ?_
        exact fo_ret rfl rfl rfl
      · refine fo_st rfl rfl ?_
        refine fo_st rfl rfl ?_
        refine fo_st rfl rfl ?_
        refine fo_callV (As := [.ref 82, .int (6 : Int32), .int l1]) (rest := []) rfl rfl rfl rfl (mi_rcv_of (eg_7 _)) (c_X7_wrong LS xs d (by omega) _ _ _) (fun qx2 => ?_)
        refine fo_st rfl rfl ?_
        exact fo_ret rfl rfl rfl
    · refine fo_st rfl rfl ?_
      refine fo_st rfl rfl ?_
      refine fo_get rfl (eg_7 _) rfl ?_
      refine fo_st rfl rfl ?_
      refine fo_st rfl rfl ?_
      refine fo_st rfl rfl ?_
      refine fo_st rfl rfl ?_
      refine fo_st rfl rfl ?_
      refine fo_callI (As := [.ref 82, .ref 85, .int ((270 : Int32) + ((9 : Int32) * l2))]) (rest := []) rfl rfl rfl rfl (mi_rcv_of (eg_7 _)) (c_X7_isSame LS xs d (by omega) _ _ rfl _) (fun qx3 => ?_)
      refine fo_b rfl rfl ?_ ?_
      · refine fo_st rfl rfl ?_
        refine fo_st rfl rfl ?_
        exact ih _ _ _
      · refine fo_st rfl rfl ?_
        exact fo_ret rfl rfl rfl
def f_X7_nodeOf_0   (l1 : Int32) (s : fS) : Option (Int32 × fS) := f_X7_nodeOf_2 fuel l1 (0 : Int32) s
theorem g_X7_nodeOf_0 (LS : Nat) (xs : Nat → Int32) (d : Nat) (hd : 1 ≤ d)     (l1 : Int32)  (s : fS) : fo cvI t_X7_nodeOf LS xs (mi_call mi_ms false LS xs d) (0, [some (.ref 82), some (.int l1), none], [], enc s) (f_X7_nodeOf_0 l1 s) := by
  unfold f_X7_nodeOf_0
  refine fo_st rfl rfl ?_
  refine fo_st rfl rfl ?_
  exact g_X7_nodeOf_2 LS xs d hd fuel _ _ _
def f_X7_nodeOf (l1 : Int32) (s : fS) : Option (Int32 × fS) := f_X7_nodeOf_0 l1 s
theorem c_X7_nodeOf (LS : Nat) (xs : Nat → Int32) (d : Nat) (hd : 2 ≤ d) (l1 : Int32)  (s : fS) : fm mi_ms cvI LS xs d 119 [.ref 82, .int l1] (enc s) (f_X7_nodeOf l1 s) := by
  obtain ⟨e, rfl⟩ : ∃ e, d = e + 1 := ⟨d - 1, by omega⟩
  exact fm_of (M := m_X7_nodeOf) rfl rfl (fun _ => ⟨_, rfl⟩) (g_X7_nodeOf_0 LS xs e (by omega) l1 s)
def f_X7_isDoubled_38  (r3 : Int32 → Int32 → Int32 → fS → Option (Int32 × fS)) (l1 : Int32) (l2 : Int32) (l3 : Int32) (s : fS) : Option (Int32 × fS) := r3 l1 l2 (l3 + Int32.ofInt (1)) s
theorem g_X7_isDoubled_38 (LS : Nat) (xs : Nat → Int32) (d : Nat) (hd : 0 ≤ d)   (r3 : Int32 → Int32 → Int32 → fS → Option (Int32 × fS)) (q3 : ∀ (l1 : Int32) (l2 : Int32) (l3 : Int32) (s : fS), fo cvI t_X7_isDoubled LS xs (mi_call mi_ms false LS xs d) (3, [some (.ref 82), some (.int l1), some (.int l2), some (.int l3)], [], enc s) (r3 l1 l2 l3 s)) (l1 : Int32) (l2 : Int32) (l3 : Int32)  (s : fS) : fo cvI t_X7_isDoubled LS xs (mi_call mi_ms false LS xs d) (38, [some (.ref 82), some (.int l1), some (.int l2), some (.int l3)], [], enc s) (f_X7_isDoubled_38 r3 l1 l2 l3 s) := by
  unfold f_X7_isDoubled_38
  refine fo_st rfl rfl ?_
  refine fo_st rfl rfl ?_
  exact q3 _ _ _ _
def f_X7_isDoubled_3   : Nat → Int32 → Int32 → Int32 → fS → Option (Int32 × fS)
  | 0, _, _, _, _ => none
  | n + 1, l1, l2, l3, s => fchk (mi_in (1 : Int32) (gA s 86).length) ((bif decide (((40 : Int32) + ((gA s 86).getD (1 : Int32).toNatClampNeg 0)) ≤ l3) then some ((0 : Int32), s) else fchk (mi_in l3 (gA s 87).length) ((bif decide (¬ ((gA s 87).getD l3.toNatClampNeg 0) = l1) then f_X7_isDoubled_38 (fun l1' l2' l3' s' => f_X7_isDoubled_3 n l1' l2' l3' s') l1 l2 l3 s else fchk (mi_in l3 (gA s 88).length) ((bif decide (¬ ((gA s 88).getD l3.toNatClampNeg 0) = l2) then f_X7_isDoubled_38 (fun l1' l2' l3' s' => f_X7_isDoubled_3 n l1' l2' l3' s') l1 l2 l3 s else some ((1 : Int32), s)))))))
theorem g_X7_isDoubled_3 (LS : Nat) (xs : Nat → Int32) (d : Nat) (hd : 0 ≤ d)     (n : Nat) : ∀ (l1 : Int32) (l2 : Int32) (l3 : Int32) (s : fS), fo cvI t_X7_isDoubled LS xs (mi_call mi_ms false LS xs d) (3, [some (.ref 82), some (.int l1), some (.int l2), some (.int l3)], [], enc s) (f_X7_isDoubled_3 n l1 l2 l3 s) := by
  induction n with
  | zero => intro l1 l2 l3 s; exact fo_none
  | succ n ih =>
    intro l1 l2 l3 s
    rw [f_X7_isDoubled_3]
    refine fo_st rfl rfl ?_
    refine fo_st rfl rfl ?_
    refine fo_st rfl rfl ?_
    refine fo_get rfl (eg_7 _) rfl ?_
    refine fo_st rfl rfl ?_
    refine fo_iald rfl (eg_ar _ rfl) ?_
    refine fo_st rfl rfl ?_
    refine fo_b rfl rfl ?_ ?_
    · refine fo_st rfl rfl ?_
      exact fo_ret rfl rfl rfl
    · refine fo_st rfl rfl ?_
      refine fo_get rfl (eg_7 _) rfl ?_
      refine fo_st rfl rfl ?_
      refine fo_iald rfl (eg_ar _ rfl) ?_
      refine fo_st rfl rfl ?_
      refine fo_b rfl rfl ?_ ?_
      · exact g_X7_isDoubled_38 LS xs d hd _ ih _ _ _ _
      · refine fo_st rfl rfl ?_
        refine fo_get rfl (eg_7 _) rfl ?_
        refine fo_st rfl rfl ?_
        refine fo_iald rfl (eg_ar _ rfl) ?_
        refine fo_st rfl rfl ?_
        refine fo_b rfl rfl ?_ ?_
        · exact g_X7_isDoubled_38 LS xs d hd _ ih _ _ _ _
        · refine fo_st rfl rfl ?_
          exact fo_ret rfl rfl rfl
def f_X7_isDoubled_0   (l1 : Int32) (l2 : Int32) (s : fS) : Option (Int32 × fS) := f_X7_isDoubled_3 fuel l1 l2 (40 : Int32) s
theorem g_X7_isDoubled_0 (LS : Nat) (xs : Nat → Int32) (d : Nat) (hd : 0 ≤ d)     (l1 : Int32) (l2 : Int32)  (s : fS) : fo cvI t_X7_isDoubled LS xs (mi_call mi_ms false LS xs d) (0, [some (.ref 82), some (.int l1), some (.int l2), none], [], enc s) (f_X7_isDoubled_0 l1 l2 s) := by
  unfold f_X7_isDoubled_0
  refine fo_st rfl rfl ?_
  refine fo_st rfl rfl ?_
  exact g_X7_isDoubled_3 LS xs d hd fuel _ _ _ _
def f_X7_isDoubled (l1 : Int32) (l2 : Int32) (s : fS) : Option (Int32 × fS) := f_X7_isDoubled_0 l1 l2 s
theorem c_X7_isDoubled (LS : Nat) (xs : Nat → Int32) (d : Nat) (hd : 1 ≤ d) (l1 : Int32) (l2 : Int32)  (s : fS) : fm mi_ms cvI LS xs d 120 [.ref 82, .int l1, .int l2] (enc s) (f_X7_isDoubled l1 l2 s) := by
  obtain ⟨e, rfl⟩ : ∃ e, d = e + 1 := ⟨d - 1, by omega⟩
  exact fm_of (M := m_X7_isDoubled) rfl rfl (fun _ => ⟨_, rfl⟩) (g_X7_isDoubled_0 LS xs e (by omega) l1 l2 s)
theorem p_X7_isDoubled_38  (r3 : Int32 → Int32 → Int32 → fS → Option (Int32 × fS)) (q3 : ∀ (l1 : Int32) (l2 : Int32) (l3 : Int32) (s : fS), pu s (r3 l1 l2 l3 s)) (l1 : Int32) (l2 : Int32) (l3 : Int32) (s : fS) : pu s (f_X7_isDoubled_38 r3 l1 l2 l3 s) := by
  unfold f_X7_isDoubled_38
  exact q3 _ _ _ _
theorem p_X7_isDoubled_3    (n : Nat) : ∀ (l1 : Int32) (l2 : Int32) (l3 : Int32) (s : fS), pu s (f_X7_isDoubled_3 n l1 l2 l3 s) := by
  induction n with
  | zero => intro l1 l2 l3 s; exact pu_none
  | succ n ih =>
    intro l1 l2 l3 s
    rw [f_X7_isDoubled_3]
    refine pu_ck ?_
    refine pu_b ?_ ?_
    · exact pu_some rfl
    · refine pu_ck ?_
      refine pu_b ?_ ?_
      · exact p_X7_isDoubled_38 _ ih _ _ _ _
      · refine pu_ck ?_
        refine pu_b ?_ ?_
        · exact p_X7_isDoubled_38 _ ih _ _ _ _
        · exact pu_some rfl
theorem p_X7_isDoubled_0    (l1 : Int32) (l2 : Int32) (s : fS) : pu s (f_X7_isDoubled_0 l1 l2 s) := by
  unfold f_X7_isDoubled_0
  exact p_X7_isDoubled_3 fuel _ _ _ _
theorem p_X7_isDoubled (l1 : Int32) (l2 : Int32) (s : fS) : pu s (f_X7_isDoubled l1 l2 s) := p_X7_isDoubled_0 l1 l2 s
def f_X7_layArc_87  (r37 : Int32 → Int32 → Int32 → Int32 → fS → Option fS) : Nat → Int32 → Int32 → Int32 → Int32 → Int32 → fS → Option fS
  | 0, _, _, _, _, _, _ => none
  | n + 1, l1, l2, l3, l4, l5, s => fchk (mi_in ((9 : Int32) * l4) (gA s 108).length) ((bif decide (((gA s 108).getD ((9 : Int32) * l4).toNatClampNeg 0) < l5) then r37 l1 l2 l3 (l4 + Int32.ofInt (1)) s else fchk (mi_in (((9 : Int32) * l4) + l5) (gA s 108).length) (fchk (mi_in (((9 : Int32) * (((3 : Int32) * l3) + l4)) + l5) (gA s 95).length) (f_X7_layArc_87 r37 n l1 l2 l3 l4 (l5 + Int32.ofInt (1)) (sA s 95 ((gA s 95).set (((9 : Int32) * (((3 : Int32) * l3) + l4)) + l5).toNatClampNeg ((gA s 108).getD (((9 : Int32) * l4) + l5).toNatClampNeg 0)))))))
theorem g_X7_layArc_87 (LS : Nat) (xs : Nat → Int32) (d : Nat) (hd : 1 ≤ d)   (r37 : Int32 → Int32 → Int32 → Int32 → fS → Option fS) (q37 : ∀ (l1 : Int32) (l2 : Int32) (l3 : Int32) (l4 : Int32) (d5 : Option Value) (s : fS), fo cvV t_X7_layArc LS xs (mi_call mi_ms false LS xs d) (37, [some (.ref 82), some (.int l1), some (.int l2), some (.int l3), some (.int l4), d5], [], enc s) (r37 l1 l2 l3 l4 s)) (n : Nat) : ∀ (l1 : Int32) (l2 : Int32) (l3 : Int32) (l4 : Int32) (l5 : Int32) (s : fS), fo cvV t_X7_layArc LS xs (mi_call mi_ms false LS xs d) (87, [some (.ref 82), some (.int l1), some (.int l2), some (.int l3), some (.int l4), some (.int l5)], [], enc s) (f_X7_layArc_87 r37 n l1 l2 l3 l4 l5 s) := by
  induction n with
  | zero => intro l1 l2 l3 l4 l5 s; exact fo_none
  | succ n ih =>
    intro l1 l2 l3 l4 l5 s
    rw [f_X7_layArc_87]
    refine fo_st rfl rfl ?_
    refine fo_st rfl rfl ?_
    refine fo_get rfl (eg_7 _) rfl ?_
    refine fo_st rfl rfl ?_
    refine fo_st rfl rfl ?_
    refine fo_st rfl rfl ?_
    refine fo_iald rfl (eg_ar _ rfl) ?_
    refine fo_b rfl rfl ?_ ?_
    · refine fo_st rfl rfl ?_
      refine fo_st rfl rfl ?_
      exact q37 _ _ _ _ _ _
    · refine fo_st rfl rfl ?_
      refine fo_get rfl (eg_7 _) rfl ?_
      refine fo_st rfl rfl ?_
      refine fo_st rfl rfl ?_
      refine fo_st rfl rfl ?_
      refine fo_st rfl rfl ?_
      refine fo_st rfl rfl ?_
      refine fo_st rfl rfl ?_
      refine fo_st rfl rfl ?_
      refine fo_st rfl rfl ?_
      refine fo_st rfl rfl ?_
      refine fo_st rfl rfl ?_
      refine fo_get rfl (eg_7 _) rfl ?_
      refine fo_st rfl rfl ?_
      refine fo_st rfl rfl ?_
      refine fo_st rfl rfl ?_
      refine fo_st rfl rfl ?_
      refine fo_st rfl rfl ?_
      refine fo_iald rfl (eg_ar _ rfl) ?_
      refine fo_iast rfl (eg_ar _ rfl) (es_ar _ rfl _) ?_
      refine fo_st rfl rfl ?_
      refine fo_st rfl rfl ?_
      exact ih _ _ _ _ _ _
def f_X7_layArc_37   : Nat → Int32 → Int32 → Int32 → Int32 → fS → Option fS
  | 0, _, _, _, _, _ => none
  | n + 1, l1, l2, l3, l4, s => fchk (mi_in (1 : Int32) (gA s 90).length) ((bif decide (((gA s 90).getD (1 : Int32).toNatClampNeg 0) ≤ l4) then fchk (mi_in (1 : Int32) (gA s 86).length) (fchk (mi_in (1 : Int32) (gA s 86).length) (((f_X7_laySort (4 : Int32) (sA s 86 ((gA s 86).set (1 : Int32).toNatClampNeg (((gA s 86).getD (1 : Int32).toNatClampNeg 0) + (1 : Int32))))).bind fun qx1 => some qx1))) else fchk (mi_in l4 (gA s 106).length) (fchk (mi_in (((3 : Int32) * l3) + l4) (gA s 93).length) (fchk (mi_in l4 (gA s 107).length) (fchk (mi_in (((3 : Int32) * l3) + l4) (gA s 94).length) (f_X7_layArc_87 (fun l1' l2' l3' l4' s' => f_X7_layArc_37 n l1' l2' l3' l4' s') fuel l1 l2 l3 l4 (0 : Int32) (sA (sA s 93 ((gA s 93).set (((3 : Int32) * l3) + l4).toNatClampNeg ((gA s 106).getD l4.toNatClampNeg 0))) 94 ((gA s 94).set (((3 : Int32) * l3) + l4).toNatClampNeg ((gA s 107).getD l4.toNatClampNeg 0)))))))))
theorem g_X7_layArc_37 (LS : Nat) (xs : Nat → Int32) (d : Nat) (hd : 1 ≤ d)     (n : Nat) : ∀ (l1 : Int32) (l2 : Int32) (l3 : Int32) (l4 : Int32) (d5 : Option Value) (s : fS), fo cvV t_X7_layArc LS xs (mi_call mi_ms false LS xs d) (37, [some (.ref 82), some (.int l1), some (.int l2), some (.int l3), some (.int l4), d5], [], enc s) (f_X7_layArc_37 n l1 l2 l3 l4 s) := by
  induction n with
  | zero => intro l1 l2 l3 l4 d5 s; exact fo_none
  | succ n ih =>
    intro l1 l2 l3 l4 d5 s
    rw [f_X7_layArc_37]
    refine fo_st rfl rfl ?_
    refine fo_st rfl rfl ?_
    refine fo_get rfl (eg_7 _) rfl ?_
    refine fo_st rfl rfl ?_
    refine fo_iald rfl (eg_ar _ rfl) ?_
    refine fo_b rfl rfl ?_ ?_
    · refine fo_st rfl rfl ?_
      refine fo_get rfl (eg_7 _) rfl ?_
      refine fo_st rfl rfl ?_
      refine fo_st rfl rfl ?_
      refine fo_iald rfl (eg_ar _ rfl) ?_
      refine fo_st rfl rfl ?_
      refine fo_st rfl rfl ?_
      refine fo_iast rfl (eg_ar _ rfl) (es_ar _ rfl _) ?_
      refine fo_st rfl rfl ?_
      refine fo_st rfl rfl ?_
      refine fo_callV (As := [.ref 82, .int (4 : Int32)]) (rest := []) rfl rfl rfl rfl (mi_rcv_of (eg_7 _)) (c_X7_laySort LS xs d (by omega) _ _) (fun qx1 => ?_)
      exact fo_ret rfl rfl rfl
    · refine fo_st rfl rfl ?_
      refine fo_get rfl (eg_7 _) rfl ?_
      refine fo_st rfl rfl ?_
      refine fo_st rfl rfl ?_
      refine fo_st rfl rfl ?_
      refine fo_st rfl rfl ?_
      refine fo_st rfl rfl ?_
      refine fo_st rfl rfl ?_
      refine fo_get rfl (eg_7 _) rfl ?_
      refine fo_st rfl rfl ?_
      refine fo_iald rfl (eg_ar _ rfl) ?_
      refine fo_iast rfl (eg_ar _ rfl) (es_ar _ rfl _) ?_
      refine fo_st rfl rfl ?_
      refine fo_get rfl (eg_7 _) rfl ?_
      refine fo_st rfl rfl ?_
      refine fo_st rfl rfl ?_
      refine fo_st rfl rfl ?_
      refine fo_st rfl rfl ?_
      refine fo_st rfl rfl ?_
      refine fo_st rfl rfl ?_
      refine fo_get rfl (eg_7 _) rfl ?_
      refine fo_st rfl rfl ?_
      refine fo_iald rfl (eg_ar _ rfl) ?_
      refine fo_iast rfl (eg_ar _ rfl) (es_ar _ rfl _) ?_
      refine fo_st rfl rfl ?_
      refine fo_std rfl rfl rfl rfl rfl ?_
      exact g_X7_layArc_87 LS xs d hd _ ih fuel _ _ _ _ _ _
def f_X7_layArc_0   (l1 : Int32) (l2 : Int32) (s : fS) : Option fS := fchk (mi_in (1 : Int32) (gA s 86).length) (fchk (mi_in ((40 : Int32) + ((gA s 86).getD (1 : Int32).toNatClampNeg 0)) (gA s 87).length) (fchk (mi_in ((40 : Int32) + ((gA s 86).getD (1 : Int32).toNatClampNeg 0)) (gA s 88).length) (fchk (mi_in ((40 : Int32) + ((gA s 86).getD (1 : Int32).toNatClampNeg 0)) (gA s 89).length) (f_X7_layArc_37 fuel l1 l2 ((40 : Int32) + ((gA s 86).getD (1 : Int32).toNatClampNeg 0)) (0 : Int32) (sA (sA (sA s 87 ((gA s 87).set ((40 : Int32) + ((gA s 86).getD (1 : Int32).toNatClampNeg 0)).toNatClampNeg l1)) 88 ((gA s 88).set ((40 : Int32) + ((gA s 86).getD (1 : Int32).toNatClampNeg 0)).toNatClampNeg l2)) 89 ((gA s 89).set ((40 : Int32) + ((gA s 86).getD (1 : Int32).toNatClampNeg 0)).toNatClampNeg (gI s 82 28)))))))
theorem g_X7_layArc_0 (LS : Nat) (xs : Nat → Int32) (d : Nat) (hd : 1 ≤ d)     (l1 : Int32) (l2 : Int32)  (s : fS) : fo cvV t_X7_layArc LS xs (mi_call mi_ms false LS xs d) (0, [some (.ref 82), some (.int l1), some (.int l2), none, none, none], [], enc s) (f_X7_layArc_0 l1 l2 s) := by
  unfold f_X7_layArc_0
  refine fo_st rfl rfl ?_
  refine fo_st rfl rfl ?_
  refine fo_get rfl (eg_7 _) rfl ?_
  refine fo_st rfl rfl ?_
  refine fo_iald rfl (eg_ar _ rfl) ?_
  refine fo_st rfl rfl ?_
  refine fo_st rfl rfl ?_
  refine fo_st rfl rfl ?_
  refine fo_get rfl (eg_7 _) rfl ?_
  refine fo_st rfl rfl ?_
  refine fo_st rfl rfl ?_
  refine fo_iast rfl (eg_ar _ rfl) (es_ar _ rfl _) ?_
  refine fo_st rfl rfl ?_
  refine fo_get rfl (eg_7 _) rfl ?_
  refine fo_st rfl rfl ?_
  refine fo_st rfl rfl ?_
  refine fo_iast rfl (eg_ar _ rfl) (es_ar _ rfl _) ?_
  refine fo_st rfl rfl ?_
  refine fo_get rfl (eg_7 _) rfl ?_
  refine fo_st rfl rfl ?_
  refine fo_st rfl rfl ?_
  refine fo_get rfl (eg_7 _) rfl ?_
  refine fo_iast rfl (eg_ar _ rfl) (es_ar _ rfl _) ?_
  refine fo_st rfl rfl ?_
  refine fo_st rfl rfl ?_
  exact g_X7_layArc_37 LS xs d hd fuel _ _ _ _ _ _
def f_X7_layArc (l1 : Int32) (l2 : Int32) (s : fS) : Option fS := f_X7_layArc_0 l1 l2 s
theorem c_X7_layArc (LS : Nat) (xs : Nat → Int32) (d : Nat) (hd : 2 ≤ d) (l1 : Int32) (l2 : Int32)  (s : fS) : fm mi_ms cvV LS xs d 122 [.ref 82, .int l1, .int l2] (enc s) (f_X7_layArc l1 l2 s) := by
  obtain ⟨e, rfl⟩ : ∃ e, d = e + 1 := ⟨d - 1, by omega⟩
  exact fm_of (M := m_X7_layArc) rfl rfl (fun _ => ⟨_, rfl⟩) (g_X7_layArc_0 LS xs e (by omega) l1 l2 s)
end FM8
