section FM9
def f_X7_readArc_299   (l1 : Int32) (l2 : Int32) (l3 : Int32) (l4 : Int32) (l5 : Int32) (l6 : Int32) (s : fS) : Option fS := some s
theorem g_X7_readArc_299 (LS : Nat) (xs : Nat → Int32) (d : Nat) (hd : 7 ≤ d)     (l1 : Int32) (l2 : Int32) (l3 : Int32) (l4 : Int32) (l5 : Int32) (l6 : Int32)  (s : fS) : fo cvV t_X7_readArc LS xs (mi_call mi_ms false LS xs d) (299, [some (.ref 82), some (.int l1), some (.int l2), some (.int l3), some (.int l4), some (.int l5), some (.int l6)], [], enc s) (f_X7_readArc_299 l1 l2 l3 l4 l5 l6 s) := by
  unfold f_X7_readArc_299
  exact fo_ret rfl rfl rfl
def f_X7_readArc_285   (l1 : Int32) (l2 : Int32) (l3 : Int32) (l4 : Int32) (l5 : Int32) (l6 : Int32) (s : fS) : Option fS := (bif decide (¬ (gI s 82 30) = 0) then f_X7_readArc_299 l1 l2 l3 l4 l5 l6 s else ((f_X7_layArc l2 l4 s).bind fun qx1 => f_X7_readArc_299 l1 l2 l3 l4 l5 l6 qx1))
theorem g_X7_readArc_285 (LS : Nat) (xs : Nat → Int32) (d : Nat) (hd : 7 ≤ d)     (l1 : Int32) (l2 : Int32) (l3 : Int32) (l4 : Int32) (l5 : Int32) (l6 : Int32)  (s : fS) : fo cvV t_X7_readArc LS xs (mi_call mi_ms false LS xs d) (285, [some (.ref 82), some (.int l1), some (.int l2), some (.int l3), some (.int l4), some (.int l5), some (.int l6)], [], enc s) (f_X7_readArc_285 l1 l2 l3 l4 l5 l6 s) := by
  unfold f_X7_readArc_285
  refine fo_st rfl rfl ?_
  refine fo_get rfl (eg_7 _) rfl ?_
  refine fo_b rfl rfl ?_ ?_
  · exact g_X7_readArc_299 LS xs d hd _ _ _ _ _ _ _
  · refine fo_st rfl rfl ?_
    refine fo_st rfl rfl ?_
    refine fo_st rfl rfl ?_
    refine fo_callV (As := [.ref 82, .int l2, .int l4]) (rest := []) rfl rfl rfl rfl (mi_rcv_of (eg_7 _)) (c_X7_layArc LS xs d (by omega) _ _ _) (fun qx1 => ?_)
    exact g_X7_readArc_299 LS xs d hd _ _ _ _ _ _ _
def f_X7_readArc_257   (l1 : Int32) (l2 : Int32) (l3 : Int32) (l4 : Int32) (l5 : Int32) (l6 : Int32) (s : fS) : Option fS := (bif decide (¬ (gI s 82 30) = 0) then f_X7_readArc_285 l1 l2 l3 l4 l5 l6 s else fchk (mi_in (1 : Int32) (gA s 86).length) ((bif decide (¬ ((gA s 86).getD (1 : Int32).toNatClampNeg 0) = (40 : Int32)) then f_X7_readArc_285 l1 l2 l3 l4 l5 l6 s else ((f_X7_wrong (6 : Int32) l1 s).bind fun qx1 => f_X7_readArc_299 l1 l2 l3 l4 l5 l6 qx1))))
theorem g_X7_readArc_257 (LS : Nat) (xs : Nat → Int32) (d : Nat) (hd : 7 ≤ d)     (l1 : Int32) (l2 : Int32) (l3 : Int32) (l4 : Int32) (l5 : Int32) (l6 : Int32)  (s : fS) : fo cvV t_X7_readArc LS xs (mi_call mi_ms false LS xs d) (257, [some (.ref 82), some (.int l1), some (.int l2), some (.int l3), some (.int l4), some (.int l5), some (.int l6)], [], enc s) (f_X7_readArc_257 l1 l2 l3 l4 l5 l6 s) := by
  unfold f_X7_readArc_257
  refine fo_st rfl rfl ?_
  refine fo_get rfl (eg_7 _) rfl ?_
  refine fo_b rfl rfl ?_ ?_
  · exact g_X7_readArc_285 LS xs d hd _ _ _ _ _ _ _
  · refine fo_st rfl rfl ?_
    refine fo_get rfl (eg_7 _) rfl ?_
    refine fo_st rfl rfl ?_
    refine fo_iald rfl (eg_ar _ rfl) ?_
    refine fo_st rfl rfl ?_
    refine fo_b rfl rfl ?_ ?_
    · exact g_X7_readArc_285 LS xs d hd _ _ _ _ _ _ _
    · refine fo_st rfl rfl ?_
      refine fo_st rfl rfl ?_
      refine fo_st rfl rfl ?_
      refine fo_callV (As := [.ref 82, .int (6 : Int32), .int l1]) (rest := []) rfl rfl rfl rfl (mi_rcv_of (eg_7 _)) (c_X7_wrong LS xs d (by omega) _ _ _) (fun qx1 => ?_)
      refine fo_st rfl rfl ?_
      exact g_X7_readArc_299 LS xs d hd _ _ _ _ _ _ _
def f_X7_readArc_224   (l1 : Int32) (l2 : Int32) (l3 : Int32) (l4 : Int32) (l5 : Int32) (l6 : Int32) (s : fS) : Option fS := (bif decide (¬ (gI s 82 30) = 0) then f_X7_readArc_257 l1 l2 l3 l4 l5 l6 s else (bif decide (l5 = 0) then f_X7_readArc_257 l1 l2 l3 l4 l5 l6 s else (bif decide (¬ (gI s 82 3) = (1 : Int32)) then f_X7_readArc_257 l1 l2 l3 l4 l5 l6 s else fchk (mi_in (1 : Int32) (gA s 96).length) (fchk (mi_in (1 : Int32) (gA s 96).length) (f_X7_readArc_299 l1 l2 l3 l4 l5 l6 (sA s 96 ((gA s 96).set (1 : Int32).toNatClampNeg (((gA s 96).getD (1 : Int32).toNatClampNeg 0) + (1 : Int32)))))))))
theorem g_X7_readArc_224 (LS : Nat) (xs : Nat → Int32) (d : Nat) (hd : 7 ≤ d)     (l1 : Int32) (l2 : Int32) (l3 : Int32) (l4 : Int32) (l5 : Int32) (l6 : Int32)  (s : fS) : fo cvV t_X7_readArc LS xs (mi_call mi_ms false LS xs d) (224, [some (.ref 82), some (.int l1), some (.int l2), some (.int l3), some (.int l4), some (.int l5), some (.int l6)], [], enc s) (f_X7_readArc_224 l1 l2 l3 l4 l5 l6 s) := by
  unfold f_X7_readArc_224
  refine fo_st rfl rfl ?_
  refine fo_get rfl (eg_7 _) rfl ?_
  refine fo_b rfl rfl ?_ ?_
  · exact g_X7_readArc_257 LS xs d hd _ _ _ _ _ _ _
  · refine fo_st rfl rfl ?_
    refine fo_b rfl rfl ?_ ?_
    · exact g_X7_readArc_257 LS xs d hd _ _ _ _ _ _ _
    · refine fo_st rfl rfl ?_
      refine fo_get rfl (eg_7 _) rfl ?_
      refine fo_st rfl rfl ?_
      refine fo_b rfl rfl ?_ ?_
      · exact g_X7_readArc_257 LS xs d hd _ _ _ _ _ _ _
      · refine fo_st rfl rfl ?_
        refine fo_get rfl (eg_7 _) rfl ?_
        refine fo_st rfl rfl ?_
        refine fo_st rfl rfl ?_
        refine fo_iald rfl (eg_ar _ rfl) ?_
        refine fo_st rfl rfl ?_
        refine fo_st rfl rfl ?_
        refine fo_iast rfl (eg_ar _ rfl) (es_ar _ rfl _) ?_
        refine fo_st rfl rfl ?_
        exact g_X7_readArc_299 LS xs d hd _ _ _ _ _ _ _
def f_X7_readArc_203   (l1 : Int32) (l2 : Int32) (l3 : Int32) (l4 : Int32) (l5 : Int32) (l6 : Int32) (s : fS) : Option fS := ((f_X7_blanks s).bind fun qx1 => ((f_X7_here qx1).bind fun qx2 => (bif decide (qx2.1 = (-1 : Int32)) then f_X7_readArc_224 l1 l2 l3 l4 l5 l6 qx2.2 else ((f_X7_wrong (1 : Int32) (gI qx2.2 82 27) qx2.2).bind fun qx3 => f_X7_readArc_224 l1 l2 l3 l4 l5 l6 qx3))))
theorem g_X7_readArc_203 (LS : Nat) (xs : Nat → Int32) (d : Nat) (hd : 7 ≤ d)     (l1 : Int32) (l2 : Int32) (l3 : Int32) (l4 : Int32) (l5 : Int32) (l6 : Int32)  (s : fS) : fo cvV t_X7_readArc LS xs (mi_call mi_ms false LS xs d) (203, [some (.ref 82), some (.int l1), some (.int l2), some (.int l3), some (.int l4), some (.int l5), some (.int l6)], [], enc s) (f_X7_readArc_203 l1 l2 l3 l4 l5 l6 s) := by
  unfold f_X7_readArc_203
  refine fo_st rfl rfl ?_
  refine fo_callV (As := [.ref 82]) (rest := []) rfl rfl rfl rfl (mi_rcv_of (eg_7 _)) (c_X7_blanks LS xs d (by omega)  _) (fun qx1 => ?_)
  refine fo_st rfl rfl ?_
  refine fo_callI (As := [.ref 82]) (rest := []) rfl rfl rfl rfl (mi_rcv_of (eg_7 _)) (c_X7_here LS xs d (by omega)  _) (fun qx2 => ?_)
  refine fo_st rfl rfl ?_
  refine fo_b rfl rfl ?_ ?_
  · exact g_X7_readArc_224 LS xs d hd _ _ _ _ _ _ _
  · refine fo_st rfl rfl ?_
    refine fo_st rfl rfl ?_
    refine fo_st rfl rfl ?_
    refine fo_get rfl (eg_7 _) rfl ?_
    refine fo_callV (As := [.ref 82, .int (1 : Int32), .int (gI qx2.2 82 27)]) (rest := []) rfl rfl rfl rfl (mi_rcv_of (eg_7 _)) (c_X7_wrong LS xs d (by omega) _ _ _) (fun qx3 => ?_)
    exact g_X7_readArc_224 LS xs d hd _ _ _ _ _ _ _
def f_X7_readArc_123   : Nat → Int32 → Int32 → Int32 → Int32 → Int32 → Int32 → fS → Option fS
  | 0, _, _, _, _, _, _, _ => none
  | n + 1, l1, l2, l3, l4, l5, l6, s => fchk (mi_in (1 : Int32) (gA s 90).length) ((bif decide (((gA s 90).getD (1 : Int32).toNatClampNeg 0) ≤ l6) then f_X7_readArc_203 l1 l2 l3 l4 l5 l6 s else (bif decide (¬ (gI s 82 30) = 0) then f_X7_readArc_203 l1 l2 l3 l4 l5 l6 s else ((f_X7_blanks s).bind fun qx1 => fchk (mi_in ((3 : Int32) + l6) (gA qx1 91).length) (((f_X7_readValue ((gA qx1 91).getD ((3 : Int32) + l6).toNatClampNeg 0) qx1).bind fun qx2 => ((f_X7_ended qx2).bind fun qx3 => fchk (mi_in l6 (gA qx3 106).length) (fchk (mi_in l6 (gA qx3 107).length) (((f_X7_layName 108 ((9 : Int32) * l6) (sA (sA qx3 106 ((gA qx3 106).set l6.toNatClampNeg (gI qx3 82 33))) 107 ((gA qx3 107).set l6.toNatClampNeg (gI qx3 82 34)))).bind fun qx4 => f_X7_readArc_123 n l1 l2 l3 l4 l5 (l6 + Int32.ofInt (1)) qx4))))))))))
theorem g_X7_readArc_123 (LS : Nat) (xs : Nat → Int32) (d : Nat) (hd : 7 ≤ d)     (n : Nat) : ∀ (l1 : Int32) (l2 : Int32) (l3 : Int32) (l4 : Int32) (l5 : Int32) (l6 : Int32) (s : fS), fo cvV t_X7_readArc LS xs (mi_call mi_ms false LS xs d) (123, [some (.ref 82), some (.int l1), some (.int l2), some (.int l3), some (.int l4), some (.int l5), some (.int l6)], [], enc s) (f_X7_readArc_123 n l1 l2 l3 l4 l5 l6 s) := by
  induction n with
  | zero => intro l1 l2 l3 l4 l5 l6 s; exact fo_none
  | succ n ih =>
    intro l1 l2 l3 l4 l5 l6 s
    rw [f_X7_readArc_123]
    refine fo_st rfl rfl ?_
    refine fo_st rfl rfl ?_
    refine fo_get rfl (eg_7 _) rfl ?_
    refine fo_st rfl rfl ?_
    refine fo_iald rfl (eg_ar _ rfl) ?_
    refine fo_b rfl rfl ?_ ?_
    · exact g_X7_readArc_203 LS xs d hd _ _ _ _ _ _ _
    · refine fo_st rfl rfl ?_
      refine fo_get rfl (eg_7 _) rfl ?_
      refine fo_b rfl rfl ?_ ?_
      · exact g_X7_readArc_203 LS xs d hd _ _ _ _ _ _ _
      · refine fo_st rfl rfl ?_
        refine fo_callV (As := [.ref 82]) (rest := []) rfl rfl rfl rfl (mi_rcv_of (eg_7 _)) (c_X7_blanks LS xs d (by omega)  _) (fun qx1 => ?_)
        refine fo_st rfl rfl ?_
        refine fo_st rfl rfl ?_
        refine fo_get rfl (eg_7 _) rfl ?_
        refine fo_st rfl rfl ?_
        refine fo_st rfl rfl ?_
        refine fo_st rfl rfl ?_
        refine fo_iald rfl (eg_ar _ rfl) ?_
        refine fo_callV (As := [.ref 82, .int ((gA qx1 91).getD ((3 : Int32) + l6).toNatClampNeg 0)]) (rest := []) rfl rfl rfl rfl (mi_rcv_of (eg_7 _)) (c_X7_readValue LS xs d (by omega) _ _) (fun qx2 => ?_)
        refine fo_st rfl rfl ?_
        refine fo_callV (As := [.ref 82]) (rest := []) rfl rfl rfl rfl (mi_rcv_of (eg_7 _)) (c_X7_ended LS xs d (by omega)  _) (fun qx3 => ?_)
        refine fo_st rfl rfl ?_
        refine fo_get rfl (eg_7 _) rfl ?_
        refine fo_st rfl rfl ?_
        refine fo_st rfl rfl ?_
        refine fo_get rfl (eg_7 _) rfl ?_
        refine fo_iast rfl (eg_ar _ rfl) (es_ar _ rfl _) ?_
        refine fo_st rfl rfl ?_
        refine fo_get rfl (eg_7 _) rfl ?_
        refine fo_st rfl rfl ?_
        refine fo_st rfl rfl ?_
        refine fo_get rfl (eg_7 _) rfl ?_
        refine fo_iast rfl (eg_ar _ rfl) (es_ar _ rfl _) ?_
        refine fo_st rfl rfl ?_
        refine fo_st rfl rfl ?_
        refine fo_get rfl (eg_7 _) rfl ?_
        refine fo_st rfl rfl ?_
        refine fo_st rfl rfl ?_
        refine fo_st rfl rfl ?_
        refine fo_callV (As := [.ref 82, .ref 108, .int ((9 : Int32) * l6)]) (rest := []) rfl rfl rfl rfl (mi_rcv_of (eg_7 _)) (c_X7_layName LS xs d (by omega) _ _ rfl _) (fun qx4 => ?_)
        refine fo_st rfl rfl ?_
        refine fo_st rfl rfl ?_
        exact ih _ _ _ _ _ _ _
def f_X7_readArc_111   (l1 : Int32) (l2 : Int32) (l3 : Int32) (l4 : Int32) (l5 : Int32) (s : fS) : Option fS := ((f_X7_ended s).bind fun qx1 => f_X7_readArc_123 fuel l1 l2 l3 l4 l5 (0 : Int32) (sI qx1 82 38 (1 : Int32)))
theorem g_X7_readArc_111 (LS : Nat) (xs : Nat → Int32) (d : Nat) (hd : 7 ≤ d)     (l1 : Int32) (l2 : Int32) (l3 : Int32) (l4 : Int32) (l5 : Int32)  (s : fS) : fo cvV t_X7_readArc LS xs (mi_call mi_ms false LS xs d) (111, [some (.ref 82), some (.int l1), some (.int l2), some (.int l3), some (.int l4), some (.int l5), none], [], enc s) (f_X7_readArc_111 l1 l2 l3 l4 l5 s) := by
  unfold f_X7_readArc_111
  refine fo_st rfl rfl ?_
  refine fo_callV (As := [.ref 82]) (rest := []) rfl rfl rfl rfl (mi_rcv_of (eg_7 _)) (c_X7_ended LS xs d (by omega)  _) (fun qx1 => ?_)
  refine fo_st rfl rfl ?_
  refine fo_st rfl rfl ?_
  refine fo_put rfl (eg_7 _) rfl rfl (es_7_38 _ _) ?_
  refine fo_st rfl rfl ?_
  refine fo_st rfl rfl ?_
  exact g_X7_readArc_123 LS xs d hd fuel _ _ _ _ _ _ _
def f_X7_readArc_90   (l1 : Int32) (l2 : Int32) (l3 : Int32) (l4 : Int32) (t0 : Int32) (s : fS) : Option fS := (bif decide (t0 = 0) then f_X7_readArc_111 l1 l2 l3 l4 t0 s else (bif decide (¬ (gI s 82 3) = (2 : Int32)) then f_X7_readArc_111 l1 l2 l3 l4 t0 s else ((f_X7_wrong (5 : Int32) l3 s).bind fun qx1 => f_X7_readArc_111 l1 l2 l3 l4 t0 qx1)))
theorem g_X7_readArc_90 (LS : Nat) (xs : Nat → Int32) (d : Nat) (hd : 7 ≤ d)     (l1 : Int32) (l2 : Int32) (l3 : Int32) (l4 : Int32) (t0 : Int32)  (s : fS) : fo cvV t_X7_readArc LS xs (mi_call mi_ms false LS xs d) (90, [some (.ref 82), some (.int l1), some (.int l2), some (.int l3), some (.int l4), none, none], [.int t0], enc s) (f_X7_readArc_90 l1 l2 l3 l4 t0 s) := by
  unfold f_X7_readArc_90
  refine fo_st rfl rfl ?_
  refine fo_st rfl rfl ?_
  refine fo_b rfl rfl ?_ ?_
  · exact g_X7_readArc_111 LS xs d hd _ _ _ _ _ _
  · refine fo_st rfl rfl ?_
    refine fo_get rfl (eg_7 _) rfl ?_
    refine fo_st rfl rfl ?_
    refine fo_b rfl rfl ?_ ?_
    · exact g_X7_readArc_111 LS xs d hd _ _ _ _ _ _
    · refine fo_st rfl rfl ?_
      refine fo_st rfl rfl ?_
      refine fo_st rfl rfl ?_
      refine fo_callV (As := [.ref 82, .int (5 : Int32), .int l3]) (rest := []) rfl rfl rfl rfl (mi_rcv_of (eg_7 _)) (c_X7_wrong LS xs d (by omega) _ _ _) (fun qx1 => ?_)
      exact g_X7_readArc_111 LS xs d hd _ _ _ _ _ _
def f_X7_readArc_89   (l1 : Int32) (l2 : Int32) (l3 : Int32) (l4 : Int32) (s : fS) : Option fS := f_X7_readArc_90 l1 l2 l3 l4 (0 : Int32) s
theorem g_X7_readArc_89 (LS : Nat) (xs : Nat → Int32) (d : Nat) (hd : 7 ≤ d)     (l1 : Int32) (l2 : Int32) (l3 : Int32) (l4 : Int32)  (s : fS) : fo cvV t_X7_readArc LS xs (mi_call mi_ms false LS xs d) (89, [some (.ref 82), some (.int l1), some (.int l2), some (.int l3), some (.int l4), none, none], [], enc s) (f_X7_readArc_89 l1 l2 l3 l4 s) := by
  unfold f_X7_readArc_89
  refine fo_st rfl rfl ?_
  exact g_X7_readArc_90 LS xs d hd _ _ _ _ _ _
def f_X7_readArc_66   (l1 : Int32) (l2 : Int32) (l3 : Int32) (t0 : Int32) (s : fS) : Option fS := (bif decide (¬ (gI s 82 30) = 0) then f_X7_readArc_89 l1 l2 l3 t0 s else ((f_X7_isDoubled l2 t0 s).bind fun qx1 => (bif decide (qx1.1 = 0) then f_X7_readArc_89 l1 l2 l3 t0 qx1.2 else f_X7_readArc_90 l1 l2 l3 t0 (1 : Int32) qx1.2)))
theorem g_X7_readArc_66 (LS : Nat) (xs : Nat → Int32) (d : Nat) (hd : 7 ≤ d)     (l1 : Int32) (l2 : Int32) (l3 : Int32) (t0 : Int32)  (s : fS) : fo cvV t_X7_readArc LS xs (mi_call mi_ms false LS xs d) (66, [some (.ref 82), some (.int l1), some (.int l2), some (.int l3), none, none, none], [.int t0], enc s) (f_X7_readArc_66 l1 l2 l3 t0 s) := by
  unfold f_X7_readArc_66
  refine fo_st rfl rfl ?_
  refine fo_st rfl rfl ?_
  refine fo_get rfl (eg_7 _) rfl ?_
  refine fo_b rfl rfl ?_ ?_
  · exact g_X7_readArc_89 LS xs d hd _ _ _ _ _
  · refine fo_st rfl rfl ?_
    refine fo_st rfl rfl ?_
    refine fo_st rfl rfl ?_
    refine fo_callI (As := [.ref 82, .int l2, .int t0]) (rest := []) rfl rfl rfl rfl (mi_rcv_of (eg_7 _)) (c_X7_isDoubled LS xs d (by omega) _ _ _) (fun qx1 => ?_)
    refine fo_b rfl rfl ?_ ?_
    · exact g_X7_readArc_89 LS xs d hd _ _ _ _ _
    · refine fo_st rfl rfl ?_
      refine fo_st rfl rfl ?_
      exact g_X7_readArc_90 LS xs d hd _ _ _ _ _ _
def f_X7_readArc_50   (l1 : Int32) (l2 : Int32) (l3 : Int32) (s : fS) : Option fS := (bif decide (¬ (gI s 82 30) = 0) then f_X7_readArc_66 l1 l2 l3 (-1 : Int32) s else ((f_X7_nodeOf l3 s).bind fun qx1 => f_X7_readArc_66 l1 l2 l3 qx1.1 qx1.2))
theorem g_X7_readArc_50 (LS : Nat) (xs : Nat → Int32) (d : Nat) (hd : 7 ≤ d)     (l1 : Int32) (l2 : Int32) (l3 : Int32)  (s : fS) : fo cvV t_X7_readArc LS xs (mi_call mi_ms false LS xs d) (50, [some (.ref 82), some (.int l1), some (.int l2), some (.int l3), none, none, none], [], enc s) (f_X7_readArc_50 l1 l2 l3 s) := by
  unfold f_X7_readArc_50
  refine fo_st rfl rfl ?_
  refine fo_get rfl (eg_7 _) rfl ?_
  refine fo_b rfl rfl ?_ ?_
  · refine fo_st rfl rfl ?_
    exact g_X7_readArc_66 LS xs d hd _ _ _ _ _
  · refine fo_st rfl rfl ?_
    refine fo_st rfl rfl ?_
    refine fo_callI (As := [.ref 82, .int l3]) (rest := []) rfl rfl rfl rfl (mi_rcv_of (eg_7 _)) (c_X7_nodeOf LS xs d (by omega) _ _) (fun qx1 => ?_)
    refine fo_st rfl rfl ?_
    exact g_X7_readArc_66 LS xs d hd _ _ _ _ _
def f_X7_readArc_25   (l1 : Int32) (t0 : Int32) (s : fS) : Option fS := ((f_X7_ended s).bind fun qx1 => ((f_X7_blanks qx1).bind fun qx2 => (bif decide (¬ (gI qx2 82 30) = 0) then f_X7_readArc_50 l1 t0 (gI qx2 82 27) qx2 else ((f_X7_readName qx2).bind fun qx3 => f_X7_readArc_50 l1 t0 (gI qx2 82 27) qx3))))
theorem g_X7_readArc_25 (LS : Nat) (xs : Nat → Int32) (d : Nat) (hd : 7 ≤ d)     (l1 : Int32) (t0 : Int32)  (s : fS) : fo cvV t_X7_readArc LS xs (mi_call mi_ms false LS xs d) (25, [some (.ref 82), some (.int l1), none, none, none, none, none], [.int t0], enc s) (f_X7_readArc_25 l1 t0 s) := by
  unfold f_X7_readArc_25
  refine fo_st rfl rfl ?_
  refine fo_st rfl rfl ?_
  refine fo_callV (As := [.ref 82]) (rest := []) rfl rfl rfl rfl (mi_rcv_of (eg_7 _)) (c_X7_ended LS xs d (by omega)  _) (fun qx1 => ?_)
  refine fo_st rfl rfl ?_
  refine fo_callV (As := [.ref 82]) (rest := []) rfl rfl rfl rfl (mi_rcv_of (eg_7 _)) (c_X7_blanks LS xs d (by omega)  _) (fun qx2 => ?_)
  refine fo_st rfl rfl ?_
  refine fo_get rfl (eg_7 _) rfl ?_
  refine fo_st rfl rfl ?_
  refine fo_st rfl rfl ?_
  refine fo_get rfl (eg_7 _) rfl ?_
  refine fo_b rfl rfl ?_ ?_
  · exact g_X7_readArc_50 LS xs d hd _ _ _ _
  · refine fo_st rfl rfl ?_
    refine fo_callV (As := [.ref 82]) (rest := []) rfl rfl rfl rfl (mi_rcv_of (eg_7 _)) (c_X7_readName LS xs d (by omega)  _) (fun qx3 => ?_)
    exact g_X7_readArc_50 LS xs d hd _ _ _ _
def f_X7_readArc_0    (s : fS) : Option fS := ((f_X7_readName s).bind fun qx1 => (bif decide (¬ (gI qx1 82 30) = 0) then f_X7_readArc_25 (gI s 82 27) (-1 : Int32) qx1 else ((f_X7_nodeOf (gI s 82 27) qx1).bind fun qx2 => f_X7_readArc_25 (gI s 82 27) qx2.1 qx2.2)))
theorem g_X7_readArc_0 (LS : Nat) (xs : Nat → Int32) (d : Nat) (hd : 7 ≤ d)       (s : fS) : fo cvV t_X7_readArc LS xs (mi_call mi_ms false LS xs d) (0, [some (.ref 82), none, none, none, none, none, none], [], enc s) (f_X7_readArc_0 s) := by
  unfold f_X7_readArc_0
  refine fo_st rfl rfl ?_
  refine fo_get rfl (eg_7 _) rfl ?_
  refine fo_st rfl rfl ?_
  refine fo_st rfl rfl ?_
  refine fo_callV (As := [.ref 82]) (rest := []) rfl rfl rfl rfl (mi_rcv_of (eg_7 _)) (c_X7_readName LS xs d (by omega)  _) (fun qx1 => ?_)
  refine fo_st rfl rfl ?_
  refine fo_get rfl (eg_7 _) rfl ?_
  refine fo_b rfl rfl ?_ ?_
  · refine fo_st rfl rfl ?_
    exact g_X7_readArc_25 LS xs d hd _ _ _
  · refine fo_st rfl rfl ?_
    refine fo_st rfl rfl ?_
    refine fo_callI (As := [.ref 82, .int (gI s 82 27)]) (rest := []) rfl rfl rfl rfl (mi_rcv_of (eg_7 _)) (c_X7_nodeOf LS xs d (by omega) _ _) (fun qx2 => ?_)
    refine fo_st rfl rfl ?_
    exact g_X7_readArc_25 LS xs d hd _ _ _
def f_X7_readArc  (s : fS) : Option fS := f_X7_readArc_0 s
theorem c_X7_readArc (LS : Nat) (xs : Nat → Int32) (d : Nat) (hd : 8 ≤ d)   (s : fS) : fm mi_ms cvV LS xs d 121 [.ref 82] (enc s) (f_X7_readArc  s) := by
  obtain ⟨e, rfl⟩ : ∃ e, d = e + 1 := ⟨d - 1, by omega⟩
  exact fm_of (M := m_X7_readArc) rfl rfl (fun _ => ⟨_, rfl⟩) (g_X7_readArc_0 LS xs e (by omega) s)
def f_X7_readLine_78   (l1 : Int32) (s : fS) : Option fS := some s
theorem g_X7_readLine_78 (LS : Nat) (xs : Nat → Int32) (d : Nat) (hd : 8 ≤ d)     (l1 : Int32)  (s : fS) : fo cvV t_X7_readLine LS xs (mi_call mi_ms false LS xs d) (78, [some (.ref 82), some (.int l1)], [], enc s) (f_X7_readLine_78 l1 s) := by
  unfold f_X7_readLine_78
  exact fo_ret rfl rfl rfl
def f_X7_readLine_57   (l1 : Int32) (s : fS) : Option fS := ((f_X7_blanks s).bind fun qx1 => ((f_X7_here qx1).bind fun qx2 => (bif decide (qx2.1 = (-1 : Int32)) then f_X7_readLine_78 l1 qx2.2 else ((f_X7_wrong (1 : Int32) (gI qx2.2 82 27) qx2.2).bind fun qx3 => f_X7_readLine_78 l1 qx3))))
theorem g_X7_readLine_57 (LS : Nat) (xs : Nat → Int32) (d : Nat) (hd : 8 ≤ d)     (l1 : Int32)  (s : fS) : fo cvV t_X7_readLine LS xs (mi_call mi_ms false LS xs d) (57, [some (.ref 82), some (.int l1)], [], enc s) (f_X7_readLine_57 l1 s) := by
  unfold f_X7_readLine_57
  refine fo_st rfl rfl ?_
  refine fo_callV (As := [.ref 82]) (rest := []) rfl rfl rfl rfl (mi_rcv_of (eg_7 _)) (c_X7_blanks LS xs d (by omega)  _) (fun qx1 => ?_)
  refine fo_st rfl rfl ?_
  refine fo_callI (As := [.ref 82]) (rest := []) rfl rfl rfl rfl (mi_rcv_of (eg_7 _)) (c_X7_here LS xs d (by omega)  _) (fun qx2 => ?_)
  refine fo_st rfl rfl ?_
  refine fo_b rfl rfl ?_ ?_
  · exact g_X7_readLine_78 LS xs d hd _ _
  · refine fo_st rfl rfl ?_
    refine fo_st rfl rfl ?_
    refine fo_st rfl rfl ?_
    refine fo_get rfl (eg_7 _) rfl ?_
    refine fo_callV (As := [.ref 82, .int (1 : Int32), .int (gI qx2.2 82 27)]) (rest := []) rfl rfl rfl rfl (mi_rcv_of (eg_7 _)) (c_X7_wrong LS xs d (by omega) _ _ _) (fun qx3 => ?_)
    exact g_X7_readLine_78 LS xs d hd _ _
def f_X7_readLine_0    (s : fS) : Option fS := ((f_X7_blanks s).bind fun qx1 => ((f_X7_here qx1).bind fun qx2 => (bif decide (¬ qx2.1 = (35 : Int32)) then (bif decide (¬ qx2.1 = (33 : Int32)) then (bif decide (¬ qx2.1 = (37 : Int32)) then (bif decide (qx2.1 = (-1 : Int32)) then f_X7_readLine_57 qx2.1 qx2.2 else ((f_X7_readArc qx2.2).bind fun qx3 => f_X7_readLine_57 qx2.1 qx3)) else ((f_X7_readHead qx2.2).bind fun qx4 => f_X7_readLine_57 qx2.1 qx4)) else ((f_X7_readCount qx2.2).bind fun qx5 => f_X7_readLine_57 qx2.1 qx5)) else ((f_X7_readComment qx2.2).bind fun qx6 => f_X7_readLine_57 qx2.1 qx6))))
theorem g_X7_readLine_0 (LS : Nat) (xs : Nat → Int32) (d : Nat) (hd : 8 ≤ d)       (s : fS) : fo cvV t_X7_readLine LS xs (mi_call mi_ms false LS xs d) (0, [some (.ref 82), none], [], enc s) (f_X7_readLine_0 s) := by
  unfold f_X7_readLine_0
  refine fo_st rfl rfl ?_
  refine fo_callV (As := [.ref 82]) (rest := []) rfl rfl rfl rfl (mi_rcv_of (eg_7 _)) (c_X7_blanks LS xs d (by omega)  _) (fun qx1 => ?_)
  refine fo_st rfl rfl ?_
  refine fo_callI (As := [.ref 82]) (rest := []) rfl rfl rfl rfl (mi_rcv_of (eg_7 _)) (c_X7_here LS xs d (by omega)  _) (fun qx2 => ?_)
  refine fo_st rfl rfl ?_
  refine fo_st rfl rfl ?_
  refine fo_st rfl rfl ?_
  refine fo_b rfl rfl ?_ ?_
  · refine fo_st rfl rfl ?_
    refine fo_st rfl rfl ?_
    refine fo_b rfl rfl ?_ ?_
    · refine fo_st rfl rfl ?_
      refine fo_st rfl rfl ?_
      refine fo_b rfl rfl ?_ ?_
      · refine fo_st rfl rfl ?_
        refine fo_st rfl rfl ?_
        refine fo_b rfl rfl ?_ ?_
        · exact g_X7_readLine_57 LS xs d hd _ _
        · refine fo_st rfl rfl ?_
          refine fo_callV (As := [.ref 82]) (rest := []) rfl rfl rfl rfl (mi_rcv_of (eg_7 _)) (c_X7_readArc LS xs d (by omega)  _) (fun qx3 => ?_)
          exact g_X7_readLine_57 LS xs d hd _ _
      · refine fo_st rfl rfl ?_
        refine fo_callV (As := [.ref 82]) (rest := []) rfl rfl rfl rfl (mi_rcv_of (eg_7 _)) (c_X7_readHead LS xs d (by omega)  _) (fun qx4 => ?_)
        refine fo_st rfl rfl ?_
        exact g_X7_readLine_57 LS xs d hd _ _
    · refine fo_st rfl rfl ?_
      refine fo_callV (As := [.ref 82]) (rest := []) rfl rfl rfl rfl (mi_rcv_of (eg_7 _)) (c_X7_readCount LS xs d (by omega)  _) (fun qx5 => ?_)
      refine fo_st rfl rfl ?_
      exact g_X7_readLine_57 LS xs d hd _ _
  · refine fo_st rfl rfl ?_
    refine fo_callV (As := [.ref 82]) (rest := []) rfl rfl rfl rfl (mi_rcv_of (eg_7 _)) (c_X7_readComment LS xs d (by omega)  _) (fun qx6 => ?_)
    refine fo_st rfl rfl ?_
    exact g_X7_readLine_57 LS xs d hd _ _
def f_X7_readLine  (s : fS) : Option fS := f_X7_readLine_0 s
theorem c_X7_readLine (LS : Nat) (xs : Nat → Int32) (d : Nat) (hd : 9 ≤ d)   (s : fS) : fm mi_ms cvV LS xs d 123 [.ref 82] (enc s) (f_X7_readLine  s) := by
  obtain ⟨e, rfl⟩ : ∃ e, d = e + 1 := ⟨d - 1, by omega⟩
  exact fm_of (M := m_X7_readLine) rfl rfl (fun _ => ⟨_, rfl⟩) (g_X7_readLine_0 LS xs e (by omega) s)
def f_X7_guessKinds_88  (r2 : Int32 → fS → Option fS) (l1 : Int32) (s : fS) : Option fS := r2 (l1 + Int32.ofInt (1)) s
theorem g_X7_guessKinds_88 (LS : Nat) (xs : Nat → Int32) (d : Nat) (hd : 0 ≤ d)   (r2 : Int32 → fS → Option fS) (q2 : ∀ (l1 : Int32) (d2 : Option Value) (d3 : Option Value) (s : fS), fo cvV t_X7_guessKinds LS xs (mi_call mi_ms false LS xs d) (2, [some (.ref 82), some (.int l1), d2, d3], [], enc s) (r2 l1 s)) (l1 : Int32) (d2 : Option Value) (d3 : Option Value) (s : fS) : fo cvV t_X7_guessKinds LS xs (mi_call mi_ms false LS xs d) (88, [some (.ref 82), some (.int l1), d2, d3], [], enc s) (f_X7_guessKinds_88 r2 l1 s) := by
  unfold f_X7_guessKinds_88
  refine fo_st rfl rfl ?_
  refine fo_st rfl rfl ?_
  exact q2 _ _ _ _
def f_X7_guessKinds_70  (r2 : Int32 → fS → Option fS) (r29 : Int32 → Int32 → Int32 → fS → Option fS) (l1 : Int32) (l2 : Int32) (l3 : Int32) (t0 : Int32) (s : fS) : Option fS := r29 l1 t0 (l3 + Int32.ofInt (1)) s
theorem g_X7_guessKinds_70 (LS : Nat) (xs : Nat → Int32) (d : Nat) (hd : 0 ≤ d)   (r2 : Int32 → fS → Option fS) (r29 : Int32 → Int32 → Int32 → fS → Option fS) (q2 : ∀ (l1 : Int32) (d2 : Option Value) (d3 : Option Value) (s : fS), fo cvV t_X7_guessKinds LS xs (mi_call mi_ms false LS xs d) (2, [some (.ref 82), some (.int l1), d2, d3], [], enc s) (r2 l1 s)) (q29 : ∀ (l1 : Int32) (l2 : Int32) (l3 : Int32) (s : fS), fo cvV t_X7_guessKinds LS xs (mi_call mi_ms false LS xs d) (29, [some (.ref 82), some (.int l1), some (.int l2), some (.int l3)], [], enc s) (r29 l1 l2 l3 s)) (l1 : Int32) (l2 : Int32) (l3 : Int32) (t0 : Int32)  (s : fS) : fo cvV t_X7_guessKinds LS xs (mi_call mi_ms false LS xs d) (70, [some (.ref 82), some (.int l1), some (.int l2), some (.int l3)], [.int t0], enc s) (f_X7_guessKinds_70 r2 r29 l1 l2 l3 t0 s) := by
  unfold f_X7_guessKinds_70
  refine fo_st rfl rfl ?_
  refine fo_st rfl rfl ?_
  refine fo_st rfl rfl ?_
  exact q29 _ _ _ _
def f_X7_guessKinds_29  (r2 : Int32 → fS → Option fS) : Nat → Int32 → Int32 → Int32 → fS → Option fS
  | 0, _, _, _, _ => none
  | n + 1, l1, l2, l3, s => fchk (mi_in (1 : Int32) (gA s 86).length) ((bif decide (((40 : Int32) + ((gA s 86).getD (1 : Int32).toNatClampNeg 0)) ≤ l3) then fchk (mi_in ((3 : Int32) + l1) (gA s 91).length) (f_X7_guessKinds_88 r2 l1 (sA s 91 ((gA s 91).set ((3 : Int32) + l1).toNatClampNeg (l2 - (1 : Int32))))) else fchk (mi_in (((3 : Int32) * l3) + l1) (gA s 93).length) ((bif decide (((gA s 93).getD (((3 : Int32) * l3) + l1).toNatClampNeg 0) ≤ l2) then f_X7_guessKinds_70 r2 (fun l1' l2' l3' s' => f_X7_guessKinds_29 r2 n l1' l2' l3' s') l1 l2 l3 l2 s else fchk (mi_in (((3 : Int32) * l3) + l1) (gA s 93).length) (f_X7_guessKinds_70 r2 (fun l1' l2' l3' s' => f_X7_guessKinds_29 r2 n l1' l2' l3' s') l1 l2 l3 ((gA s 93).getD (((3 : Int32) * l3) + l1).toNatClampNeg 0) s)))))
theorem g_X7_guessKinds_29 (LS : Nat) (xs : Nat → Int32) (d : Nat) (hd : 0 ≤ d)   (r2 : Int32 → fS → Option fS) (q2 : ∀ (l1 : Int32) (d2 : Option Value) (d3 : Option Value) (s : fS), fo cvV t_X7_guessKinds LS xs (mi_call mi_ms false LS xs d) (2, [some (.ref 82), some (.int l1), d2, d3], [], enc s) (r2 l1 s)) (n : Nat) : ∀ (l1 : Int32) (l2 : Int32) (l3 : Int32) (s : fS), fo cvV t_X7_guessKinds LS xs (mi_call mi_ms false LS xs d) (29, [some (.ref 82), some (.int l1), some (.int l2), some (.int l3)], [], enc s) (f_X7_guessKinds_29 r2 n l1 l2 l3 s) := by
  induction n with
  | zero => intro l1 l2 l3 s; exact fo_none
  | succ n ih =>
    intro l1 l2 l3 s
    rw [f_X7_guessKinds_29]
    refine fo_st rfl rfl ?_
    refine fo_st rfl rfl ?_
    refine fo_st rfl rfl ?_
    refine fo_get rfl (eg_7 _) rfl ?_
    refine fo_st rfl rfl ?_
    refine fo_iald rfl (eg_ar _ rfl) ?_
    refine fo_st rfl rfl ?_
    refine fo_b rfl rfl ?_ ?_
    · refine fo_st rfl rfl ?_
      refine fo_get rfl (eg_7 _) rfl ?_
      refine fo_st rfl rfl ?_
      refine fo_st rfl rfl ?_
      refine fo_st rfl rfl ?_
      refine fo_st rfl rfl ?_
      refine fo_st rfl rfl ?_
      refine fo_st rfl rfl ?_
      refine fo_iast rfl (eg_ar _ rfl) (es_ar _ rfl _) ?_
      exact g_X7_guessKinds_88 LS xs d hd _ q2 _ _ _ _
    · refine fo_st rfl rfl ?_
      refine fo_get rfl (eg_7 _) rfl ?_
      refine fo_st rfl rfl ?_
      refine fo_st rfl rfl ?_
      refine fo_st rfl rfl ?_
      refine fo_st rfl rfl ?_
      refine fo_st rfl rfl ?_
      refine fo_iald rfl (eg_ar _ rfl) ?_
      refine fo_st rfl rfl ?_
      refine fo_b rfl rfl ?_ ?_
      · refine fo_st rfl rfl ?_
        exact g_X7_guessKinds_70 LS xs d hd _ _ q2 ih _ _ _ _ _
      · refine fo_st rfl rfl ?_
        refine fo_get rfl (eg_7 _) rfl ?_
        refine fo_st rfl rfl ?_
        refine fo_st rfl rfl ?_
        refine fo_st rfl rfl ?_
        refine fo_st rfl rfl ?_
        refine fo_st rfl rfl ?_
        refine fo_iald rfl (eg_ar _ rfl) ?_
        refine fo_st rfl rfl ?_
        exact g_X7_guessKinds_70 LS xs d hd _ _ q2 ih _ _ _ _ _
def f_X7_guessKinds_2   : Nat → Int32 → fS → Option fS
  | 0, _, _ => none
  | n + 1, l1, s => fchk (mi_in (1 : Int32) (gA s 90).length) ((bif decide (((gA s 90).getD (1 : Int32).toNatClampNeg 0) ≤ l1) then some s else fchk (mi_in ((3 : Int32) + l1) (gA s 91).length) ((bif decide (¬ ((gA s 91).getD ((3 : Int32) + l1).toNatClampNeg 0) = (3 : Int32)) then f_X7_guessKinds_88 (fun l1' s' => f_X7_guessKinds_2 n l1' s') l1 s else f_X7_guessKinds_29 (fun l1' s' => f_X7_guessKinds_2 n l1' s') fuel l1 (1 : Int32) (40 : Int32) s))))
theorem g_X7_guessKinds_2 (LS : Nat) (xs : Nat → Int32) (d : Nat) (hd : 0 ≤ d)     (n : Nat) : ∀ (l1 : Int32) (d2 : Option Value) (d3 : Option Value) (s : fS), fo cvV t_X7_guessKinds LS xs (mi_call mi_ms false LS xs d) (2, [some (.ref 82), some (.int l1), d2, d3], [], enc s) (f_X7_guessKinds_2 n l1 s) := by
  induction n with
  | zero => intro l1 d2 d3 s; exact fo_none
  | succ n ih =>
    intro l1 d2 d3 s
    rw [f_X7_guessKinds_2]
    refine fo_st rfl rfl ?_
    refine fo_st rfl rfl ?_
    refine fo_get rfl (eg_7 _) rfl ?_
    refine fo_st rfl rfl ?_
    refine fo_iald rfl (eg_ar _ rfl) ?_
    refine fo_b rfl rfl ?_ ?_
    · exact fo_ret rfl rfl rfl
    · refine fo_st rfl rfl ?_
      refine fo_get rfl (eg_7 _) rfl ?_
      refine fo_st rfl rfl ?_
      refine fo_st rfl rfl ?_
      refine fo_st rfl rfl ?_
      refine fo_iald rfl (eg_ar _ rfl) ?_
      refine fo_st rfl rfl ?_
      refine fo_b rfl rfl ?_ ?_
      · exact g_X7_guessKinds_88 LS xs d hd _ ih _ _ _ _
      · refine fo_st rfl rfl ?_
        refine fo_std rfl rfl rfl rfl rfl ?_
        refine fo_st rfl rfl ?_
        refine fo_std rfl rfl rfl rfl rfl ?_
        exact g_X7_guessKinds_29 LS xs d hd _ ih fuel _ _ _ _
def f_X7_guessKinds_0    (s : fS) : Option fS := f_X7_guessKinds_2 fuel (0 : Int32) s
theorem g_X7_guessKinds_0 (LS : Nat) (xs : Nat → Int32) (d : Nat) (hd : 0 ≤ d)       (s : fS) : fo cvV t_X7_guessKinds LS xs (mi_call mi_ms false LS xs d) (0, [some (.ref 82), none, none, none], [], enc s) (f_X7_guessKinds_0 s) := by
  unfold f_X7_guessKinds_0
  refine fo_st rfl rfl ?_
  refine fo_st rfl rfl ?_
  exact g_X7_guessKinds_2 LS xs d hd fuel _ _ _ _
def f_X7_guessKinds  (s : fS) : Option fS := f_X7_guessKinds_0 s
theorem c_X7_guessKinds (LS : Nat) (xs : Nat → Int32) (d : Nat) (hd : 1 ≤ d)   (s : fS) : fm mi_ms cvV LS xs d 124 [.ref 82] (enc s) (f_X7_guessKinds  s) := by
  obtain ⟨e, rfl⟩ : ∃ e, d = e + 1 := ⟨d - 1, by omega⟩
  exact fm_of (M := m_X7_guessKinds) rfl rfl (fun _ => ⟨_, rfl⟩) (g_X7_guessKinds_0 LS xs e (by omega) s)
def f_X7_takeRow_2 (a0 : Nat)  : Nat → Int32 → Int32 → fS → Option fS
  | 0, _, _, _ => none
  | n + 1, l1, l2, s => (bif decide (l1 ≤ l2) then some s else fchk (mi_in (l1 + l2) (gA s a0).length) (fchk (mi_in l2 (gA s a0).length) (f_X7_takeRow_2 a0 n l1 (l2 + Int32.ofInt (1)) (sA s a0 ((gA s a0).set l2.toNatClampNeg ((gA s a0).getD (l1 + l2).toNatClampNeg 0))))))
theorem g_X7_takeRow_2 (LS : Nat) (xs : Nat → Int32) (d : Nat) (hd : 0 ≤ d) (a0 : Nat) (h0 : isAr a0 = true)   (n : Nat) : ∀ (l1 : Int32) (l2 : Int32) (s : fS), fo cvV t_X7_takeRow LS xs (mi_call mi_ms false LS xs d) (2, [some (.ref a0), some (.int l1), some (.int l2)], [], enc s) (f_X7_takeRow_2 a0 n l1 l2 s) := by
  induction n with
  | zero => intro l1 l2 s; exact fo_none
  | succ n ih =>
    intro l1 l2 s
    rw [f_X7_takeRow_2]
    refine fo_st rfl rfl ?_
    refine fo_st rfl rfl ?_
    refine fo_b rfl rfl ?_ ?_
    · exact fo_ret rfl rfl rfl
    · refine fo_st rfl rfl ?_
      refine fo_st rfl rfl ?_
      refine fo_st rfl rfl ?_
      refine fo_st rfl rfl ?_
      refine fo_st rfl rfl ?_
      refine fo_st rfl rfl ?_
      refine fo_iald rfl (eg_ar _ h0) ?_
      refine fo_iast rfl (eg_ar _ h0) (es_ar _ h0 _) ?_
      refine fo_st rfl rfl ?_
      refine fo_st rfl rfl ?_
      exact ih _ _ _
def f_X7_takeRow_0 (a0 : Nat)  (l1 : Int32) (s : fS) : Option fS := f_X7_takeRow_2 a0 fuel l1 (0 : Int32) s
theorem g_X7_takeRow_0 (LS : Nat) (xs : Nat → Int32) (d : Nat) (hd : 0 ≤ d) (a0 : Nat) (h0 : isAr a0 = true)   (l1 : Int32)  (s : fS) : fo cvV t_X7_takeRow LS xs (mi_call mi_ms false LS xs d) (0, [some (.ref a0), some (.int l1), none], [], enc s) (f_X7_takeRow_0 a0 l1 s) := by
  unfold f_X7_takeRow_0
  refine fo_st rfl rfl ?_
  refine fo_st rfl rfl ?_
  exact g_X7_takeRow_2 LS xs d hd a0 h0 fuel _ _ _
def f_X7_takeRow (a0 : Nat) (l1 : Int32) (s : fS) : Option fS := f_X7_takeRow_0 a0 l1 s
theorem c_X7_takeRow (LS : Nat) (xs : Nat → Int32) (d : Nat) (hd : 1 ≤ d) (a0 : Nat) (l1 : Int32) (h0 : isAr a0 = true) (s : fS) : fm mi_ms cvV LS xs d 126 [.ref a0, .int l1] (enc s) (f_X7_takeRow a0 l1 s) := by
  obtain ⟨e, rfl⟩ : ∃ e, d = e + 1 := ⟨d - 1, by omega⟩
  exact fm_of (M := m_X7_takeRow) rfl rfl (fun _ => ⟨_, rfl⟩) (g_X7_takeRow_0 LS xs e (by omega) a0 h0 l1 s)
def f_X7_takeOver_0    (s : fS) : Option fS := fchk (mi_in (1 : Int32) (gA s 84).length) (fchk (mi_in (0 : Int32) (gA s 84).length) (fchk (mi_in (1 : Int32) (gA s 86).length) (fchk (mi_in (0 : Int32) (gA s 86).length) (fchk (mi_in (1 : Int32) (gA s 90).length) (fchk (mi_in (0 : Int32) (gA s 90).length) (fchk (mi_in (1 : Int32) (gA s 96).length) (fchk (mi_in (0 : Int32) (gA s 96).length) (fchk (mi_in (1 : Int32) (gA s 97).length) (fchk (mi_in (0 : Int32) (gA s 97).length) (fchk (mi_in (1 : Int32) (gA s 99).length) (fchk (mi_in (0 : Int32) (gA s 99).length) (fchk (mi_in (2 : Int32) (gA s 101).length) (fchk (mi_in (0 : Int32) (gA s 101).length) (fchk (mi_in (3 : Int32) ((gA s 101).set (0 : Int32).toNatClampNeg ((gA s 101).getD (2 : Int32).toNatClampNeg 0)).length) (fchk (mi_in (1 : Int32) ((gA s 101).set (0 : Int32).toNatClampNeg ((gA s 101).getD (2 : Int32).toNatClampNeg 0)).length) (((f_X7_takeRow 85 (270 : Int32) (sA (sA (sA (sA (sA (sA (sA (sA (sI s 82 6 (1 : Int32)) 84 ((gA s 84).set (0 : Int32).toNatClampNeg ((gA s 84).getD (1 : Int32).toNatClampNeg 0))) 86 ((gA s 86).set (0 : Int32).toNatClampNeg ((gA s 86).getD (1 : Int32).toNatClampNeg 0))) 90 ((gA s 90).set (0 : Int32).toNatClampNeg ((gA s 90).getD (1 : Int32).toNatClampNeg 0))) 96 ((gA s 96).set (0 : Int32).toNatClampNeg ((gA s 96).getD (1 : Int32).toNatClampNeg 0))) 97 ((gA s 97).set (0 : Int32).toNatClampNeg ((gA s 97).getD (1 : Int32).toNatClampNeg 0))) 99 ((gA s 99).set (0 : Int32).toNatClampNeg ((gA s 99).getD (1 : Int32).toNatClampNeg 0))) 101 ((gA s 101).set (0 : Int32).toNatClampNeg ((gA s 101).getD (2 : Int32).toNatClampNeg 0))) 101 (((gA s 101).set (0 : Int32).toNatClampNeg ((gA s 101).getD (2 : Int32).toNatClampNeg 0)).set (1 : Int32).toNatClampNeg (((gA s 101).set (0 : Int32).toNatClampNeg ((gA s 101).getD (2 : Int32).toNatClampNeg 0)).getD (3 : Int32).toNatClampNeg 0)))).bind fun qx1 => ((f_X7_takeRow 87 (40 : Int32) qx1).bind fun qx2 => ((f_X7_takeRow 88 (40 : Int32) qx2).bind fun qx3 => ((f_X7_takeRow 89 (40 : Int32) qx3).bind fun qx4 => ((f_X7_takeRow 91 (3 : Int32) qx4).bind fun qx5 => ((f_X7_takeRow 92 (27 : Int32) qx5).bind fun qx6 => ((f_X7_takeRow 93 (120 : Int32) qx6).bind fun qx7 => ((f_X7_takeRow 94 (120 : Int32) qx7).bind fun qx8 => ((f_X7_takeRow 95 (1080 : Int32) qx8).bind fun qx9 => ((f_X7_takeRow 98 (6300 : Int32) qx9).bind fun qx10 => ((f_X7_takeRow 100 (601 : Int32) qx10).bind fun qx11 => some qx11)))))))))))))))))))))))))))
theorem g_X7_takeOver_0 (LS : Nat) (xs : Nat → Int32) (d : Nat) (hd : 1 ≤ d)       (s : fS) : fo cvV t_X7_takeOver LS xs (mi_call mi_ms false LS xs d) (0, [some (.ref 82)], [], enc s) (f_X7_takeOver_0 s) := by
  unfold f_X7_takeOver_0
  refine fo_st rfl rfl ?_
  refine fo_st rfl rfl ?_
  refine fo_put rfl (eg_7 _) rfl rfl (es_7_6 _ _) ?_
  refine fo_st rfl rfl ?_
  refine fo_get rfl (eg_7 _) rfl ?_
  refine fo_st rfl rfl ?_
  refine fo_st rfl rfl ?_
  refine fo_get rfl (eg_7 _) rfl ?_
  refine fo_st rfl rfl ?_
  refine fo_iald rfl (eg_ar _ rfl) ?_
  refine fo_iast rfl (eg_ar _ rfl) (es_ar _ rfl _) ?_
  refine fo_st rfl rfl ?_
  refine fo_get rfl (eg_7 _) rfl ?_
  refine fo_st rfl rfl ?_
  refine fo_st rfl rfl ?_
  refine fo_get rfl (eg_7 _) rfl ?_
  refine fo_st rfl rfl ?_
  refine fo_iald rfl (eg_ar _ rfl) ?_
  refine fo_iast rfl (eg_ar _ rfl) (es_ar _ rfl _) ?_
  refine fo_st rfl rfl ?_
  refine fo_get rfl (eg_7 _) rfl ?_
  refine fo_st rfl rfl ?_
  refine fo_st rfl rfl ?_
  refine fo_get rfl (eg_7 _) rfl ?_
  refine fo_st rfl rfl ?_
  refine fo_iald rfl (eg_ar _ rfl) ?_
  refine fo_iast rfl (eg_ar _ rfl) (es_ar _ rfl _) ?_
  refine fo_st rfl rfl ?_
  refine fo_get rfl (eg_7 _) rfl ?_
  refine fo_st rfl rfl ?_
  refine fo_st rfl rfl ?_
  refine fo_get rfl (eg_7 _) rfl ?_
  refine fo_st rfl rfl ?_
  refine fo_iald rfl (eg_ar _ rfl) ?_
  refine fo_iast rfl (eg_ar _ rfl) (es_ar _ rfl _) ?_
  refine fo_st rfl rfl ?_
  refine fo_get rfl (eg_7 _) rfl ?_
  refine fo_st rfl rfl ?_
  refine fo_st rfl rfl ?_
  refine fo_get rfl (eg_7 _) rfl ?_
  refine fo_st rfl rfl ?_
  refine fo_iald rfl (eg_ar _ rfl) ?_
  refine fo_iast rfl (eg_ar _ rfl) (es_ar _ rfl _) ?_
  refine fo_st rfl rfl ?_
  refine fo_get rfl (eg_7 _) rfl ?_
  refine fo_st rfl rfl ?_
  refine fo_st rfl rfl ?_
  refine fo_get rfl (eg_7 _) rfl ?_
  refine fo_st rfl rfl ?_
  refine fo_iald rfl (eg_ar _ rfl) ?_
  refine fo_iast rfl (eg_ar _ rfl) (es_ar _ rfl _) ?_
  refine fo_st rfl rfl ?_
  refine fo_get rfl (eg_7 _) rfl ?_
  refine fo_st rfl rfl ?_
  refine fo_st rfl rfl ?_
  refine fo_get rfl (eg_7 _) rfl ?_
  refine fo_st rfl rfl ?_
  refine fo_iald rfl (eg_ar _ rfl) ?_
  refine fo_iast rfl (eg_ar _ rfl) (es_ar _ rfl _) ?_
  refine fo_st rfl rfl ?_
  refine fo_get rfl (eg_7 _) rfl ?_
  refine fo_st rfl rfl ?_
  refine fo_st rfl rfl ?_
  refine fo_get rfl (eg_7 _) rfl ?_
  refine fo_st rfl rfl ?_
  refine fo_iald rfl (eg_ar _ rfl) ?_
  refine fo_iast rfl (eg_ar _ rfl) (es_ar _ rfl _) ?_
  refine fo_st rfl rfl ?_
  refine fo_get rfl (eg_7 _) rfl ?_
  refine fo_st rfl rfl ?_
  refine fo_callV (As := [.ref 85, .int (270 : Int32)]) (rest := []) rfl rfl rfl rfl True.intro (c_X7_takeRow LS xs d (by omega) _ _ rfl _) (fun qx1 => ?_)
  refine fo_st rfl rfl ?_
  refine fo_get rfl (eg_7 _) rfl ?_
  refine fo_st rfl rfl ?_
  refine fo_callV (As := [.ref 87, .int (40 : Int32)]) (rest := []) rfl rfl rfl rfl True.intro (c_X7_takeRow LS xs d (by omega) _ _ rfl _) (fun qx2 => ?_)
  refine fo_st rfl rfl ?_
  refine fo_get rfl (eg_7 _) rfl ?_
  refine fo_st rfl rfl ?_
  refine fo_callV (As := [.ref 88, .int (40 : Int32)]) (rest := []) rfl rfl rfl rfl True.intro (c_X7_takeRow LS xs d (by omega) _ _ rfl _) (fun qx3 => ?_)
  refine fo_st rfl rfl ?_
  refine fo_get rfl (eg_7 _) rfl ?_
  refine fo_st rfl rfl ?_
  refine fo_callV (As := [.ref 89, .int (40 : Int32)]) (rest := []) rfl rfl rfl rfl True.intro (c_X7_takeRow LS xs d (by omega) _ _ rfl _) (fun qx4 => ?_)
  refine fo_st rfl rfl ?_
  refine fo_get rfl (eg_7 _) rfl ?_
  refine fo_st rfl rfl ?_
  refine fo_callV (As := [.ref 91, .int (3 : Int32)]) (rest := []) rfl rfl rfl rfl True.intro (c_X7_takeRow LS xs d (by omega) _ _ rfl _) (fun qx5 => ?_)
  refine fo_st rfl rfl ?_
  refine fo_get rfl (eg_7 _) rfl ?_
  refine fo_st rfl rfl ?_
  refine fo_callV (As := [.ref 92, .int (27 : Int32)]) (rest := []) rfl rfl rfl rfl True.intro (c_X7_takeRow LS xs d (by omega) _ _ rfl _) (fun qx6 => ?_)
  refine fo_st rfl rfl ?_
  refine fo_get rfl (eg_7 _) rfl ?_
  refine fo_st rfl rfl ?_
  refine fo_callV (As := [.ref 93, .int (120 : Int32)]) (rest := []) rfl rfl rfl rfl True.intro (c_X7_takeRow LS xs d (by omega) _ _ rfl _) (fun qx7 => ?_)
  refine fo_st rfl rfl ?_
  refine fo_get rfl (eg_7 _) rfl ?_
  refine fo_st rfl rfl ?_
  refine fo_callV (As := [.ref 94, .int (120 : Int32)]) (rest := []) rfl rfl rfl rfl True.intro (c_X7_takeRow LS xs d (by omega) _ _ rfl _) (fun qx8 => ?_)
  refine fo_st rfl rfl ?_
  refine fo_get rfl (eg_7 _) rfl ?_
  refine fo_st rfl rfl ?_
  refine fo_callV (As := [.ref 95, .int (1080 : Int32)]) (rest := []) rfl rfl rfl rfl True.intro (c_X7_takeRow LS xs d (by omega) _ _ rfl _) (fun qx9 => ?_)
  refine fo_st rfl rfl ?_
  refine fo_get rfl (eg_7 _) rfl ?_
  refine fo_st rfl rfl ?_
  refine fo_callV (As := [.ref 98, .int (6300 : Int32)]) (rest := []) rfl rfl rfl rfl True.intro (c_X7_takeRow LS xs d (by omega) _ _ rfl _) (fun qx10 => ?_)
  refine fo_st rfl rfl ?_
  refine fo_get rfl (eg_7 _) rfl ?_
  refine fo_st rfl rfl ?_
  refine fo_callV (As := [.ref 100, .int (601 : Int32)]) (rest := []) rfl rfl rfl rfl True.intro (c_X7_takeRow LS xs d (by omega) _ _ rfl _) (fun qx11 => ?_)
  exact fo_ret rfl rfl rfl
def f_X7_takeOver  (s : fS) : Option fS := f_X7_takeOver_0 s
theorem c_X7_takeOver (LS : Nat) (xs : Nat → Int32) (d : Nat) (hd : 2 ≤ d)   (s : fS) : fm mi_ms cvV LS xs d 125 [.ref 82] (enc s) (f_X7_takeOver  s) := by
  obtain ⟨e, rfl⟩ : ∃ e, d = e + 1 := ⟨d - 1, by omega⟩
  exact fm_of (M := m_X7_takeOver) rfl rfl (fun _ => ⟨_, rfl⟩) (g_X7_takeOver_0 LS xs e (by omega) s)
def f_X7_lie_94   (l1 : Int32) (l2 : Int32) (s : fS) : Option fS := some s
theorem g_X7_lie_94 (LS : Nat) (xs : Nat → Int32) (d : Nat) (hd : 1 ≤ d)     (l1 : Int32) (l2 : Int32)  (s : fS) : fo cvV t_X7_lie LS xs (mi_call mi_ms false LS xs d) (94, [some (.ref 82), some (.int l1), some (.int l2)], [], enc s) (f_X7_lie_94 l1 l2 s) := by
  unfold f_X7_lie_94
  exact fo_ret rfl rfl rfl
def f_X7_lie_58   : Nat → Int32 → Int32 → fS → Option fS
  | 0, _, _, _ => none
  | n + 1, l1, l2, s => (bif decide ((gI s 82 29) ≤ 0) then f_X7_lie_94 l1 l2 s else fchk (mi_in ((gI s 82 29) - (1 : Int32)) (gA s 83).length) ((bif decide (((gA s 83).getD ((gI s 82 29) - (1 : Int32)).toNatClampNeg 0) = (10 : Int32)) then f_X7_lie_94 l1 l2 s else f_X7_lie_58 n l1 l2 (sI s 82 29 ((gI s 82 29) - (1 : Int32))))))
theorem g_X7_lie_58 (LS : Nat) (xs : Nat → Int32) (d : Nat) (hd : 1 ≤ d)     (n : Nat) : ∀ (l1 : Int32) (l2 : Int32) (s : fS), fo cvV t_X7_lie LS xs (mi_call mi_ms false LS xs d) (58, [some (.ref 82), some (.int l1), some (.int l2)], [], enc s) (f_X7_lie_58 n l1 l2 s) := by
  induction n with
  | zero => intro l1 l2 s; exact fo_none
  | succ n ih =>
    intro l1 l2 s
    rw [f_X7_lie_58]
    refine fo_st rfl rfl ?_
    refine fo_get rfl (eg_7 _) rfl ?_
    refine fo_b rfl rfl ?_ ?_
    · exact g_X7_lie_94 LS xs d hd _ _ _
    · refine fo_st rfl rfl ?_
      refine fo_get rfl (eg_7 _) rfl ?_
      refine fo_st rfl rfl ?_
      refine fo_get rfl (eg_7 _) rfl ?_
      refine fo_st rfl rfl ?_
      refine fo_st rfl rfl ?_
      refine fo_iald rfl (eg_ar _ rfl) ?_
      refine fo_st rfl rfl ?_
      refine fo_b rfl rfl ?_ ?_
      · exact g_X7_lie_94 LS xs d hd _ _ _
      · refine fo_st rfl rfl ?_
        refine fo_st rfl rfl ?_
        refine fo_get rfl (eg_7 _) rfl ?_
        refine fo_st rfl rfl ?_
        refine fo_st rfl rfl ?_
        refine fo_put rfl (eg_7 _) rfl rfl (es_7_29 _ _) ?_
        refine fo_st rfl rfl ?_
        exact ih _ _ _
def f_X7_lie_0   (l1 : Int32) (l2 : Int32) (s : fS) : Option fS := (bif decide (¬ (gI s 82 30) = 0) then f_X7_lie_94 l1 l2 s else (bif decide ((gI s 82 35) = 0) then f_X7_lie_94 l1 l2 s else fchk (mi_in ((2 : Int32) + l2) (gA s 101).length) ((bif decide (((gA s 101).getD ((2 : Int32) + l2).toNatClampNeg 0) = l1) then f_X7_lie_94 l1 l2 s else fchk (mi_in l2 (gA s 104).length) (((f_X7_wrong (7 : Int32) ((gA s 104).getD l2.toNatClampNeg 0) s).bind fun qx1 => fchk (mi_in l2 (gA qx1 105).length) (fchk (mi_in l2 (gA qx1 104).length) (f_X7_lie_58 fuel l1 l2 (sI (sI qx1 82 28 ((gA qx1 105).getD l2.toNatClampNeg 0)) 82 29 ((gA qx1 104).getD l2.toNatClampNeg 0))))))))))
theorem g_X7_lie_0 (LS : Nat) (xs : Nat → Int32) (d : Nat) (hd : 1 ≤ d)     (l1 : Int32) (l2 : Int32)  (s : fS) : fo cvV t_X7_lie LS xs (mi_call mi_ms false LS xs d) (0, [some (.ref 82), some (.int l1), some (.int l2)], [], enc s) (f_X7_lie_0 l1 l2 s) := by
  unfold f_X7_lie_0
  refine fo_st rfl rfl ?_
  refine fo_get rfl (eg_7 _) rfl ?_
  refine fo_b rfl rfl ?_ ?_
  · exact g_X7_lie_94 LS xs d hd _ _ _
  · refine fo_st rfl rfl ?_
    refine fo_get rfl (eg_7 _) rfl ?_
    refine fo_b rfl rfl ?_ ?_
    · exact g_X7_lie_94 LS xs d hd _ _ _
    · refine fo_st rfl rfl ?_
      refine fo_get rfl (eg_7 _) rfl ?_
      refine fo_st rfl rfl ?_
      refine fo_st rfl rfl ?_
      refine fo_st rfl rfl ?_
      refine fo_iald rfl (eg_ar _ rfl) ?_
      refine fo_st rfl rfl ?_
      refine fo_b rfl rfl ?_ ?_
      · exact g_X7_lie_94 LS xs d hd _ _ _
      · refine fo_st rfl rfl ?_
        refine fo_st rfl rfl ?_
        refine fo_st rfl rfl ?_
        refine fo_get rfl (eg_7 _) rfl ?_
        refine fo_st rfl rfl ?_
        refine fo_iald rfl (eg_ar _ rfl) ?_
        refine fo_callV (As := [.ref 82, .int (7 : Int32), .int ((gA s 104).getD l2.toNatClampNeg 0)]) (rest := []) rfl rfl rfl rfl (mi_rcv_of (eg_7 _)) (c_X7_wrong LS xs d (by omega) _ _ _) (fun qx1 => ?_)
        refine fo_st rfl rfl ?_
        refine fo_st rfl rfl ?_
        refine fo_get rfl (eg_7 _) rfl ?_
        refine fo_st rfl rfl ?_
        refine fo_iald rfl (eg_ar _ rfl) ?_
        refine fo_put rfl (eg_7 _) rfl rfl (es_7_28 _ _) ?_
        refine fo_st rfl rfl ?_
        refine fo_st rfl rfl ?_
        refine fo_get rfl (eg_7 _) rfl ?_
        refine fo_st rfl rfl ?_
        refine fo_iald rfl (eg_ar _ rfl) ?_
        refine fo_put rfl (eg_7 _) rfl rfl (es_7_29 _ _) ?_
        exact g_X7_lie_58 LS xs d hd fuel _ _ _
def f_X7_lie (l1 : Int32) (l2 : Int32) (s : fS) : Option fS := f_X7_lie_0 l1 l2 s
theorem c_X7_lie (LS : Nat) (xs : Nat → Int32) (d : Nat) (hd : 2 ≤ d) (l1 : Int32) (l2 : Int32)  (s : fS) : fm mi_ms cvV LS xs d 128 [.ref 82, .int l1, .int l2] (enc s) (f_X7_lie l1 l2 s) := by
  obtain ⟨e, rfl⟩ : ∃ e, d = e + 1 := ⟨d - 1, by omega⟩
  exact fm_of (M := m_X7_lie) rfl rfl (fun _ => ⟨_, rfl⟩) (g_X7_lie_0 LS xs e (by omega) l1 l2 s)
end FM9
