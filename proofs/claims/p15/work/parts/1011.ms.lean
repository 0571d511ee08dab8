section FM11
def f_X7_sign__29   (l1 : Int32) (l2 : Int32) (l3 : Int32) (s : fS) : Option (Int32 × fS) := some ((-101 : Int32), s)
theorem g_X7_sign__29 (LS : Nat) (xs : Nat → Int32) (d : Nat) (hd : 2 ≤ d)     (l1 : Int32) (l2 : Int32) (l3 : Int32)  (s : fS) : fo cvI t_X7_sign_ LS xs (mi_call mi_ms false LS xs d) (29, [some (.ref 82), some (.int l1), some (.int l2), some (.int l3), none], [], enc s) (f_X7_sign__29 l1 l2 l3 s) := by
  unfold f_X7_sign__29
  refine fo_st rfl rfl ?_
  exact fo_ret rfl rfl rfl
def f_X7_sign__121   (l1 : Int32) (l2 : Int32) (l3 : Int32) (l4 : Int32) (t0 : Int32) (s : fS) : Option (Int32 × fS) := some (t0, s)
theorem g_X7_sign__121 (LS : Nat) (xs : Nat → Int32) (d : Nat) (hd : 2 ≤ d)     (l1 : Int32) (l2 : Int32) (l3 : Int32) (l4 : Int32) (t0 : Int32)  (s : fS) : fo cvI t_X7_sign_ LS xs (mi_call mi_ms false LS xs d) (121, [some (.ref 82), some (.int l1), some (.int l2), some (.int l3), some (.int l4)], [.int t0], enc s) (f_X7_sign__121 l1 l2 l3 l4 t0 s) := by
  unfold f_X7_sign__121
  exact fo_ret rfl rfl rfl
def f_X7_sign__93   (l1 : Int32) (l2 : Int32) (l3 : Int32) (l4 : Int32) (t0 : Int32) (s : fS) : Option (Int32 × fS) := (bif decide (t0 ≤ 0) then fchk (mi_in ((((9 : Int32) * l4) + (1 : Int32)) + l3) (gA s 95).length) (f_X7_sign__121 l1 l2 l3 l4 ((gA s 95).getD ((((9 : Int32) * l4) + (1 : Int32)) + l3).toNatClampNeg 0) (sI s 82 0 t0)) else f_X7_sign__121 l1 l2 l3 l4 (0 : Int32) (sI s 82 0 t0))
theorem g_X7_sign__93 (LS : Nat) (xs : Nat → Int32) (d : Nat) (hd : 2 ≤ d)     (l1 : Int32) (l2 : Int32) (l3 : Int32) (l4 : Int32) (t0 : Int32)  (s : fS) : fo cvI t_X7_sign_ LS xs (mi_call mi_ms false LS xs d) (93, [some (.ref 82), some (.int l1), some (.int l2), some (.int l3), some (.int l4)], [.int t0, .ref 82], enc s) (f_X7_sign__93 l1 l2 l3 l4 t0 s) := by
  unfold f_X7_sign__93
  refine fo_put rfl (eg_7 _) rfl rfl (es_7_0 _ _) ?_
  refine fo_st rfl rfl ?_
  refine fo_get rfl (eg_7 _) rfl ?_
  refine fo_b rfl rfl ?_ ?_
  · refine fo_st rfl rfl ?_
    refine fo_get rfl (eg_7 _) rfl ?_
    refine fo_st rfl rfl ?_
    refine fo_st rfl rfl ?_
    refine fo_st rfl rfl ?_
    refine fo_st rfl rfl ?_
    refine fo_st rfl rfl ?_
    refine fo_st rfl rfl ?_
    refine fo_st rfl rfl ?_
    refine fo_iald rfl (eg_ar _ rfl) ?_
    exact g_X7_sign__121 LS xs d hd _ _ _ _ _ _
  · refine fo_st rfl rfl ?_
    refine fo_st rfl rfl ?_
    exact g_X7_sign__121 LS xs d hd _ _ _ _ _ _
def f_X7_sign__0   (l1 : Int32) (l2 : Int32) (l3 : Int32) (s : fS) : Option (Int32 × fS) := fchk (mi_in (0 : Int32) (gA s 86).length) (((f_X7_in l1 (0 : Int32) (((gA s 86).getD (0 : Int32).toNatClampNeg 0) - (1 : Int32)) (sI s 82 0 (0 : Int32))).bind fun qx1 => (bif decide (qx1.1 = 0) then f_X7_sign__29 l1 l2 l3 qx1.2 else ((f_X7_isColumn l2 qx1.2).bind fun qx2 => (bif decide (¬ qx2.1 = 0) then fchk (mi_in (((3 : Int32) * l1) + l2) (gA qx2.2 93).length) ((bif decide (¬ ((gA qx2.2 93).getD (((3 : Int32) * l1) + l2).toNatClampNeg 0) = 0) then fchk (mi_in l2 (gA qx2.2 91).length) ((bif decide ((2 : Int32) ≤ ((gA qx2.2 91).getD l2.toNatClampNeg 0)) then fchk (mi_in ((9 : Int32) * (((3 : Int32) * l1) + l2)) (gA qx2.2 95).length) (((f_X7_in l3 (0 : Int32) (((gA qx2.2 95).getD ((9 : Int32) * (((3 : Int32) * l1) + l2)).toNatClampNeg 0) - (1 : Int32)) qx2.2).bind fun qx3 => (bif decide (qx3.1 = 0) then f_X7_sign__93 l1 l2 l3 (((3 : Int32) * l1) + l2) (3 : Int32) qx3.2 else f_X7_sign__93 l1 l2 l3 (((3 : Int32) * l1) + l2) (0 : Int32) qx3.2))) else f_X7_sign__93 l1 l2 l3 (((3 : Int32) * l1) + l2) (2 : Int32) qx2.2)) else f_X7_sign__93 l1 l2 l3 (((3 : Int32) * l1) + l2) (1 : Int32) qx2.2)) else f_X7_sign__29 l1 l2 l3 qx2.2)))))
theorem g_X7_sign__0 (LS : Nat) (xs : Nat → Int32) (d : Nat) (hd : 2 ≤ d)     (l1 : Int32) (l2 : Int32) (l3 : Int32)  (s : fS) : fo cvI t_X7_sign_ LS xs (mi_call mi_ms false LS xs d) (0, [some (.ref 82), some (.int l1), some (.int l2), some (.int l3), none], [], enc s) (f_X7_sign__0 l1 l2 l3 s) := by
  unfold f_X7_sign__0
  refine fo_st rfl rfl ?_
  refine fo_st rfl rfl ?_
  refine fo_put rfl (eg_7 _) rfl rfl (es_7_0 _ _) ?_
  refine fo_st rfl rfl ?_
  refine fo_st rfl rfl ?_
  refine fo_st rfl rfl ?_
  refine fo_get rfl (eg_7 _) rfl ?_
  refine fo_st rfl rfl ?_
  refine fo_iald rfl (eg_ar _ rfl) ?_
  refine fo_st rfl rfl ?_
  refine fo_st rfl rfl ?_
  refine fo_callI (As := [.int l1, .int (0 : Int32), .int (((gA s 86).getD (0 : Int32).toNatClampNeg 0) - (1 : Int32))]) (rest := []) rfl rfl rfl rfl True.intro (c_X7_in LS xs d (by omega) _ _ _ _) (fun qx1 => ?_)
  refine fo_b rfl rfl ?_ ?_
  · exact g_X7_sign__29 LS xs d hd _ _ _ _
  · refine fo_st rfl rfl ?_
    refine fo_st rfl rfl ?_
    refine fo_callI (As := [.ref 82, .int l2]) (rest := []) rfl rfl rfl rfl (mi_rcv_of (eg_7 _)) (c_X7_isColumn LS xs d (by omega) _ _) (fun qx2 => ?_)
    refine fo_b rfl rfl ?_ ?_
    · refine fo_st rfl rfl ?_
      refine fo_st rfl rfl ?_
      refine fo_st rfl rfl ?_
      refine fo_st rfl rfl ?_
      refine fo_st rfl rfl ?_
      refine fo_st rfl rfl ?_
      refine fo_st rfl rfl ?_
      refine fo_st rfl rfl ?_
      refine fo_get rfl (eg_7 _) rfl ?_
      refine fo_st rfl rfl ?_
      refine fo_iald rfl (eg_ar _ rfl) ?_
      refine fo_b rfl rfl ?_ ?_
      · refine fo_st rfl rfl ?_
        refine fo_get rfl (eg_7 _) rfl ?_
        refine fo_st rfl rfl ?_
        refine fo_iald rfl (eg_ar _ rfl) ?_
        refine fo_st rfl rfl ?_
        refine fo_b rfl rfl ?_ ?_
        · refine fo_st rfl rfl ?_
          refine fo_st rfl rfl ?_
          refine fo_st rfl rfl ?_
          refine fo_get rfl (eg_7 _) rfl ?_
          refine fo_st rfl rfl ?_
          refine fo_st rfl rfl ?_
          refine fo_st rfl rfl ?_
          refine fo_iald rfl (eg_ar _ rfl) ?_
          refine fo_st rfl rfl ?_
          refine fo_st rfl rfl ?_
          refine fo_callI (As := [.int l3, .int (0 : Int32), .int (((gA qx2.2 95).getD ((9 : Int32) * (((3 : Int32) * l1) + l2)).toNatClampNeg 0) - (1 : Int32))]) (rest := [.ref 82]) rfl rfl rfl rfl True.intro (c_X7_in LS xs d (by omega) _ _ _ _) (fun qx3 => ?_)
          refine fo_b rfl rfl ?_ ?_
          · refine fo_st rfl rfl ?_
            exact g_X7_sign__93 LS xs d hd _ _ _ _ _ _
          · refine fo_st rfl rfl ?_
            refine fo_st rfl rfl ?_
            exact g_X7_sign__93 LS xs d hd _ _ _ _ _ _
        · refine fo_st rfl rfl ?_
          refine fo_st rfl rfl ?_
          exact g_X7_sign__93 LS xs d hd _ _ _ _ _ _
      · refine fo_st rfl rfl ?_
        refine fo_st rfl rfl ?_
        exact g_X7_sign__93 LS xs d hd _ _ _ _ _ _
    · exact g_X7_sign__29 LS xs d hd _ _ _ _
def f_X7_sign_ (l1 : Int32) (l2 : Int32) (l3 : Int32) (s : fS) : Option (Int32 × fS) := f_X7_sign__0 l1 l2 l3 s
theorem c_X7_sign_ (LS : Nat) (xs : Nat → Int32) (d : Nat) (hd : 3 ≤ d) (l1 : Int32) (l2 : Int32) (l3 : Int32)  (s : fS) : fm mi_ms cvI LS xs d 138 [.ref 82, .int l1, .int l2, .int l3] (enc s) (f_X7_sign_ l1 l2 l3 s) := by
  obtain ⟨e, rfl⟩ : ∃ e, d = e + 1 := ⟨d - 1, by omega⟩
  exact fm_of (M := m_X7_sign_) rfl rfl (fun _ => ⟨_, rfl⟩) (g_X7_sign__0 LS xs e (by omega) l1 l2 l3 s)
def f_X7_comment_76   (l1 : Int32) (l2 : Int32) (t0 : Int32) (s : fS) : Option (Int32 × fS) := some (t0, s)
theorem g_X7_comment_76 (LS : Nat) (xs : Nat → Int32) (d : Nat) (hd : 1 ≤ d)     (l1 : Int32) (l2 : Int32) (t0 : Int32)  (s : fS) : fo cvI t_X7_comment LS xs (mi_call mi_ms false LS xs d) (76, [some (.ref 82), some (.int l1), some (.int l2)], [.int t0], enc s) (f_X7_comment_76 l1 l2 t0 s) := by
  unfold f_X7_comment_76
  exact fo_ret rfl rfl rfl
def f_X7_comment_49   (l1 : Int32) (l2 : Int32) (t0 : Int32) (s : fS) : Option (Int32 × fS) := (bif decide (t0 ≤ 0) then fchk (mi_in ((((21 : Int32) * l1) + (1 : Int32)) + l2) (gA s 98).length) (f_X7_comment_76 l1 l2 ((gA s 98).getD ((((21 : Int32) * l1) + (1 : Int32)) + l2).toNatClampNeg 0) (sI s 82 0 t0)) else f_X7_comment_76 l1 l2 (0 : Int32) (sI s 82 0 t0))
theorem g_X7_comment_49 (LS : Nat) (xs : Nat → Int32) (d : Nat) (hd : 1 ≤ d)     (l1 : Int32) (l2 : Int32) (t0 : Int32)  (s : fS) : fo cvI t_X7_comment LS xs (mi_call mi_ms false LS xs d) (49, [some (.ref 82), some (.int l1), some (.int l2)], [.int t0, .ref 82], enc s) (f_X7_comment_49 l1 l2 t0 s) := by
  unfold f_X7_comment_49
  refine fo_put rfl (eg_7 _) rfl rfl (es_7_0 _ _) ?_
  refine fo_st rfl rfl ?_
  refine fo_get rfl (eg_7 _) rfl ?_
  refine fo_b rfl rfl ?_ ?_
  · refine fo_st rfl rfl ?_
    refine fo_get rfl (eg_7 _) rfl ?_
    refine fo_st rfl rfl ?_
    refine fo_st rfl rfl ?_
    refine fo_st rfl rfl ?_
    refine fo_st rfl rfl ?_
    refine fo_st rfl rfl ?_
    refine fo_st rfl rfl ?_
    refine fo_st rfl rfl ?_
    refine fo_iald rfl (eg_ar _ rfl) ?_
    exact g_X7_comment_76 LS xs d hd _ _ _ _
  · refine fo_st rfl rfl ?_
    refine fo_st rfl rfl ?_
    exact g_X7_comment_76 LS xs d hd _ _ _ _
def f_X7_comment_0   (l1 : Int32) (l2 : Int32) (s : fS) : Option (Int32 × fS) := fchk (mi_in (0 : Int32) (gA s 97).length) (((f_X7_in l1 (0 : Int32) (((gA s 97).getD (0 : Int32).toNatClampNeg 0) - (1 : Int32)) (sI s 82 0 (0 : Int32))).bind fun qx1 => (bif decide (¬ qx1.1 = 0) then fchk (mi_in ((21 : Int32) * l1) (gA qx1.2 98).length) (((f_X7_in l2 (0 : Int32) (((gA qx1.2 98).getD ((21 : Int32) * l1).toNatClampNeg 0) - (1 : Int32)) qx1.2).bind fun qx2 => (bif decide (qx2.1 = 0) then f_X7_comment_49 l1 l2 (1 : Int32) qx2.2 else f_X7_comment_49 l1 l2 (0 : Int32) qx2.2))) else some ((-101 : Int32), qx1.2))))
theorem g_X7_comment_0 (LS : Nat) (xs : Nat → Int32) (d : Nat) (hd : 1 ≤ d)     (l1 : Int32) (l2 : Int32)  (s : fS) : fo cvI t_X7_comment LS xs (mi_call mi_ms false LS xs d) (0, [some (.ref 82), some (.int l1), some (.int l2)], [], enc s) (f_X7_comment_0 l1 l2 s) := by
  unfold f_X7_comment_0
  refine fo_st rfl rfl ?_
  refine fo_st rfl rfl ?_
  refine fo_put rfl (eg_7 _) rfl rfl (es_7_0 _ _) ?_
  refine fo_st rfl rfl ?_
  refine fo_st rfl rfl ?_
  refine fo_st rfl rfl ?_
  refine fo_get rfl (eg_7 _) rfl ?_
  refine fo_st rfl rfl ?_
  refine fo_iald rfl (eg_ar _ rfl) ?_
  refine fo_st rfl rfl ?_
  refine fo_st rfl rfl ?_
  refine fo_callI (As := [.int l1, .int (0 : Int32), .int (((gA s 97).getD (0 : Int32).toNatClampNeg 0) - (1 : Int32))]) (rest := []) rfl rfl rfl rfl True.intro (c_X7_in LS xs d (by omega) _ _ _ _) (fun qx1 => ?_)
  refine fo_b rfl rfl ?_ ?_
  · refine fo_st rfl rfl ?_
    refine fo_st rfl rfl ?_
    refine fo_st rfl rfl ?_
    refine fo_st rfl rfl ?_
    refine fo_get rfl (eg_7 _) rfl ?_
    refine fo_st rfl rfl ?_
    refine fo_st rfl rfl ?_
    refine fo_st rfl rfl ?_
    refine fo_iald rfl (eg_ar _ rfl) ?_
    refine fo_st rfl rfl ?_
    refine fo_st rfl rfl ?_
    refine fo_callI (As := [.int l2, .int (0 : Int32), .int (((gA qx1.2 98).getD ((21 : Int32) * l1).toNatClampNeg 0) - (1 : Int32))]) (rest := [.ref 82]) rfl rfl rfl rfl True.intro (c_X7_in LS xs d (by omega) _ _ _ _) (fun qx2 => ?_)
    refine fo_b rfl rfl ?_ ?_
    · refine fo_st rfl rfl ?_
      exact g_X7_comment_49 LS xs d hd _ _ _ _
    · refine fo_st rfl rfl ?_
      refine fo_st rfl rfl ?_
      exact g_X7_comment_49 LS xs d hd _ _ _ _
  · refine fo_st rfl rfl ?_
    exact fo_ret rfl rfl rfl
def f_X7_comment (l1 : Int32) (l2 : Int32) (s : fS) : Option (Int32 × fS) := f_X7_comment_0 l1 l2 s
theorem c_X7_comment (LS : Nat) (xs : Nat → Int32) (d : Nat) (hd : 2 ≤ d) (l1 : Int32) (l2 : Int32)  (s : fS) : fm mi_ms cvI LS xs d 139 [.ref 82, .int l1, .int l2] (enc s) (f_X7_comment l1 l2 s) := by
  obtain ⟨e, rfl⟩ : ∃ e, d = e + 1 := ⟨d - 1, by omega⟩
  exact fm_of (M := m_X7_comment) rfl rfl (fun _ => ⟨_, rfl⟩) (g_X7_comment_0 LS xs e (by omega) l1 l2 s)
def f_X7_put_0   (l1 : Int32) (s : fS) : Option fS := fchk (mi_in (gI s 82 26) (gA s 102).length) (some (sI (sA s 102 ((gA s 102).set (gI s 82 26).toNatClampNeg l1)) 82 26 ((gI s 82 26) + (1 : Int32))))
theorem g_X7_put_0 (LS : Nat) (xs : Nat → Int32) (d : Nat) (hd : 0 ≤ d)     (l1 : Int32)  (s : fS) : fo cvV t_X7_put LS xs (mi_call mi_ms false LS xs d) (0, [some (.ref 82), some (.int l1)], [], enc s) (f_X7_put_0 l1 s) := by
  unfold f_X7_put_0
  refine fo_st rfl rfl ?_
  refine fo_get rfl (eg_7 _) rfl ?_
  refine fo_st rfl rfl ?_
  refine fo_get rfl (eg_7 _) rfl ?_
  refine fo_st rfl rfl ?_
  refine fo_iast rfl (eg_ar _ rfl) (es_ar _ rfl _) ?_
  refine fo_st rfl rfl ?_
  refine fo_st rfl rfl ?_
  refine fo_get rfl (eg_7 _) rfl ?_
  refine fo_st rfl rfl ?_
  refine fo_st rfl rfl ?_
  refine fo_put rfl (eg_7 _) rfl rfl (es_7_26 _ _) ?_
  exact fo_ret rfl rfl rfl
def f_X7_put (l1 : Int32) (s : fS) : Option fS := f_X7_put_0 l1 s
theorem c_X7_put (LS : Nat) (xs : Nat → Int32) (d : Nat) (hd : 1 ≤ d) (l1 : Int32)  (s : fS) : fm mi_ms cvV LS xs d 140 [.ref 82, .int l1] (enc s) (f_X7_put l1 s) := by
  obtain ⟨e, rfl⟩ : ∃ e, d = e + 1 := ⟨d - 1, by omega⟩
  exact fm_of (M := m_X7_put) rfl rfl (fun _ => ⟨_, rfl⟩) (g_X7_put_0 LS xs e (by omega) l1 s)
def f_X7_putName_116 (a1 : Nat)  (l2 : Int32) (l3 : Int32) (l4 : Int32) (s : fS) : Option fS := some s
theorem g_X7_putName_116 (LS : Nat) (xs : Nat → Int32) (d : Nat) (hd : 3 ≤ d) (a1 : Nat) (h1 : isAr a1 = true)   (l2 : Int32) (l3 : Int32) (l4 : Int32)  (s : fS) : fo cvV t_X7_putName LS xs (mi_call mi_ms false LS xs d) (116, [some (.ref 82), some (.ref a1), some (.int l2), some (.int l3), some (.int l4)], [], enc s) (f_X7_putName_116 a1 l2 l3 l4 s) := by
  unfold f_X7_putName_116
  exact fo_ret rfl rfl rfl
def f_X7_putName_90 (a1 : Nat) (r54 : Int32 → Int32 → Int32 → fS → Option fS) (l2 : Int32) (l3 : Int32) (l4 : Int32) (s : fS) : Option fS := fchk (mi_in (l2 + l4) (gA s a1).length) (((f_X7_put ((gA s a1).getD (l2 + l4).toNatClampNeg 0) s).bind fun qx1 => r54 l2 l3 (l4 + Int32.ofInt (1)) qx1))
theorem g_X7_putName_90 (LS : Nat) (xs : Nat → Int32) (d : Nat) (hd : 3 ≤ d) (a1 : Nat) (h1 : isAr a1 = true) (r54 : Int32 → Int32 → Int32 → fS → Option fS) (q54 : ∀ (l2 : Int32) (l3 : Int32) (l4 : Int32) (s : fS), fo cvV t_X7_putName LS xs (mi_call mi_ms false LS xs d) (54, [some (.ref 82), some (.ref a1), some (.int l2), some (.int l3), some (.int l4)], [], enc s) (r54 l2 l3 l4 s)) (l2 : Int32) (l3 : Int32) (l4 : Int32)  (s : fS) : fo cvV t_X7_putName LS xs (mi_call mi_ms false LS xs d) (90, [some (.ref 82), some (.ref a1), some (.int l2), some (.int l3), some (.int l4)], [], enc s) (f_X7_putName_90 a1 r54 l2 l3 l4 s) := by
  unfold f_X7_putName_90
  refine fo_st rfl rfl ?_
  refine fo_st rfl rfl ?_
  refine fo_st rfl rfl ?_
  refine fo_st rfl rfl ?_
  refine fo_st rfl rfl ?_
  refine fo_iald rfl (eg_ar _ h1) ?_
  refine fo_callV (As := [.ref 82, .int ((gA s a1).getD (l2 + l4).toNatClampNeg 0)]) (rest := []) rfl rfl rfl rfl (mi_rcv_of (eg_7 _)) (c_X7_put LS xs d (by omega) _ _) (fun qx1 => ?_)
  refine fo_st rfl rfl ?_
  refine fo_st rfl rfl ?_
  exact q54 _ _ _ _
def f_X7_putName_84 (a1 : Nat) (r54 : Int32 → Int32 → Int32 → fS → Option fS) (l2 : Int32) (l3 : Int32) (l4 : Int32) (s : fS) : Option fS := ((f_X7_put (92 : Int32) s).bind fun qx1 => f_X7_putName_90 a1 r54 l2 l3 l4 qx1)
theorem g_X7_putName_84 (LS : Nat) (xs : Nat → Int32) (d : Nat) (hd : 3 ≤ d) (a1 : Nat) (h1 : isAr a1 = true) (r54 : Int32 → Int32 → Int32 → fS → Option fS) (q54 : ∀ (l2 : Int32) (l3 : Int32) (l4 : Int32) (s : fS), fo cvV t_X7_putName LS xs (mi_call mi_ms false LS xs d) (54, [some (.ref 82), some (.ref a1), some (.int l2), some (.int l3), some (.int l4)], [], enc s) (r54 l2 l3 l4 s)) (l2 : Int32) (l3 : Int32) (l4 : Int32)  (s : fS) : fo cvV t_X7_putName LS xs (mi_call mi_ms false LS xs d) (84, [some (.ref 82), some (.ref a1), some (.int l2), some (.int l3), some (.int l4)], [], enc s) (f_X7_putName_84 a1 r54 l2 l3 l4 s) := by
  unfold f_X7_putName_84
  refine fo_st rfl rfl ?_
  refine fo_st rfl rfl ?_
  refine fo_callV (As := [.ref 82, .int (92 : Int32)]) (rest := []) rfl rfl rfl rfl (mi_rcv_of (eg_7 _)) (c_X7_put LS xs d (by omega) _ _) (fun qx1 => ?_)
  exact g_X7_putName_90 LS xs d hd a1 h1 _ q54 _ _ _ _
def f_X7_putName_54 (a1 : Nat)  : Nat → Int32 → Int32 → Int32 → fS → Option fS
  | 0, _, _, _, _ => none
  | n + 1, l2, l3, l4, s => fchk (mi_in l2 (gA s a1).length) ((bif decide (((gA s a1).getD l2.toNatClampNeg 0) < l4) then (bif decide (¬ l3 = 0) then f_X7_putName_116 a1 l2 l3 l4 s else ((f_X7_put (34 : Int32) s).bind fun qx1 => f_X7_putName_116 a1 l2 l3 l4 qx1)) else fchk (mi_in (l2 + l4) (gA s a1).length) ((bif decide (((gA s a1).getD (l2 + l4).toNatClampNeg 0) = (34 : Int32)) then f_X7_putName_84 a1 (fun l2' l3' l4' s' => f_X7_putName_54 a1 n l2' l3' l4' s') l2 l3 l4 s else fchk (mi_in (l2 + l4) (gA s a1).length) ((bif decide (¬ ((gA s a1).getD (l2 + l4).toNatClampNeg 0) = (92 : Int32)) then f_X7_putName_90 a1 (fun l2' l3' l4' s' => f_X7_putName_54 a1 n l2' l3' l4' s') l2 l3 l4 s else f_X7_putName_84 a1 (fun l2' l3' l4' s' => f_X7_putName_54 a1 n l2' l3' l4' s') l2 l3 l4 s))))))
theorem g_X7_putName_54 (LS : Nat) (xs : Nat → Int32) (d : Nat) (hd : 3 ≤ d) (a1 : Nat) (h1 : isAr a1 = true)   (n : Nat) : ∀ (l2 : Int32) (l3 : Int32) (l4 : Int32) (s : fS), fo cvV t_X7_putName LS xs (mi_call mi_ms false LS xs d) (54, [some (.ref 82), some (.ref a1), some (.int l2), some (.int l3), some (.int l4)], [], enc s) (f_X7_putName_54 a1 n l2 l3 l4 s) := by
  induction n with
  | zero => intro l2 l3 l4 s; exact fo_none
  | succ n ih =>
    intro l2 l3 l4 s
    rw [f_X7_putName_54]
    refine fo_st rfl rfl ?_
    refine fo_st rfl rfl ?_
    refine fo_st rfl rfl ?_
    refine fo_iald rfl (eg_ar _ h1) ?_
    refine fo_b rfl rfl ?_ ?_
    · refine fo_st rfl rfl ?_
      refine fo_b rfl rfl ?_ ?_
      · exact g_X7_putName_116 LS xs d hd a1 h1 _ _ _ _
      · refine fo_st rfl rfl ?_
        refine fo_st rfl rfl ?_
        refine fo_callV (As := [.ref 82, .int (34 : Int32)]) (rest := []) rfl rfl rfl rfl (mi_rcv_of (eg_7 _)) (c_X7_put LS xs d (by omega) _ _) (fun qx1 => ?_)
        exact g_X7_putName_116 LS xs d hd a1 h1 _ _ _ _
    · refine fo_st rfl rfl ?_
      refine fo_st rfl rfl ?_
      refine fo_st rfl rfl ?_
      refine fo_st rfl rfl ?_
      refine fo_iald rfl (eg_ar _ h1) ?_
      refine fo_st rfl rfl ?_
      refine fo_b rfl rfl ?_ ?_
      · exact g_X7_putName_84 LS xs d hd a1 h1 _ ih _ _ _ _
      · refine fo_st rfl rfl ?_
        refine fo_st rfl rfl ?_
        refine fo_st rfl rfl ?_
        refine fo_st rfl rfl ?_
        refine fo_iald rfl (eg_ar _ h1) ?_
        refine fo_st rfl rfl ?_
        refine fo_b rfl rfl ?_ ?_
        · exact g_X7_putName_90 LS xs d hd a1 h1 _ ih _ _ _ _
        · exact g_X7_putName_84 LS xs d hd a1 h1 _ ih _ _ _ _
def f_X7_putName_51 (a1 : Nat)  (l2 : Int32) (l3 : Int32) (l4 : Int32) (s : fS) : Option fS := f_X7_putName_54 a1 fuel l2 l3 (1 : Int32) s
theorem g_X7_putName_51 (LS : Nat) (xs : Nat → Int32) (d : Nat) (hd : 3 ≤ d) (a1 : Nat) (h1 : isAr a1 = true)   (l2 : Int32) (l3 : Int32) (l4 : Int32)  (s : fS) : fo cvV t_X7_putName LS xs (mi_call mi_ms false LS xs d) (51, [some (.ref 82), some (.ref a1), some (.int l2), some (.int l3), some (.int l4)], [], enc s) (f_X7_putName_51 a1 l2 l3 l4 s) := by
  unfold f_X7_putName_51
  refine fo_st rfl rfl ?_
  refine fo_st rfl rfl ?_
  exact g_X7_putName_54 LS xs d hd a1 h1 fuel _ _ _ _
def f_X7_putName_34 (a1 : Nat) (r5 : Int32 → Int32 → Int32 → fS → Option fS) (l2 : Int32) (l3 : Int32) (l4 : Int32) (t0 : Int32) (s : fS) : Option fS := r5 l2 t0 (l4 + Int32.ofInt (1)) s
theorem g_X7_putName_34 (LS : Nat) (xs : Nat → Int32) (d : Nat) (hd : 3 ≤ d) (a1 : Nat) (h1 : isAr a1 = true) (r5 : Int32 → Int32 → Int32 → fS → Option fS) (q5 : ∀ (l2 : Int32) (l3 : Int32) (l4 : Int32) (s : fS), fo cvV t_X7_putName LS xs (mi_call mi_ms false LS xs d) (5, [some (.ref 82), some (.ref a1), some (.int l2), some (.int l3), some (.int l4)], [], enc s) (r5 l2 l3 l4 s)) (l2 : Int32) (l3 : Int32) (l4 : Int32) (t0 : Int32)  (s : fS) : fo cvV t_X7_putName LS xs (mi_call mi_ms false LS xs d) (34, [some (.ref 82), some (.ref a1), some (.int l2), some (.int l3), some (.int l4)], [.int t0], enc s) (f_X7_putName_34 a1 r5 l2 l3 l4 t0 s) := by
  unfold f_X7_putName_34
  refine fo_st rfl rfl ?_
  refine fo_st rfl rfl ?_
  refine fo_st rfl rfl ?_
  exact q5 _ _ _ _
def f_X7_putName_33 (a1 : Nat) (r5 : Int32 → Int32 → Int32 → fS → Option fS) (l2 : Int32) (l3 : Int32) (l4 : Int32) (s : fS) : Option fS := f_X7_putName_34 a1 r5 l2 l3 l4 (0 : Int32) s
theorem g_X7_putName_33 (LS : Nat) (xs : Nat → Int32) (d : Nat) (hd : 3 ≤ d) (a1 : Nat) (h1 : isAr a1 = true) (r5 : Int32 → Int32 → Int32 → fS → Option fS) (q5 : ∀ (l2 : Int32) (l3 : Int32) (l4 : Int32) (s : fS), fo cvV t_X7_putName LS xs (mi_call mi_ms false LS xs d) (5, [some (.ref 82), some (.ref a1), some (.int l2), some (.int l3), some (.int l4)], [], enc s) (r5 l2 l3 l4 s)) (l2 : Int32) (l3 : Int32) (l4 : Int32)  (s : fS) : fo cvV t_X7_putName LS xs (mi_call mi_ms false LS xs d) (33, [some (.ref 82), some (.ref a1), some (.int l2), some (.int l3), some (.int l4)], [], enc s) (f_X7_putName_33 a1 r5 l2 l3 l4 s) := by
  unfold f_X7_putName_33
  refine fo_st rfl rfl ?_
  exact g_X7_putName_34 LS xs d hd a1 h1 _ q5 _ _ _ _ _
def f_X7_putName_5 (a1 : Nat)  : Nat → Int32 → Int32 → Int32 → fS → Option fS
  | 0, _, _, _, _ => none
  | n + 1, l2, l3, l4, s => fchk (mi_in l2 (gA s a1).length) ((bif decide (((gA s a1).getD l2.toNatClampNeg 0) < l4) then (bif decide (¬ l3 = 0) then f_X7_putName_51 a1 l2 l3 l4 s else ((f_X7_put (34 : Int32) s).bind fun qx1 => f_X7_putName_51 a1 l2 l3 l4 qx1)) else (bif decide (l3 = 0) then f_X7_putName_33 a1 (fun l2' l3' l4' s' => f_X7_putName_5 a1 n l2' l3' l4' s') l2 l3 l4 s else fchk (mi_in (l2 + l4) (gA s a1).length) (((f_X7_isPlain ((gA s a1).getD (l2 + l4).toNatClampNeg 0) s).bind fun qx2 => (bif decide (qx2.1 = 0) then f_X7_putName_33 a1 (fun l2' l3' l4' s' => f_X7_putName_5 a1 n l2' l3' l4' s') l2 l3 l4 qx2.2 else f_X7_putName_34 a1 (fun l2' l3' l4' s' => f_X7_putName_5 a1 n l2' l3' l4' s') l2 l3 l4 (1 : Int32) qx2.2))))))
theorem g_X7_putName_5 (LS : Nat) (xs : Nat → Int32) (d : Nat) (hd : 3 ≤ d) (a1 : Nat) (h1 : isAr a1 = true)   (n : Nat) : ∀ (l2 : Int32) (l3 : Int32) (l4 : Int32) (s : fS), fo cvV t_X7_putName LS xs (mi_call mi_ms false LS xs d) (5, [some (.ref 82), some (.ref a1), some (.int l2), some (.int l3), some (.int l4)], [], enc s) (f_X7_putName_5 a1 n l2 l3 l4 s) := by
  induction n with
  | zero => intro l2 l3 l4 s; exact fo_none
  | succ n ih =>
    intro l2 l3 l4 s
    rw [f_X7_putName_5]
    refine fo_st rfl rfl ?_
    refine fo_st rfl rfl ?_
    refine fo_st rfl rfl ?_
    refine fo_iald rfl (eg_ar _ h1) ?_
    refine fo_b rfl rfl ?_ ?_
    · refine fo_st rfl rfl ?_
      refine fo_b rfl rfl ?_ ?_
      · exact g_X7_putName_51 LS xs d hd a1 h1 _ _ _ _
      · refine fo_st rfl rfl ?_
        refine fo_st rfl rfl ?_
        refine fo_callV (As := [.ref 82, .int (34 : Int32)]) (rest := []) rfl rfl rfl rfl (mi_rcv_of (eg_7 _)) (c_X7_put LS xs d (by omega) _ _) (fun qx1 => ?_)
        exact g_X7_putName_51 LS xs d hd a1 h1 _ _ _ _
    · refine fo_st rfl rfl ?_
      refine fo_b rfl rfl ?_ ?_
      · exact g_X7_putName_33 LS xs d hd a1 h1 _ ih _ _ _ _
      · refine fo_st rfl rfl ?_
        refine fo_st rfl rfl ?_
        refine fo_st rfl rfl ?_
        refine fo_st rfl rfl ?_
        refine fo_iald rfl (eg_ar _ h1) ?_
        refine fo_callI (As := [.int ((gA s a1).getD (l2 + l4).toNatClampNeg 0)]) (rest := []) rfl rfl rfl rfl True.intro (c_X7_isPlain LS xs d (by omega) _ _) (fun qx2 => ?_)
        refine fo_b rfl rfl ?_ ?_
        · exact g_X7_putName_33 LS xs d hd a1 h1 _ ih _ _ _ _
        · refine fo_st rfl rfl ?_
          refine fo_st rfl rfl ?_
          exact g_X7_putName_34 LS xs d hd a1 h1 _ ih _ _ _ _ _
def f_X7_putName_0 (a1 : Nat)  (l2 : Int32) (s : fS) : Option fS := f_X7_putName_5 a1 fuel l2 (1 : Int32) (1 : Int32) s
theorem g_X7_putName_0 (LS : Nat) (xs : Nat → Int32) (d : Nat) (hd : 3 ≤ d) (a1 : Nat) (h1 : isAr a1 = true)   (l2 : Int32)  (s : fS) : fo cvV t_X7_putName LS xs (mi_call mi_ms false LS xs d) (0, [some (.ref 82), some (.ref a1), some (.int l2), none, none], [], enc s) (f_X7_putName_0 a1 l2 s) := by
  unfold f_X7_putName_0
  refine fo_st rfl rfl ?_
  refine fo_st rfl rfl ?_
  refine fo_st rfl rfl ?_
  refine fo_st rfl rfl ?_
  exact g_X7_putName_5 LS xs d hd a1 h1 fuel _ _ _ _
def f_X7_putName (a1 : Nat) (l2 : Int32) (s : fS) : Option fS := f_X7_putName_0 a1 l2 s
theorem c_X7_putName (LS : Nat) (xs : Nat → Int32) (d : Nat) (hd : 4 ≤ d) (a1 : Nat) (l2 : Int32) (h1 : isAr a1 = true) (s : fS) : fm mi_ms cvV LS xs d 141 [.ref 82, .ref a1, .int l2] (enc s) (f_X7_putName a1 l2 s) := by
  obtain ⟨e, rfl⟩ : ∃ e, d = e + 1 := ⟨d - 1, by omega⟩
  exact fm_of (M := m_X7_putName) rfl rfl (fun _ => ⟨_, rfl⟩) (g_X7_putName_0 LS xs e (by omega) a1 h1 l2 s)
def f_X7_putWhole_18   : Nat → Int32 → Int32 → fS → Option fS
  | 0, _, _, _ => none
  | n + 1, l1, l2, s => (bif decide (l2 ≤ 0) then some s else fchk (decide (¬ l2 = 0)) (((f_X7_put ((48 : Int32) + (mi_irem (l1 / l2) (10 : Int32))) s).bind fun qx1 => f_X7_putWhole_18 n l1 (l2 / (10 : Int32)) qx1)))
theorem g_X7_putWhole_18 (LS : Nat) (xs : Nat → Int32) (d : Nat) (hd : 1 ≤ d)     (n : Nat) : ∀ (l1 : Int32) (l2 : Int32) (s : fS), fo cvV t_X7_putWhole LS xs (mi_call mi_ms false LS xs d) (18, [some (.ref 82), some (.int l1), some (.int l2)], [], enc s) (f_X7_putWhole_18 n l1 l2 s) := by
  induction n with
  | zero => intro l1 l2 s; exact fo_none
  | succ n ih =>
    intro l1 l2 s
    rw [f_X7_putWhole_18]
    refine fo_st rfl rfl ?_
    refine fo_b rfl rfl ?_ ?_
    · exact fo_ret rfl rfl rfl
    · refine fo_st rfl rfl ?_
      refine fo_st rfl rfl ?_
      refine fo_st rfl rfl ?_
      refine fo_st rfl rfl ?_
      refine fo_d2 rfl ?_
      refine fo_st rfl rfl ?_
      refine fo_st rfl rfl ?_
      refine fo_st rfl rfl ?_
      refine fo_callV (As := [.ref 82, .int ((48 : Int32) + (mi_irem (l1 / l2) (10 : Int32)))]) (rest := []) rfl rfl rfl rfl (mi_rcv_of (eg_7 _)) (c_X7_put LS xs d (by omega) _ _) (fun qx1 => ?_)
      refine fo_st rfl rfl ?_
      refine fo_st rfl rfl ?_
      refine fo_st rfl rfl ?_
      refine fo_st rfl rfl ?_
      refine fo_st rfl rfl ?_
      exact ih _ _ _
def f_X7_putWhole_2   : Nat → Int32 → Int32 → fS → Option fS
  | 0, _, _, _ => none
  | n + 1, l1, l2, s => fchk (decide (¬ l2 = 0)) ((bif decide ((l1 / l2) ≤ (9 : Int32)) then f_X7_putWhole_18 fuel l1 l2 s else f_X7_putWhole_2 n l1 (l2 * (10 : Int32)) s))
theorem g_X7_putWhole_2 (LS : Nat) (xs : Nat → Int32) (d : Nat) (hd : 1 ≤ d)     (n : Nat) : ∀ (l1 : Int32) (l2 : Int32) (s : fS), fo cvV t_X7_putWhole LS xs (mi_call mi_ms false LS xs d) (2, [some (.ref 82), some (.int l1), some (.int l2)], [], enc s) (f_X7_putWhole_2 n l1 l2 s) := by
  induction n with
  | zero => intro l1 l2 s; exact fo_none
  | succ n ih =>
    intro l1 l2 s
    rw [f_X7_putWhole_2]
    refine fo_st rfl rfl ?_
    refine fo_st rfl rfl ?_
    refine fo_d2 rfl ?_
    refine fo_st rfl rfl ?_
    refine fo_b rfl rfl ?_ ?_
    · exact g_X7_putWhole_18 LS xs d hd fuel _ _ _
    · refine fo_st rfl rfl ?_
      refine fo_st rfl rfl ?_
      refine fo_st rfl rfl ?_
      refine fo_st rfl rfl ?_
      refine fo_st rfl rfl ?_
      exact ih _ _ _
def f_X7_putWhole_0   (l1 : Int32) (s : fS) : Option fS := f_X7_putWhole_2 fuel l1 (1 : Int32) s
theorem g_X7_putWhole_0 (LS : Nat) (xs : Nat → Int32) (d : Nat) (hd : 1 ≤ d)     (l1 : Int32)  (s : fS) : fo cvV t_X7_putWhole LS xs (mi_call mi_ms false LS xs d) (0, [some (.ref 82), some (.int l1), none], [], enc s) (f_X7_putWhole_0 l1 s) := by
  unfold f_X7_putWhole_0
  refine fo_st rfl rfl ?_
  refine fo_st rfl rfl ?_
  exact g_X7_putWhole_2 LS xs d hd fuel _ _ _
def f_X7_putWhole (l1 : Int32) (s : fS) : Option fS := f_X7_putWhole_0 l1 s
theorem c_X7_putWhole (LS : Nat) (xs : Nat → Int32) (d : Nat) (hd : 2 ≤ d) (l1 : Int32)  (s : fS) : fm mi_ms cvV LS xs d 142 [.ref 82, .int l1] (enc s) (f_X7_putWhole l1 s) := by
  obtain ⟨e, rfl⟩ : ∃ e, d = e + 1 := ⟨d - 1, by omega⟩
  exact fm_of (M := m_X7_putWhole) rfl rfl (fun _ => ⟨_, rfl⟩) (g_X7_putWhole_0 LS xs e (by omega) l1 s)
def f_X7_putNumber_46   : Nat → Int32 → Int32 → Int32 → fS → Option fS
  | 0, _, _, _, _ => none
  | n + 1, l1, l2, l3, s => (bif decide (l3 ≤ 0) then some s else ((f_X7_put ((48 : Int32) + (l3 / (100 : Int32))) s).bind fun qx1 => f_X7_putNumber_46 n l1 l2 ((mi_irem l3 (100 : Int32)) * (10 : Int32)) qx1))
theorem g_X7_putNumber_46 (LS : Nat) (xs : Nat → Int32) (d : Nat) (hd : 2 ≤ d)     (n : Nat) : ∀ (l1 : Int32) (l2 : Int32) (l3 : Int32) (s : fS), fo cvV t_X7_putNumber LS xs (mi_call mi_ms false LS xs d) (46, [some (.ref 82), some (.int l1), some (.int l2), some (.int l3)], [], enc s) (f_X7_putNumber_46 n l1 l2 l3 s) := by
  induction n with
  | zero => intro l1 l2 l3 s; exact fo_none
  | succ n ih =>
    intro l1 l2 l3 s
    rw [f_X7_putNumber_46]
    refine fo_st rfl rfl ?_
    refine fo_b rfl rfl ?_ ?_
    · exact fo_ret rfl rfl rfl
    · refine fo_st rfl rfl ?_
      refine fo_st rfl rfl ?_
      refine fo_st rfl rfl ?_
      refine fo_st rfl rfl ?_
      refine fo_st rfl rfl ?_
      refine fo_st rfl rfl ?_
      refine fo_callV (As := [.ref 82, .int ((48 : Int32) + (l3 / (100 : Int32)))]) (rest := []) rfl rfl rfl rfl (mi_rcv_of (eg_7 _)) (c_X7_put LS xs d (by omega) _ _) (fun qx1 => ?_)
      refine fo_st rfl rfl ?_
      refine fo_st rfl rfl ?_
      refine fo_st rfl rfl ?_
      refine fo_st rfl rfl ?_
      refine fo_st rfl rfl ?_
      refine fo_st rfl rfl ?_
      refine fo_st rfl rfl ?_
      exact ih _ _ _ _
def f_X7_putNumber_21   (l1 : Int32) (l2 : Int32) (s : fS) : Option fS := ((f_X7_putWhole (l2 / (1000 : Int32)) s).bind fun qx1 => (bif decide ((mi_irem l2 (1000 : Int32)) ≤ 0) then f_X7_putNumber_46 fuel l1 l2 (mi_irem l2 (1000 : Int32)) qx1 else ((f_X7_put (46 : Int32) qx1).bind fun qx2 => f_X7_putNumber_46 fuel l1 l2 (mi_irem l2 (1000 : Int32)) qx2)))
theorem g_X7_putNumber_21 (LS : Nat) (xs : Nat → Int32) (d : Nat) (hd : 2 ≤ d)     (l1 : Int32) (l2 : Int32)  (s : fS) : fo cvV t_X7_putNumber LS xs (mi_call mi_ms false LS xs d) (21, [some (.ref 82), some (.int l1), some (.int l2), none], [], enc s) (f_X7_putNumber_21 l1 l2 s) := by
  unfold f_X7_putNumber_21
  refine fo_st rfl rfl ?_
  refine fo_st rfl rfl ?_
  refine fo_st rfl rfl ?_
  refine fo_st rfl rfl ?_
  refine fo_callV (As := [.ref 82, .int (l2 / (1000 : Int32))]) (rest := []) rfl rfl rfl rfl (mi_rcv_of (eg_7 _)) (c_X7_putWhole LS xs d (by omega) _ _) (fun qx1 => ?_)
  refine fo_st rfl rfl ?_
  refine fo_st rfl rfl ?_
  refine fo_st rfl rfl ?_
  refine fo_st rfl rfl ?_
  refine fo_st rfl rfl ?_
  refine fo_b rfl rfl ?_ ?_
  · exact g_X7_putNumber_46 LS xs d hd fuel _ _ _ _
  · refine fo_st rfl rfl ?_
    refine fo_st rfl rfl ?_
    refine fo_callV (As := [.ref 82, .int (46 : Int32)]) (rest := []) rfl rfl rfl rfl (mi_rcv_of (eg_7 _)) (c_X7_put LS xs d (by omega) _ _) (fun qx2 => ?_)
    exact g_X7_putNumber_46 LS xs d hd fuel _ _ _ _
def f_X7_putNumber_10   (l1 : Int32) (t0 : Int32) (s : fS) : Option fS := (bif decide (0 ≤ l1) then f_X7_putNumber_21 l1 t0 s else ((f_X7_put (45 : Int32) s).bind fun qx1 => f_X7_putNumber_21 l1 t0 qx1))
theorem g_X7_putNumber_10 (LS : Nat) (xs : Nat → Int32) (d : Nat) (hd : 2 ≤ d)     (l1 : Int32) (t0 : Int32)  (s : fS) : fo cvV t_X7_putNumber LS xs (mi_call mi_ms false LS xs d) (10, [some (.ref 82), some (.int l1), none, none], [.int t0], enc s) (f_X7_putNumber_10 l1 t0 s) := by
  unfold f_X7_putNumber_10
  refine fo_st rfl rfl ?_
  refine fo_st rfl rfl ?_
  refine fo_b rfl rfl ?_ ?_
  · exact g_X7_putNumber_21 LS xs d hd _ _ _
  · refine fo_st rfl rfl ?_
    refine fo_st rfl rfl ?_
    refine fo_callV (As := [.ref 82, .int (45 : Int32)]) (rest := []) rfl rfl rfl rfl (mi_rcv_of (eg_7 _)) (c_X7_put LS xs d (by omega) _ _) (fun qx1 => ?_)
    exact g_X7_putNumber_21 LS xs d hd _ _ _
def f_X7_putNumber_0   (l1 : Int32) (s : fS) : Option fS := (bif decide (0 ≤ l1) then f_X7_putNumber_10 l1 l1 s else f_X7_putNumber_10 l1 (-l1) s)
theorem g_X7_putNumber_0 (LS : Nat) (xs : Nat → Int32) (d : Nat) (hd : 2 ≤ d)     (l1 : Int32)  (s : fS) : fo cvV t_X7_putNumber LS xs (mi_call mi_ms false LS xs d) (0, [some (.ref 82), some (.int l1), none, none], [], enc s) (f_X7_putNumber_0 l1 s) := by
  unfold f_X7_putNumber_0
  refine fo_st rfl rfl ?_
  refine fo_b rfl rfl ?_ ?_
  · refine fo_st rfl rfl ?_
    exact g_X7_putNumber_10 LS xs d hd _ _ _
  · refine fo_st rfl rfl ?_
    refine fo_st rfl rfl ?_
    refine fo_st rfl rfl ?_
    exact g_X7_putNumber_10 LS xs d hd _ _ _
def f_X7_putNumber (l1 : Int32) (s : fS) : Option fS := f_X7_putNumber_0 l1 s
theorem c_X7_putNumber (LS : Nat) (xs : Nat → Int32) (d : Nat) (hd : 3 ≤ d) (l1 : Int32)  (s : fS) : fm mi_ms cvV LS xs d 143 [.ref 82, .int l1] (enc s) (f_X7_putNumber l1 s) := by
  obtain ⟨e, rfl⟩ : ∃ e, d = e + 1 := ⟨d - 1, by omega⟩
  exact fm_of (M := m_X7_putNumber) rfl rfl (fun _ => ⟨_, rfl⟩) (g_X7_putNumber_0 LS xs e (by omega) l1 s)
def f_X7_putArc_117  (r42 : Int32 → Int32 → fS → Option fS) (l1 : Int32) (l2 : Int32) (l3 : Int32) (s : fS) : Option fS := r42 l1 (l2 + Int32.ofInt (1)) s
theorem g_X7_putArc_117 (LS : Nat) (xs : Nat → Int32) (d : Nat) (hd : 4 ≤ d)   (r42 : Int32 → Int32 → fS → Option fS) (q42 : ∀ (l1 : Int32) (l2 : Int32) (d3 : Option Value) (s : fS), fo cvV t_X7_putArc LS xs (mi_call mi_ms false LS xs d) (42, [some (.ref 82), some (.int l1), some (.int l2), d3], [], enc s) (r42 l1 l2 s)) (l1 : Int32) (l2 : Int32) (l3 : Int32)  (s : fS) : fo cvV t_X7_putArc LS xs (mi_call mi_ms false LS xs d) (117, [some (.ref 82), some (.int l1), some (.int l2), some (.int l3)], [], enc s) (f_X7_putArc_117 r42 l1 l2 l3 s) := by
  unfold f_X7_putArc_117
  refine fo_st rfl rfl ?_
  refine fo_st rfl rfl ?_
  exact q42 _ _ _ _
def f_X7_putArc_42   : Nat → Int32 → Int32 → fS → Option fS
  | 0, _, _, _ => none
  | n + 1, l1, l2, s => fchk (mi_in (0 : Int32) (gA s 90).length) ((bif decide (((gA s 90).getD (0 : Int32).toNatClampNeg 0) ≤ l2) then some s else ((f_X7_put (32 : Int32) s).bind fun qx1 => fchk (mi_in (((3 : Int32) * l1) + l2) (gA qx1 93).length) ((bif decide (¬ ((gA qx1 93).getD (((3 : Int32) * l1) + l2).toNatClampNeg 0) = 0) then fchk (mi_in l2 (gA qx1 91).length) ((bif decide (¬ ((gA qx1 91).getD l2.toNatClampNeg 0) = (2 : Int32)) then fchk (mi_in (((3 : Int32) * l1) + l2) (gA qx1 94).length) (((f_X7_putNumber ((gA qx1 94).getD (((3 : Int32) * l1) + l2).toNatClampNeg 0) qx1).bind fun qx2 => f_X7_putArc_117 (fun l1' l2' s' => f_X7_putArc_42 n l1' l2' s') l1 l2 (((3 : Int32) * l1) + l2) qx2)) else ((f_X7_putName 95 ((9 : Int32) * (((3 : Int32) * l1) + l2)) qx1).bind fun qx3 => f_X7_putArc_117 (fun l1' l2' s' => f_X7_putArc_42 n l1' l2' s') l1 l2 (((3 : Int32) * l1) + l2) qx3))) else ((f_X7_put (45 : Int32) qx1).bind fun qx4 => f_X7_putArc_117 (fun l1' l2' s' => f_X7_putArc_42 n l1' l2' s') l1 l2 (((3 : Int32) * l1) + l2) qx4))))))
theorem g_X7_putArc_42 (LS : Nat) (xs : Nat → Int32) (d : Nat) (hd : 4 ≤ d)     (n : Nat) : ∀ (l1 : Int32) (l2 : Int32) (d3 : Option Value) (s : fS), fo cvV t_X7_putArc LS xs (mi_call mi_ms false LS xs d) (42, [some (.ref 82), some (.int l1), some (.int l2), d3], [], enc s) (f_X7_putArc_42 n l1 l2 s) := by
  induction n with
  | zero => intro l1 l2 d3 s; exact fo_none
  | succ n ih =>
    intro l1 l2 d3 s
    rw [f_X7_putArc_42]
    refine fo_st rfl rfl ?_
    refine fo_st rfl rfl ?_
    refine fo_get rfl (eg_7 _) rfl ?_
    refine fo_st rfl rfl ?_
    refine fo_iald rfl (eg_ar _ rfl) ?_
    refine fo_b rfl rfl ?_ ?_
    · exact fo_ret rfl rfl rfl
    · refine fo_st rfl rfl ?_
      refine fo_st rfl rfl ?_
      refine fo_st rfl rfl ?_
      refine fo_st rfl rfl ?_
      refine fo_st rfl rfl ?_
      refine fo_std rfl rfl rfl rfl rfl ?_
      refine fo_st rfl rfl ?_
      refine fo_st rfl rfl ?_
      refine fo_callV (As := [.ref 82, .int (32 : Int32)]) (rest := []) rfl rfl rfl rfl (mi_rcv_of (eg_7 _)) (c_X7_put LS xs d (by omega) _ _) (fun qx1 => ?_)
      refine fo_st rfl rfl ?_
      refine fo_get rfl (eg_7 _) rfl ?_
      refine fo_st rfl rfl ?_
      refine fo_iald rfl (eg_ar _ rfl) ?_
      refine fo_b rfl rfl ?_ ?_
      · refine fo_st rfl rfl ?_
        refine fo_get rfl (eg_7 _) rfl ?_
        refine fo_st rfl rfl ?_
        refine fo_iald rfl (eg_ar _ rfl) ?_
        refine fo_st rfl rfl ?_
        refine fo_b rfl rfl ?_ ?_
        · refine fo_st rfl rfl ?_
          refine fo_st rfl rfl ?_
          refine fo_get rfl (eg_7 _) rfl ?_
          refine fo_st rfl rfl ?_
          refine fo_iald rfl (eg_ar _ rfl) ?_
          refine fo_callV (As := [.ref 82, .int ((gA qx1 94).getD (((3 : Int32) * l1) + l2).toNatClampNeg 0)]) (rest := []) rfl rfl rfl rfl (mi_rcv_of (eg_7 _)) (c_X7_putNumber LS xs d (by omega) _ _) (fun qx2 => ?_)
          exact g_X7_putArc_117 LS xs d hd _ ih _ _ _ _
        · refine fo_st rfl rfl ?_
          refine fo_st rfl rfl ?_
          refine fo_get rfl (eg_7 _) rfl ?_
          refine fo_st rfl rfl ?_
          refine fo_st rfl rfl ?_
          refine fo_st rfl rfl ?_
          refine fo_callV (As := [.ref 82, .ref 95, .int ((9 : Int32) * (((3 : Int32) * l1) + l2))]) (rest := []) rfl rfl rfl rfl (mi_rcv_of (eg_7 _)) (c_X7_putName LS xs d (by omega) _ _ rfl _) (fun qx3 => ?_)
          refine fo_st rfl rfl ?_
          exact g_X7_putArc_117 LS xs d hd _ ih _ _ _ _
      · refine fo_st rfl rfl ?_
        refine fo_st rfl rfl ?_
        refine fo_callV (As := [.ref 82, .int (45 : Int32)]) (rest := []) rfl rfl rfl rfl (mi_rcv_of (eg_7 _)) (c_X7_put LS xs d (by omega) _ _) (fun qx4 => ?_)
        refine fo_st rfl rfl ?_
        exact g_X7_putArc_117 LS xs d hd _ ih _ _ _ _
def f_X7_putArc_0   (l1 : Int32) (s : fS) : Option fS := fchk (mi_in l1 (gA s 87).length) (((f_X7_putName 85 ((9 : Int32) * ((gA s 87).getD l1.toNatClampNeg 0)) s).bind fun qx1 => ((f_X7_put (32 : Int32) qx1).bind fun qx2 => fchk (mi_in l1 (gA qx2 88).length) (((f_X7_putName 85 ((9 : Int32) * ((gA qx2 88).getD l1.toNatClampNeg 0)) qx2).bind fun qx3 => f_X7_putArc_42 fuel l1 (0 : Int32) qx3)))))
theorem g_X7_putArc_0 (LS : Nat) (xs : Nat → Int32) (d : Nat) (hd : 4 ≤ d)     (l1 : Int32)  (s : fS) : fo cvV t_X7_putArc LS xs (mi_call mi_ms false LS xs d) (0, [some (.ref 82), some (.int l1), none, none], [], enc s) (f_X7_putArc_0 l1 s) := by
  unfold f_X7_putArc_0
  refine fo_st rfl rfl ?_
  refine fo_st rfl rfl ?_
  refine fo_get rfl (eg_7 _) rfl ?_
  refine fo_st rfl rfl ?_
  refine fo_st rfl rfl ?_
  refine fo_get rfl (eg_7 _) rfl ?_
  refine fo_st rfl rfl ?_
  refine fo_iald rfl (eg_ar _ rfl) ?_
  refine fo_st rfl rfl ?_
  refine fo_callV (As := [.ref 82, .ref 85, .int ((9 : Int32) * ((gA s 87).getD l1.toNatClampNeg 0))]) (rest := []) rfl rfl rfl rfl (mi_rcv_of (eg_7 _)) (c_X7_putName LS xs d (by omega) _ _ rfl _) (fun qx1 => ?_)
  refine fo_st rfl rfl ?_
  refine fo_st rfl rfl ?_
  refine fo_callV (As := [.ref 82, .int (32 : Int32)]) (rest := []) rfl rfl rfl rfl (mi_rcv_of (eg_7 _)) (c_X7_put LS xs d (by omega) _ _) (fun qx2 => ?_)
  refine fo_st rfl rfl ?_
  refine fo_st rfl rfl ?_
  refine fo_get rfl (eg_7 _) rfl ?_
  refine fo_st rfl rfl ?_
  refine fo_st rfl rfl ?_
  refine fo_get rfl (eg_7 _) rfl ?_
  refine fo_st rfl rfl ?_
  refine fo_iald rfl (eg_ar _ rfl) ?_
  refine fo_st rfl rfl ?_
  refine fo_callV (As := [.ref 82, .ref 85, .int ((9 : Int32) * ((gA qx2 88).getD l1.toNatClampNeg 0))]) (rest := []) rfl rfl rfl rfl (mi_rcv_of (eg_7 _)) (c_X7_putName LS xs d (by omega) _ _ rfl _) (fun qx3 => ?_)
  refine fo_st rfl rfl ?_
  refine fo_st rfl rfl ?_
  exact g_X7_putArc_42 LS xs d hd fuel _ _ _ _
def f_X7_putArc (l1 : Int32) (s : fS) : Option fS := f_X7_putArc_0 l1 s
theorem c_X7_putArc (LS : Nat) (xs : Nat → Int32) (d : Nat) (hd : 5 ≤ d) (l1 : Int32)  (s : fS) : fm mi_ms cvV LS xs d 144 [.ref 82, .int l1] (enc s) (f_X7_putArc l1 s) := by
  obtain ⟨e, rfl⟩ : ∃ e, d = e + 1 := ⟨d - 1, by omega⟩
  exact fm_of (M := m_X7_putArc) rfl rfl (fun _ => ⟨_, rfl⟩) (g_X7_putArc_0 LS xs e (by omega) l1 s)
def f_X7_print_243  (r29 : Int32 → Int32 → Int32 → Int32 → fS → Option (Int32 × fS)) (l1 : Int32) (l2 : Int32) (l3 : Int32) (l4 : Int32) (s : fS) : Option (Int32 × fS) := ((f_X7_put (10 : Int32) s).bind fun qx1 => r29 l1 l2 l3 (l4 + Int32.ofInt (1)) qx1)
theorem g_X7_print_243 (LS : Nat) (xs : Nat → Int32) (d : Nat) (hd : 5 ≤ d)   (r29 : Int32 → Int32 → Int32 → Int32 → fS → Option (Int32 × fS)) (q29 : ∀ (l1 : Int32) (l2 : Int32) (l3 : Int32) (l4 : Int32) (d5 : Option Value) (s : fS), fo cvI t_X7_print LS xs (mi_call mi_ms false LS xs d) (29, [some (.ref 82), some (.int l1), some (.int l2), some (.int l3), some (.int l4), d5], [], enc s) (r29 l1 l2 l3 l4 s)) (l1 : Int32) (l2 : Int32) (l3 : Int32) (l4 : Int32) (d5 : Option Value) (s : fS) : fo cvI t_X7_print LS xs (mi_call mi_ms false LS xs d) (243, [some (.ref 82), some (.int l1), some (.int l2), some (.int l3), some (.int l4), d5], [], enc s) (f_X7_print_243 r29 l1 l2 l3 l4 s) := by
  unfold f_X7_print_243
  refine fo_st rfl rfl ?_
  refine fo_st rfl rfl ?_
  refine fo_callV (As := [.ref 82, .int (10 : Int32)]) (rest := []) rfl rfl rfl rfl (mi_rcv_of (eg_7 _)) (c_X7_put LS xs d (by omega) _ _) (fun qx1 => ?_)
  refine fo_st rfl rfl ?_
  refine fo_st rfl rfl ?_
  exact q29 _ _ _ _ _ _
def f_X7_print_81  (r29 : Int32 → Int32 → Int32 → Int32 → fS → Option (Int32 × fS)) : Nat → Int32 → Int32 → Int32 → Int32 → Int32 → fS → Option (Int32 × fS)
  | 0, _, _, _, _, _, _ => none
  | n + 1, l1, l2, l3, l4, l5, s => fchk (mi_in ((21 : Int32) * l1) (gA s 98).length) ((bif decide (((gA s 98).getD ((21 : Int32) * l1).toNatClampNeg 0) < l5) then f_X7_print_243 r29 (l1 + Int32.ofInt (1)) l2 l3 l4 s else fchk (mi_in (((21 : Int32) * l1) + l5) (gA s 98).length) (((f_X7_put ((gA s 98).getD (((21 : Int32) * l1) + l5).toNatClampNeg 0) s).bind fun qx1 => f_X7_print_81 r29 n l1 l2 l3 l4 (l5 + Int32.ofInt (1)) qx1))))
theorem g_X7_print_81 (LS : Nat) (xs : Nat → Int32) (d : Nat) (hd : 5 ≤ d)   (r29 : Int32 → Int32 → Int32 → Int32 → fS → Option (Int32 × fS)) (q29 : ∀ (l1 : Int32) (l2 : Int32) (l3 : Int32) (l4 : Int32) (d5 : Option Value) (s : fS), fo cvI t_X7_print LS xs (mi_call mi_ms false LS xs d) (29, [some (.ref 82), some (.int l1), some (.int l2), some (.int l3), some (.int l4), d5], [], enc s) (r29 l1 l2 l3 l4 s)) (n : Nat) : ∀ (l1 : Int32) (l2 : Int32) (l3 : Int32) (l4 : Int32) (l5 : Int32) (s : fS), fo cvI t_X7_print LS xs (mi_call mi_ms false LS xs d) (81, [some (.ref 82), some (.int l1), some (.int l2), some (.int l3), some (.int l4), some (.int l5)], [], enc s) (f_X7_print_81 r29 n l1 l2 l3 l4 l5 s) := by
  induction n with
  | zero => intro l1 l2 l3 l4 l5 s; exact fo_none
  | succ n ih =>
    intro l1 l2 l3 l4 l5 s
    rw [f_X7_print_81]
    refine fo_st rfl rfl ?_
    refine fo_st rfl rfl ?_
    refine fo_get rfl (eg_7 _) rfl ?_
    refine fo_st rfl rfl ?_
    refine fo_st rfl rfl ?_
    refine fo_st rfl rfl ?_
    refine fo_iald rfl (eg_ar _ rfl) ?_
    refine fo_b rfl rfl ?_ ?_
    · refine fo_st rfl rfl ?_
      refine fo_st rfl rfl ?_
      exact g_X7_print_243 LS xs d hd _ q29 _ _ _ _ _ _
    · refine fo_st rfl rfl ?_
      refine fo_st rfl rfl ?_
      refine fo_get rfl (eg_7 _) rfl ?_
      refine fo_st rfl rfl ?_
      refine fo_st rfl rfl ?_
      refine fo_st rfl rfl ?_
      refine fo_st rfl rfl ?_
      refine fo_st rfl rfl ?_
      refine fo_iald rfl (eg_ar _ rfl) ?_
      refine fo_callV (As := [.ref 82, .int ((gA s 98).getD (((21 : Int32) * l1) + l5).toNatClampNeg 0)]) (rest := []) rfl rfl rfl rfl (mi_rcv_of (eg_7 _)) (c_X7_put LS xs d (by omega) _ _) (fun qx1 => ?_)
      refine fo_st rfl rfl ?_
      refine fo_st rfl rfl ?_
      exact ih _ _ _ _ _ _
def f_X7_print_226  (r29 : Int32 → Int32 → Int32 → Int32 → fS → Option (Int32 × fS)) (l1 : Int32) (l2 : Int32) (l3 : Int32) (l4 : Int32) (t0 : Int32) (s : fS) : Option (Int32 × fS) := ((f_X7_put t0 s).bind fun qx1 => f_X7_print_243 r29 l1 (l2 + Int32.ofInt (1)) l3 l4 qx1)
theorem g_X7_print_226 (LS : Nat) (xs : Nat → Int32) (d : Nat) (hd : 5 ≤ d)   (r29 : Int32 → Int32 → Int32 → Int32 → fS → Option (Int32 × fS)) (q29 : ∀ (l1 : Int32) (l2 : Int32) (l3 : Int32) (l4 : Int32) (d5 : Option Value) (s : fS), fo cvI t_X7_print LS xs (mi_call mi_ms false LS xs d) (29, [some (.ref 82), some (.int l1), some (.int l2), some (.int l3), some (.int l4), d5], [], enc s) (r29 l1 l2 l3 l4 s)) (l1 : Int32) (l2 : Int32) (l3 : Int32) (l4 : Int32) (t0 : Int32) (d5 : Option Value) (s : fS) : fo cvI t_X7_print LS xs (mi_call mi_ms false LS xs d) (226, [some (.ref 82), some (.int l1), some (.int l2), some (.int l3), some (.int l4), d5], [.int t0, .ref 82], enc s) (f_X7_print_226 r29 l1 l2 l3 l4 t0 s) := by
  unfold f_X7_print_226
  refine fo_callV (As := [.ref 82, .int t0]) (rest := []) rfl rfl rfl rfl (mi_rcv_of (eg_7 _)) (c_X7_put LS xs d (by omega) _ _) (fun qx1 => ?_)
  refine fo_st rfl rfl ?_
  refine fo_st rfl rfl ?_
  exact g_X7_print_243 LS xs d hd _ q29 _ _ _ _ _ _
def f_X7_print_29   : Nat → Int32 → Int32 → Int32 → Int32 → fS → Option (Int32 × fS)
  | 0, _, _, _, _, _ => none
  | n + 1, l1, l2, l3, l4, s => fchk (mi_in (0 : Int32) (gA s 99).length) ((bif decide (((gA s 99).getD (0 : Int32).toNatClampNeg 0) ≤ l4) then some ((gI s 82 26), s) else fchk (mi_in l4 (gA s 100).length) ((bif decide (((gA s 100).getD l4.toNatClampNeg 0).toInt = 1) then ((f_X7_put (35 : Int32) s).bind fun qx1 => f_X7_print_81 (fun l1' l2' l3' l4' s' => f_X7_print_29 n l1' l2' l3' l4' s') fuel l1 l2 l3 l4 (1 : Int32) qx1) else (bif decide (((gA s 100).getD l4.toNatClampNeg 0).toInt = 2) then ((f_X7_put (33 : Int32) s).bind fun qx2 => ((f_X7_put (32 : Int32) qx2).bind fun qx3 => fchk (mi_in (0 : Int32) (gA qx3 101).length) (((f_X7_putWhole ((gA qx3 101).getD (0 : Int32).toNatClampNeg 0) qx3).bind fun qx4 => ((f_X7_put (32 : Int32) qx4).bind fun qx5 => fchk (mi_in (1 : Int32) (gA qx5 101).length) (((f_X7_putWhole ((gA qx5 101).getD (1 : Int32).toNatClampNeg 0) qx5).bind fun qx6 => f_X7_print_243 (fun l1' l2' l3' l4' s' => f_X7_print_29 n l1' l2' l3' l4' s') l1 l2 l3 l4 qx6))))))) else (bif decide (((gA s 100).getD l4.toNatClampNeg 0).toInt = 3) then ((f_X7_put (37 : Int32) s).bind fun qx7 => ((f_X7_put (32 : Int32) qx7).bind fun qx8 => ((f_X7_putName 92 ((9 : Int32) * l2) qx8).bind fun qx9 => ((f_X7_put (32 : Int32) qx9).bind fun qx10 => fchk (mi_in l2 (gA qx10 91).length) ((bif decide (¬ ((gA qx10 91).getD l2.toNatClampNeg 0) = 0) then fchk (mi_in l2 (gA qx10 91).length) ((bif decide (¬ ((gA qx10 91).getD l2.toNatClampNeg 0) = (1 : Int32)) then f_X7_print_226 (fun l1' l2' l3' l4' s' => f_X7_print_29 n l1' l2' l3' l4' s') l1 l2 l3 l4 (116 : Int32) qx10 else f_X7_print_226 (fun l1' l2' l3' l4' s' => f_X7_print_29 n l1' l2' l3' l4' s') l1 l2 l3 l4 (100 : Int32) qx10)) else f_X7_print_226 (fun l1' l2' l3' l4' s' => f_X7_print_29 n l1' l2' l3' l4' s') l1 l2 l3 l4 (119 : Int32) qx10)))))) else ((f_X7_putArc l3 s).bind fun qx11 => f_X7_print_243 (fun l1' l2' l3' l4' s' => f_X7_print_29 n l1' l2' l3' l4' s') l1 l2 (l3 + Int32.ofInt (1)) l4 qx11)))))))
theorem g_X7_print_29 (LS : Nat) (xs : Nat → Int32) (d : Nat) (hd : 5 ≤ d)     (n : Nat) : ∀ (l1 : Int32) (l2 : Int32) (l3 : Int32) (l4 : Int32) (d5 : Option Value) (s : fS), fo cvI t_X7_print LS xs (mi_call mi_ms false LS xs d) (29, [some (.ref 82), some (.int l1), some (.int l2), some (.int l3), some (.int l4), d5], [], enc s) (f_X7_print_29 n l1 l2 l3 l4 s) := by
  induction n with
  | zero => intro l1 l2 l3 l4 d5 s; exact fo_none
  | succ n ih =>
    intro l1 l2 l3 l4 d5 s
    rw [f_X7_print_29]
    refine fo_st rfl rfl ?_
    refine fo_st rfl rfl ?_
    refine fo_get rfl (eg_7 _) rfl ?_
    refine fo_st rfl rfl ?_
    refine fo_iald rfl (eg_ar _ rfl) ?_
    refine fo_b rfl rfl ?_ ?_
    · refine fo_st rfl rfl ?_
      refine fo_get rfl (eg_7 _) rfl ?_
      exact fo_ret rfl rfl rfl
    · refine fo_st rfl rfl ?_
      refine fo_get rfl (eg_7 _) rfl ?_
      refine fo_st rfl rfl ?_
      refine fo_iald rfl (eg_ar _ rfl) ?_
      refine fo_tab rfl rfl ?_
      refine fo_lk ?_ ?_
      · refine fo_st rfl rfl ?_
        refine fo_st rfl rfl ?_
        refine fo_callV (As := [.ref 82, .int (35 : Int32)]) (rest := []) rfl rfl rfl rfl (mi_rcv_of (eg_7 _)) (c_X7_put LS xs d (by omega) _ _) (fun qx1 => ?_)
        refine fo_st rfl rfl ?_
        refine fo_std rfl rfl rfl rfl rfl ?_
        exact g_X7_print_81 LS xs d hd _ ih fuel _ _ _ _ _ _
      · refine fo_lk ?_ ?_
        · refine fo_st rfl rfl ?_
          refine fo_st rfl rfl ?_
          refine fo_callV (As := [.ref 82, .int (33 : Int32)]) (rest := []) rfl rfl rfl rfl (mi_rcv_of (eg_7 _)) (c_X7_put LS xs d (by omega) _ _) (fun qx2 => ?_)
          refine fo_st rfl rfl ?_
          refine fo_st rfl rfl ?_
          refine fo_callV (As := [.ref 82, .int (32 : Int32)]) (rest := []) rfl rfl rfl rfl (mi_rcv_of (eg_7 _)) (c_X7_put LS xs d (by omega) _ _) (fun qx3 => ?_)
          refine fo_st rfl rfl ?_
          refine fo_st rfl rfl ?_
          refine fo_get rfl (eg_7 _) rfl ?_
          refine fo_st rfl rfl ?_
          refine fo_iald rfl (eg_ar _ rfl) ?_
          refine fo_callV (As := [.ref 82, .int ((gA qx3 101).getD (0 : Int32).toNatClampNeg 0)]) (rest := []) rfl rfl rfl rfl (mi_rcv_of (eg_7 _)) (c_X7_putWhole LS xs d (by omega) _ _) (fun qx4 => ?_)
          refine fo_st rfl rfl ?_
          refine fo_st rfl rfl ?_
          refine fo_callV (As := [.ref 82, .int (32 : Int32)]) (rest := []) rfl rfl rfl rfl (mi_rcv_of (eg_7 _)) (c_X7_put LS xs d (by omega) _ _) (fun qx5 => ?_)
          refine fo_st rfl rfl ?_
          refine fo_st rfl rfl ?_
          refine fo_get rfl (eg_7 _) rfl ?_
          refine fo_st rfl rfl ?_
          refine fo_iald rfl (eg_ar _ rfl) ?_
          refine fo_callV (As := [.ref 82, .int ((gA qx5 101).getD (1 : Int32).toNatClampNeg 0)]) (rest := []) rfl rfl rfl rfl (mi_rcv_of (eg_7 _)) (c_X7_putWhole LS xs d (by omega) _ _) (fun qx6 => ?_)
          refine fo_st rfl rfl ?_
          exact g_X7_print_243 LS xs d hd _ ih _ _ _ _ _ _
        · refine fo_lk ?_ ?_
          · refine fo_st rfl rfl ?_
            refine fo_st rfl rfl ?_
            refine fo_callV (As := [.ref 82, .int (37 : Int32)]) (rest := []) rfl rfl rfl rfl (mi_rcv_of (eg_7 _)) (c_X7_put LS xs d (by omega) _ _) (fun qx7 => ?_)
            refine fo_st rfl rfl ?_
            refine fo_st rfl rfl ?_
            refine fo_callV (As := [.ref 82, .int (32 : Int32)]) (rest := []) rfl rfl rfl rfl (mi_rcv_of (eg_7 _)) (c_X7_put LS xs d (by omega) _ _) (fun qx8 => ?_)
            refine fo_st rfl rfl ?_
            refine fo_st rfl rfl ?_
            refine fo_get rfl (eg_7 _) rfl ?_
            refine fo_st rfl rfl ?_
            refine fo_st rfl rfl ?_
            refine fo_st rfl rfl ?_
            refine fo_callV (As := [.ref 82, .ref 92, .int ((9 : Int32) * l2)]) (rest := []) rfl rfl rfl rfl (mi_rcv_of (eg_7 _)) (c_X7_putName LS xs d (by omega) _ _ rfl _) (fun qx9 => ?_)
            refine fo_st rfl rfl ?_
            refine fo_st rfl rfl ?_
            refine fo_callV (As := [.ref 82, .int (32 : Int32)]) (rest := []) rfl rfl rfl rfl (mi_rcv_of (eg_7 _)) (c_X7_put LS xs d (by omega) _ _) (fun qx10 => ?_)
            refine fo_st rfl rfl ?_
            refine fo_st rfl rfl ?_
            refine fo_get rfl (eg_7 _) rfl ?_
            refine fo_st rfl rfl ?_
            refine fo_iald rfl (eg_ar _ rfl) ?_
            refine fo_b rfl rfl ?_ ?_
            · refine fo_st rfl rfl ?_
              refine fo_get rfl (eg_7 _) rfl ?_
              refine fo_st rfl rfl ?_
              refine fo_iald rfl (eg_ar _ rfl) ?_
              refine fo_st rfl rfl ?_
              refine fo_b rfl rfl ?_ ?_
              · refine fo_st rfl rfl ?_
                exact g_X7_print_226 LS xs d hd _ ih _ _ _ _ _ _ _
              · refine fo_st rfl rfl ?_
                refine fo_st rfl rfl ?_
                exact g_X7_print_226 LS xs d hd _ ih _ _ _ _ _ _ _
            · refine fo_st rfl rfl ?_
              refine fo_st rfl rfl ?_
              exact g_X7_print_226 LS xs d hd _ ih _ _ _ _ _ _ _
          · show fo _ _ _ _ _ (235, _, _, _) _
            refine fo_st rfl rfl ?_
            refine fo_st rfl rfl ?_
            refine fo_callV (As := [.ref 82, .int l3]) (rest := []) rfl rfl rfl rfl (mi_rcv_of (eg_7 _)) (c_X7_putArc LS xs d (by omega) _ _) (fun qx11 => ?_)
            refine fo_st rfl rfl ?_
            exact g_X7_print_243 LS xs d hd _ ih _ _ _ _ _ _
def f_X7_print_0    (s : fS) : Option (Int32 × fS) := (bif decide (¬ (gI s 82 6) = 0) then f_X7_print_29 fuel (0 : Int32) (0 : Int32) (0 : Int32) (0 : Int32) (sI (sI s 82 0 (0 : Int32)) 82 26 (0 : Int32)) else some ((-103 : Int32), (sI s 82 0 (0 : Int32))))
theorem g_X7_print_0 (LS : Nat) (xs : Nat → Int32) (d : Nat) (hd : 5 ≤ d)       (s : fS) : fo cvI t_X7_print LS xs (mi_call mi_ms false LS xs d) (0, [some (.ref 82), none, none, none, none, none], [], enc s) (f_X7_print_0 s) := by
  unfold f_X7_print_0
  refine fo_st rfl rfl ?_
  refine fo_st rfl rfl ?_
  refine fo_put rfl (eg_7 _) rfl rfl (es_7_0 _ _) ?_
  refine fo_st rfl rfl ?_
  refine fo_get rfl (eg_7 _) rfl ?_
  refine fo_b rfl rfl ?_ ?_
  · refine fo_st rfl rfl ?_
    refine fo_st rfl rfl ?_
    refine fo_put rfl (eg_7 _) rfl rfl (es_7_26 _ _) ?_
    refine fo_st rfl rfl ?_
    refine fo_st rfl rfl ?_
    refine fo_st rfl rfl ?_
    refine fo_st rfl rfl ?_
    refine fo_st rfl rfl ?_
    refine fo_st rfl rfl ?_
    refine fo_st rfl rfl ?_
    refine fo_st rfl rfl ?_
    exact g_X7_print_29 LS xs d hd fuel _ _ _ _ _ _
  · refine fo_st rfl rfl ?_
    exact fo_ret rfl rfl rfl
def f_X7_print  (s : fS) : Option (Int32 × fS) := f_X7_print_0 s
theorem c_X7_print (LS : Nat) (xs : Nat → Int32) (d : Nat) (hd : 6 ≤ d)   (s : fS) : fm mi_ms cvI LS xs d 145 [.ref 82] (enc s) (f_X7_print  s) := by
  obtain ⟨e, rfl⟩ : ∃ e, d = e + 1 := ⟨d - 1, by omega⟩
  exact fm_of (M := m_X7_print) rfl rfl (fun _ => ⟨_, rfl⟩) (g_X7_print_0 LS xs e (by omega) s)
def f_X7_out_40   (l1 : Int32) (t0 : Int32) (s : fS) : Option (Int32 × fS) := some (t0, s)
theorem g_X7_out_40 (LS : Nat) (xs : Nat → Int32) (d : Nat) (hd : 1 ≤ d)     (l1 : Int32) (t0 : Int32)  (s : fS) : fo cvI t_X7_out LS xs (mi_call mi_ms false LS xs d) (40, [some (.ref 82), some (.int l1)], [.int t0], enc s) (f_X7_out_40 l1 t0 s) := by
  unfold f_X7_out_40
  exact fo_ret rfl rfl rfl
def f_X7_out_20   (l1 : Int32) (t0 : Int32) (s : fS) : Option (Int32 × fS) := (bif decide (t0 ≤ 0) then fchk (mi_in l1 (gA s 102).length) (f_X7_out_40 l1 ((gA s 102).getD l1.toNatClampNeg 0) (sI s 82 0 t0)) else f_X7_out_40 l1 (0 : Int32) (sI s 82 0 t0))
theorem g_X7_out_20 (LS : Nat) (xs : Nat → Int32) (d : Nat) (hd : 1 ≤ d)     (l1 : Int32) (t0 : Int32)  (s : fS) : fo cvI t_X7_out LS xs (mi_call mi_ms false LS xs d) (20, [some (.ref 82), some (.int l1)], [.int t0, .ref 82], enc s) (f_X7_out_20 l1 t0 s) := by
  unfold f_X7_out_20
  refine fo_put rfl (eg_7 _) rfl rfl (es_7_0 _ _) ?_
  refine fo_st rfl rfl ?_
  refine fo_get rfl (eg_7 _) rfl ?_
  refine fo_b rfl rfl ?_ ?_
  · refine fo_st rfl rfl ?_
    refine fo_get rfl (eg_7 _) rfl ?_
    refine fo_st rfl rfl ?_
    refine fo_iald rfl (eg_ar _ rfl) ?_
    exact g_X7_out_40 LS xs d hd _ _ _
  · refine fo_st rfl rfl ?_
    refine fo_st rfl rfl ?_
    exact g_X7_out_40 LS xs d hd _ _ _
def f_X7_out_0   (l1 : Int32) (s : fS) : Option (Int32 × fS) := ((f_X7_in l1 (0 : Int32) ((gI s 82 26) - (1 : Int32)) s).bind fun qx1 => (bif decide (qx1.1 = 0) then f_X7_out_20 l1 (1 : Int32) qx1.2 else f_X7_out_20 l1 (0 : Int32) qx1.2))
theorem g_X7_out_0 (LS : Nat) (xs : Nat → Int32) (d : Nat) (hd : 1 ≤ d)     (l1 : Int32)  (s : fS) : fo cvI t_X7_out LS xs (mi_call mi_ms false LS xs d) (0, [some (.ref 82), some (.int l1)], [], enc s) (f_X7_out_0 l1 s) := by
  unfold f_X7_out_0
  refine fo_st rfl rfl ?_
  refine fo_st rfl rfl ?_
  refine fo_st rfl rfl ?_
  refine fo_st rfl rfl ?_
  refine fo_get rfl (eg_7 _) rfl ?_
  refine fo_st rfl rfl ?_
  refine fo_st rfl rfl ?_
  refine fo_callI (As := [.int l1, .int (0 : Int32), .int ((gI s 82 26) - (1 : Int32))]) (rest := [.ref 82]) rfl rfl rfl rfl True.intro (c_X7_in LS xs d (by omega) _ _ _ _) (fun qx1 => ?_)
  refine fo_b rfl rfl ?_ ?_
  · refine fo_st rfl rfl ?_
    exact g_X7_out_20 LS xs d hd _ _ _
  · refine fo_st rfl rfl ?_
    refine fo_st rfl rfl ?_
    exact g_X7_out_20 LS xs d hd _ _ _
def f_X7_out (l1 : Int32) (s : fS) : Option (Int32 × fS) := f_X7_out_0 l1 s
theorem c_X7_out (LS : Nat) (xs : Nat → Int32) (d : Nat) (hd : 2 ≤ d) (l1 : Int32)  (s : fS) : fm mi_ms cvI LS xs d 146 [.ref 82, .int l1] (enc s) (f_X7_out l1 s) := by
  obtain ⟨e, rfl⟩ : ∃ e, d = e + 1 := ⟨d - 1, by omega⟩
  exact fm_of (M := m_X7_out) rfl rfl (fun _ => ⟨_, rfl⟩) (g_X7_out_0 LS xs e (by omega) l1 s)
end FM11
