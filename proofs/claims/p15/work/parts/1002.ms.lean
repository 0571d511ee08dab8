section FM2
theorem p_X6_isPlain_35    (l0 : Int32) (t0 : Int32) (s : fS) : pu s (f_X6_isPlain_35 l0 t0 s) := by
  unfold f_X6_isPlain_35
  refine pu_ck ?_
  exact pu_some rfl
theorem p_X6_isPlain_30    (l0 : Int32) (s : fS) : pu s (f_X6_isPlain_30 l0 s) := by
  unfold f_X6_isPlain_30
  exact p_X6_isPlain_35 _ _ _
theorem p_X6_isPlain_24    (l0 : Int32) (s : fS) : pu s (f_X6_isPlain_24 l0 s) := by
  unfold f_X6_isPlain_24
  refine pu_b ?_ ?_
  · exact p_X6_isPlain_35 _ _ _
  · exact p_X6_isPlain_30 _ _
theorem p_X6_isPlain_12    (l0 : Int32) (s : fS) : pu s (f_X6_isPlain_12 l0 s) := by
  unfold f_X6_isPlain_12
  refine pu_b ?_ ?_
  · exact p_X6_isPlain_24 _ _
  · refine pu_b ?_ ?_
    · exact p_X6_isPlain_30 _ _
    · exact p_X6_isPlain_24 _ _
theorem p_X6_isPlain_0    (l0 : Int32) (s : fS) : pu s (f_X6_isPlain_0 l0 s) := by
  unfold f_X6_isPlain_0
  refine pu_b ?_ ?_
  · exact p_X6_isPlain_12 _ _
  · refine pu_b ?_ ?_
    · exact p_X6_isPlain_30 _ _
    · exact p_X6_isPlain_12 _ _
theorem p_X6_isPlain (l0 : Int32) (s : fS) : pu s (f_X6_isPlain l0 s) := p_X6_isPlain_0 l0 s
def f_X2_readPlain_102   (l1 : Int32) (s : fS) : Option (Int32 × fS) := some ((1 : Int32), s)
theorem g_X2_readPlain_102 (LS : Nat) (xs : Nat → Int32) (d : Nat) (hd : 1 ≤ d)     (l1 : Int32)  (s : fS) : fo cvI t_X2_readPlain LS xs (mi_call mi_ms false LS xs d) (102, [some (.ref 80), some (.int l1)], [], enc s) (f_X2_readPlain_102 l1 s) := by
  unfold f_X2_readPlain_102
  refine fo_st rfl rfl ?_
  exact fo_ret rfl rfl rfl
def f_X2_readPlain_31   : Nat → Int32 → fS → Option (Int32 × fS)
  | 0, _, _ => none
  | n + 1, l1, s => (bif decide ((8 : Int32) < l1) then f_X2_readPlain_102 l1 s else ((f_X6_isPlain (gI s 81 2) s).bind fun qx1 => (bif decide (qx1.1 = 0) then f_X2_readPlain_102 l1 qx1.2 else (bif decide (¬ l1 = (8 : Int32)) then ((f_X3_add (gadr (gP2 qx1.2) + 1) (gI qx1.2 81 2) qx1.2).bind fun qx2 => ((f_X0_step qx2).bind fun qx3 => f_X2_readPlain_31 n (l1 + Int32.ofInt (1)) qx3)) else ((f_X0_wrong (2 : Int32) (gI qx1.2 81 1) qx1.2).bind fun qx4 => fchk (fbl qx4.1) (some (qx4.1, qx4.2)))))))
theorem g_X2_readPlain_31 (LS : Nat) (xs : Nat → Int32) (d : Nat) (hd : 1 ≤ d)     (n : Nat) : ∀ (l1 : Int32) (s : fS), fo cvI t_X2_readPlain LS xs (mi_call mi_ms false LS xs d) (31, [some (.ref 80), some (.int l1)], [], enc s) (f_X2_readPlain_31 n l1 s) := by
  induction n with
  | zero => intro l1 s; exact fo_none
  | succ n ih =>
    intro l1 s
    rw [f_X2_readPlain_31]
    refine fo_st rfl rfl ?_
    refine fo_st rfl rfl ?_
    refine fo_b rfl rfl ?_ ?_
    · exact g_X2_readPlain_102 LS xs d hd _ _
    · refine fo_st rfl rfl ?_
      refine fo_get rfl (eg_2 _) rfl ?_
      refine fo_get rfl (eg_0 _) rfl ?_
      refine fo_callI (As := [.int (gI s 81 2)]) (rest := []) rfl rfl rfl rfl True.intro (c_X6_isPlain LS xs d (by omega) _ _) (fun qx1 => ?_)
      refine fo_b rfl rfl ?_ ?_
      · exact g_X2_readPlain_102 LS xs d hd _ _
      · refine fo_st rfl rfl ?_
        refine fo_st rfl rfl ?_
        refine fo_b rfl rfl ?_ ?_
        · refine fo_st rfl rfl ?_
          refine fo_get rfl (eg_2 _) rfl ?_
          refine fo_get rfl (eg_gr _ _) rfl ?_
          refine fo_st rfl rfl ?_
          refine fo_get rfl (eg_2 _) rfl ?_
          refine fo_get rfl (eg_0 _) rfl ?_
          refine fo_callV (As := [.ref (gadr (gP2 qx1.2) + 1), .int (gI qx1.2 81 2)]) (rest := []) rfl rfl rfl rfl (mi_rcv_of (eg_row _ (gk_1 _))) (c_X3_add LS xs d (by omega) _ _ (gk_1 _) _) (fun qx2 => ?_)
          refine fo_st rfl rfl ?_
          refine fo_get rfl (eg_2 _) rfl ?_
          refine fo_callV (As := [.ref 81]) (rest := []) rfl rfl rfl rfl (mi_rcv_of (eg_0 _)) (c_X0_step LS xs d (by omega)  _) (fun qx3 => ?_)
          refine fo_st rfl rfl ?_
          refine fo_st rfl rfl ?_
          exact ih _ _
        · refine fo_st rfl rfl ?_
          refine fo_get rfl (eg_2 _) rfl ?_
          refine fo_st rfl rfl ?_
          refine fo_st rfl rfl ?_
          refine fo_get rfl (eg_2 _) rfl ?_
          refine fo_get rfl (eg_0 _) rfl ?_
          refine fo_callI (As := [.ref 81, .int (2 : Int32), .int (gI qx1.2 81 1)]) (rest := []) rfl rfl rfl rfl (mi_rcv_of (eg_0 _)) (c_X0_wrong LS xs d (by omega) _ _ _) (fun qx4 => ?_)
          exact fo_ret2 rfl rfl
def f_X2_readPlain_0    (s : fS) : Option (Int32 × fS) := ((f_X6_isPlain (gI s 81 2) s).bind fun qx1 => (bif decide (¬ qx1.1 = 0) then f_X2_readPlain_31 fuel (0 : Int32) qx1.2 else ((f_X0_wrong (1 : Int32) (gI qx1.2 81 1) qx1.2).bind fun qx2 => fchk (fbl qx2.1) (some (qx2.1, qx2.2)))))
theorem g_X2_readPlain_0 (LS : Nat) (xs : Nat → Int32) (d : Nat) (hd : 1 ≤ d)       (s : fS) : fo cvI t_X2_readPlain LS xs (mi_call mi_ms false LS xs d) (0, [some (.ref 80), none], [], enc s) (f_X2_readPlain_0 s) := by
  unfold f_X2_readPlain_0
  refine fo_st rfl rfl ?_
  refine fo_get rfl (eg_2 _) rfl ?_
  refine fo_get rfl (eg_0 _) rfl ?_
  refine fo_callI (As := [.int (gI s 81 2)]) (rest := []) rfl rfl rfl rfl True.intro (c_X6_isPlain LS xs d (by omega) _ _) (fun qx1 => ?_)
  refine fo_b rfl rfl ?_ ?_
  · refine fo_st rfl rfl ?_
    refine fo_st rfl rfl ?_
    exact g_X2_readPlain_31 LS xs d hd fuel _ _
  · refine fo_st rfl rfl ?_
    refine fo_get rfl (eg_2 _) rfl ?_
    refine fo_st rfl rfl ?_
    refine fo_st rfl rfl ?_
    refine fo_get rfl (eg_2 _) rfl ?_
    refine fo_get rfl (eg_0 _) rfl ?_
    refine fo_callI (As := [.ref 81, .int (1 : Int32), .int (gI qx1.2 81 1)]) (rest := []) rfl rfl rfl rfl (mi_rcv_of (eg_0 _)) (c_X0_wrong LS xs d (by omega) _ _ _) (fun qx2 => ?_)
    exact fo_ret2 rfl rfl
def f_X2_readPlain  (s : fS) : Option (Int32 × fS) := f_X2_readPlain_0 s
theorem c_X2_readPlain (LS : Nat) (xs : Nat → Int32) (d : Nat) (hd : 2 ≤ d)   (s : fS) : fm mi_ms cvI LS xs d 42 [.ref 80] (enc s) (f_X2_readPlain  s) := by
  obtain ⟨e, rfl⟩ : ∃ e, d = e + 1 := ⟨d - 1, by omega⟩
  exact fm_of (M := m_X2_readPlain) rfl rfl (fun _ => ⟨_, rfl⟩) (g_X2_readPlain_0 LS xs e (by omega) s)
def f_X2_readQuoted_195   (l1 : Int32) (s : fS) : Option (Int32 × fS) := ((f_X0_step s).bind fun qx1 => some ((1 : Int32), qx1))
theorem g_X2_readQuoted_195 (LS : Nat) (xs : Nat → Int32) (d : Nat) (hd : 1 ≤ d)     (l1 : Int32)  (s : fS) : fo cvI t_X2_readQuoted LS xs (mi_call mi_ms false LS xs d) (195, [some (.ref 80), some (.int l1)], [], enc s) (f_X2_readQuoted_195 l1 s) := by
  unfold f_X2_readQuoted_195
  refine fo_st rfl rfl ?_
  refine fo_get rfl (eg_2 _) rfl ?_
  refine fo_callV (As := [.ref 81]) (rest := []) rfl rfl rfl rfl (mi_rcv_of (eg_0 _)) (c_X0_step LS xs d (by omega)  _) (fun qx1 => ?_)
  refine fo_st rfl rfl ?_
  exact fo_ret rfl rfl rfl
def f_X2_readQuoted_165  (r37 : Int32 → fS → Option (Int32 × fS)) (l1 : Int32) (s : fS) : Option (Int32 × fS) := ((f_X3_add (gadr (gP2 s) + 1) (gI s 81 2) s).bind fun qx1 => ((f_X0_step qx1).bind fun qx2 => r37 (l1 + Int32.ofInt (1)) qx2))
theorem g_X2_readQuoted_165 (LS : Nat) (xs : Nat → Int32) (d : Nat) (hd : 1 ≤ d)   (r37 : Int32 → fS → Option (Int32 × fS)) (q37 : ∀ (l1 : Int32) (s : fS), fo cvI t_X2_readQuoted LS xs (mi_call mi_ms false LS xs d) (37, [some (.ref 80), some (.int l1)], [], enc s) (r37 l1 s)) (l1 : Int32)  (s : fS) : fo cvI t_X2_readQuoted LS xs (mi_call mi_ms false LS xs d) (165, [some (.ref 80), some (.int l1)], [], enc s) (f_X2_readQuoted_165 r37 l1 s) := by
  unfold f_X2_readQuoted_165
  refine fo_st rfl rfl ?_
  refine fo_get rfl (eg_2 _) rfl ?_
  refine fo_get rfl (eg_gr _ _) rfl ?_
  refine fo_st rfl rfl ?_
  refine fo_get rfl (eg_2 _) rfl ?_
  refine fo_get rfl (eg_0 _) rfl ?_
  refine fo_callV (As := [.ref (gadr (gP2 s) + 1), .int (gI s 81 2)]) (rest := []) rfl rfl rfl rfl (mi_rcv_of (eg_row _ (gk_1 _))) (c_X3_add LS xs d (by omega) _ _ (gk_1 _) _) (fun qx1 => ?_)
  refine fo_st rfl rfl ?_
  refine fo_get rfl (eg_2 _) rfl ?_
  refine fo_callV (As := [.ref 81]) (rest := []) rfl rfl rfl rfl (mi_rcv_of (eg_0 _)) (c_X0_step LS xs d (by omega)  _) (fun qx2 => ?_)
  refine fo_st rfl rfl ?_
  refine fo_st rfl rfl ?_
  exact q37 _ _
def f_X2_readQuoted_37   : Nat → Int32 → fS → Option (Int32 × fS)
  | 0, _, _ => none
  | n + 1, l1, s => (bif decide ((8 : Int32) < l1) then f_X2_readQuoted_195 l1 s else (bif decide ((gI s 81 2) = (34 : Int32)) then f_X2_readQuoted_195 l1 s else ((f_X6_isPrintable (gI s 81 2) s).bind fun qx1 => (bif decide (¬ qx1.1 = 0) then (bif decide (¬ l1 = (8 : Int32)) then (bif decide (¬ (gI qx1.2 81 2) = (92 : Int32)) then f_X2_readQuoted_165 (fun l1' s' => f_X2_readQuoted_37 n l1' s') l1 qx1.2 else ((f_X0_step qx1.2).bind fun qx2 => (bif decide ((gI qx2 81 2) = (34 : Int32)) then f_X2_readQuoted_165 (fun l1' s' => f_X2_readQuoted_37 n l1' s') l1 qx2 else (bif decide ((gI qx2 81 2) = (92 : Int32)) then f_X2_readQuoted_165 (fun l1' s' => f_X2_readQuoted_37 n l1' s') l1 qx2 else ((f_X0_wrong (1 : Int32) (gI qx2 81 1) qx2).bind fun qx3 => fchk (fbl qx3.1) (some (qx3.1, qx3.2))))))) else ((f_X0_wrong (2 : Int32) (gI qx1.2 81 1) qx1.2).bind fun qx4 => fchk (fbl qx4.1) (some (qx4.1, qx4.2)))) else ((f_X0_wrong (1 : Int32) (gI qx1.2 81 1) qx1.2).bind fun qx5 => fchk (fbl qx5.1) (some (qx5.1, qx5.2)))))))
theorem g_X2_readQuoted_37 (LS : Nat) (xs : Nat → Int32) (d : Nat) (hd : 1 ≤ d)     (n : Nat) : ∀ (l1 : Int32) (s : fS), fo cvI t_X2_readQuoted LS xs (mi_call mi_ms false LS xs d) (37, [some (.ref 80), some (.int l1)], [], enc s) (f_X2_readQuoted_37 n l1 s) := by
  induction n with
  | zero => intro l1 s; exact fo_none
  | succ n ih =>
    intro l1 s
    rw [f_X2_readQuoted_37]
    refine fo_st rfl rfl ?_
    refine fo_st rfl rfl ?_
    refine fo_b rfl rfl ?_ ?_
    · exact g_X2_readQuoted_195 LS xs d hd _ _
    · refine fo_st rfl rfl ?_
      refine fo_get rfl (eg_2 _) rfl ?_
      refine fo_get rfl (eg_0 _) rfl ?_
      refine fo_st rfl rfl ?_
      refine fo_b rfl rfl ?_ ?_
      · exact g_X2_readQuoted_195 LS xs d hd _ _
      · refine fo_st rfl rfl ?_
        refine fo_get rfl (eg_2 _) rfl ?_
        refine fo_get rfl (eg_0 _) rfl ?_
        refine fo_callI (As := [.int (gI s 81 2)]) (rest := []) rfl rfl rfl rfl True.intro (c_X6_isPrintable LS xs d (by omega) _ _) (fun qx1 => ?_)
        refine fo_b rfl rfl ?_ ?_
        · refine fo_st rfl rfl ?_
          refine fo_st rfl rfl ?_
          refine fo_b rfl rfl ?_ ?_
          · refine fo_st rfl rfl ?_
            refine fo_get rfl (eg_2 _) rfl ?_
            refine fo_get rfl (eg_0 _) rfl ?_
            refine fo_st rfl rfl ?_
            refine fo_b rfl rfl ?_ ?_
            · exact g_X2_readQuoted_165 LS xs d hd _ ih _ _
            · refine fo_st rfl rfl ?_
              refine fo_get rfl (eg_2 _) rfl ?_
              refine fo_callV (As := [.ref 81]) (rest := []) rfl rfl rfl rfl (mi_rcv_of (eg_0 _)) (c_X0_step LS xs d (by omega)  _) (fun qx2 => ?_)
              refine fo_st rfl rfl ?_
              refine fo_get rfl (eg_2 _) rfl ?_
              refine fo_get rfl (eg_0 _) rfl ?_
              refine fo_st rfl rfl ?_
              refine fo_b rfl rfl ?_ ?_
              · exact g_X2_readQuoted_165 LS xs d hd _ ih _ _
              · refine fo_st rfl rfl ?_
                refine fo_get rfl (eg_2 _) rfl ?_
                refine fo_get rfl (eg_0 _) rfl ?_
                refine fo_st rfl rfl ?_
                refine fo_b rfl rfl ?_ ?_
                · exact g_X2_readQuoted_165 LS xs d hd _ ih _ _
                · refine fo_st rfl rfl ?_
                  refine fo_get rfl (eg_2 _) rfl ?_
                  refine fo_st rfl rfl ?_
                  refine fo_st rfl rfl ?_
                  refine fo_get rfl (eg_2 _) rfl ?_
                  refine fo_get rfl (eg_0 _) rfl ?_
                  refine fo_callI (As := [.ref 81, .int (1 : Int32), .int (gI qx2 81 1)]) (rest := []) rfl rfl rfl rfl (mi_rcv_of (eg_0 _)) (c_X0_wrong LS xs d (by omega) _ _ _) (fun qx3 => ?_)
                  exact fo_ret2 rfl rfl
          · refine fo_st rfl rfl ?_
            refine fo_get rfl (eg_2 _) rfl ?_
            refine fo_st rfl rfl ?_
            refine fo_st rfl rfl ?_
            refine fo_get rfl (eg_2 _) rfl ?_
            refine fo_get rfl (eg_0 _) rfl ?_
            refine fo_callI (As := [.ref 81, .int (2 : Int32), .int (gI qx1.2 81 1)]) (rest := []) rfl rfl rfl rfl (mi_rcv_of (eg_0 _)) (c_X0_wrong LS xs d (by omega) _ _ _) (fun qx4 => ?_)
            exact fo_ret2 rfl rfl
        · refine fo_st rfl rfl ?_
          refine fo_get rfl (eg_2 _) rfl ?_
          refine fo_st rfl rfl ?_
          refine fo_st rfl rfl ?_
          refine fo_get rfl (eg_2 _) rfl ?_
          refine fo_get rfl (eg_0 _) rfl ?_
          refine fo_callI (As := [.ref 81, .int (1 : Int32), .int (gI qx1.2 81 1)]) (rest := []) rfl rfl rfl rfl (mi_rcv_of (eg_0 _)) (c_X0_wrong LS xs d (by omega) _ _ _) (fun qx5 => ?_)
          exact fo_ret2 rfl rfl
def f_X2_readQuoted_0    (s : fS) : Option (Int32 × fS) := ((f_X0_step s).bind fun qx1 => (bif decide (¬ (gI qx1 81 2) = (34 : Int32)) then f_X2_readQuoted_37 fuel (0 : Int32) qx1 else ((f_X0_wrong (1 : Int32) (gI qx1 81 1) qx1).bind fun qx2 => fchk (fbl qx2.1) (some (qx2.1, qx2.2)))))
theorem g_X2_readQuoted_0 (LS : Nat) (xs : Nat → Int32) (d : Nat) (hd : 1 ≤ d)       (s : fS) : fo cvI t_X2_readQuoted LS xs (mi_call mi_ms false LS xs d) (0, [some (.ref 80), none], [], enc s) (f_X2_readQuoted_0 s) := by
  unfold f_X2_readQuoted_0
  refine fo_st rfl rfl ?_
  refine fo_get rfl (eg_2 _) rfl ?_
  refine fo_callV (As := [.ref 81]) (rest := []) rfl rfl rfl rfl (mi_rcv_of (eg_0 _)) (c_X0_step LS xs d (by omega)  _) (fun qx1 => ?_)
  refine fo_st rfl rfl ?_
  refine fo_get rfl (eg_2 _) rfl ?_
  refine fo_get rfl (eg_0 _) rfl ?_
  refine fo_st rfl rfl ?_
  refine fo_b rfl rfl ?_ ?_
  · refine fo_st rfl rfl ?_
    refine fo_st rfl rfl ?_
    exact g_X2_readQuoted_37 LS xs d hd fuel _ _
  · refine fo_st rfl rfl ?_
    refine fo_get rfl (eg_2 _) rfl ?_
    refine fo_st rfl rfl ?_
    refine fo_st rfl rfl ?_
    refine fo_get rfl (eg_2 _) rfl ?_
    refine fo_get rfl (eg_0 _) rfl ?_
    refine fo_callI (As := [.ref 81, .int (1 : Int32), .int (gI qx1 81 1)]) (rest := []) rfl rfl rfl rfl (mi_rcv_of (eg_0 _)) (c_X0_wrong LS xs d (by omega) _ _ _) (fun qx2 => ?_)
    exact fo_ret2 rfl rfl
def f_X2_readQuoted  (s : fS) : Option (Int32 × fS) := f_X2_readQuoted_0 s
theorem c_X2_readQuoted (LS : Nat) (xs : Nat → Int32) (d : Nat) (hd : 2 ≤ d)   (s : fS) : fm mi_ms cvI LS xs d 43 [.ref 80] (enc s) (f_X2_readQuoted  s) := by
  obtain ⟨e, rfl⟩ : ∃ e, d = e + 1 := ⟨d - 1, by omega⟩
  exact fm_of (M := m_X2_readQuoted) rfl rfl (fun _ => ⟨_, rfl⟩) (g_X2_readQuoted_0 LS xs e (by omega) s)
def f_X2_readName_48   (t0 : Int32) (s : fS) : Option (Int32 × fS) := fchk (fbl t0) (some (t0, s))
theorem g_X2_readName_48 (LS : Nat) (xs : Nat → Int32) (d : Nat) (hd : 2 ≤ d)     (t0 : Int32)  (s : fS) : fo cvI t_X2_readName LS xs (mi_call mi_ms false LS xs d) (48, [some (.ref 80)], [.int t0], enc s) (f_X2_readName_48 t0 s) := by
  unfold f_X2_readName_48
  exact fo_ret2 rfl rfl
def f_X2_readName_0    (s : fS) : Option (Int32 × fS) := (bif decide (¬ (gI s 81 2) = (34 : Int32)) then ((f_X2_readPlain (sI (sI s 80 8 (gI s 81 1)) 80 9 (gI s (gadr (gP2 s) + 1) 1))).bind fun qx1 => f_X2_readName_48 qx1.1 qx1.2) else ((f_X2_readQuoted (sI (sI s 80 8 (gI s 81 1)) 80 9 (gI s (gadr (gP2 s) + 1) 1))).bind fun qx2 => f_X2_readName_48 qx2.1 qx2.2))
theorem g_X2_readName_0 (LS : Nat) (xs : Nat → Int32) (d : Nat) (hd : 2 ≤ d)       (s : fS) : fo cvI t_X2_readName LS xs (mi_call mi_ms false LS xs d) (0, [some (.ref 80)], [], enc s) (f_X2_readName_0 s) := by
  unfold f_X2_readName_0
  refine fo_st rfl rfl ?_
  refine fo_st rfl rfl ?_
  refine fo_get rfl (eg_2 _) rfl ?_
  refine fo_get rfl (eg_0 _) rfl ?_
  refine fo_put rfl (eg_2 _) rfl rfl (es_2_8 _ _) ?_
  refine fo_st rfl rfl ?_
  refine fo_st rfl rfl ?_
  refine fo_get rfl (eg_2 _) rfl ?_
  refine fo_get rfl (eg_gr _ _) rfl ?_
  refine fo_get rfl (eg_row _ (gk_1 _)) rfl ?_
  refine fo_put rfl (eg_2 _) rfl rfl (es_2_9 _ _) ?_
  refine fo_st rfl rfl ?_
  refine fo_get rfl (eg_2 _) rfl ?_
  refine fo_get rfl (eg_0 _) rfl ?_
  refine fo_st rfl rfl ?_
  refine fo_b rfl rfl ?_ ?_
  · refine fo_st rfl rfl ?_
    refine fo_callI (As := [.ref 80]) (rest := []) rfl rfl rfl rfl (mi_rcv_of (eg_2 _)) (c_X2_readPlain LS xs d (by omega)  _) (fun qx1 => ?_)
    exact g_X2_readName_48 LS xs d hd _ _
  · refine fo_st rfl rfl ?_
    refine fo_callI (As := [.ref 80]) (rest := []) rfl rfl rfl rfl (mi_rcv_of (eg_2 _)) (c_X2_readQuoted LS xs d (by omega)  _) (fun qx2 => ?_)
    refine fo_st rfl rfl ?_
    exact g_X2_readName_48 LS xs d hd _ _
def f_X2_readName  (s : fS) : Option (Int32 × fS) := f_X2_readName_0 s
theorem c_X2_readName (LS : Nat) (xs : Nat → Int32) (d : Nat) (hd : 3 ≤ d)   (s : fS) : fm mi_ms cvI LS xs d 41 [.ref 80] (enc s) (f_X2_readName  s) := by
  obtain ⟨e, rfl⟩ : ∃ e, d = e + 1 := ⟨d - 1, by omega⟩
  exact fm_of (M := m_X2_readName) rfl rfl (fun _ => ⟨_, rfl⟩) (g_X2_readName_0 LS xs e (by omega) s)
def f_X4_isSame_28 (a0 : Nat) (a2 : Nat)  : Nat → Int32 → Int32 → Int32 → Int32 → Int32 → fS → Option (Int32 × fS)
  | 0, _, _, _, _, _, _ => none
  | n + 1, l1, l3, l4, l5, l6, s => (bif decide (l4 ≤ l6) then some ((1 : Int32), s) else ((f_X3_at (sgn a0) (l5 + l6) s).bind fun qx1 => ((f_X3_at a2 (l3 + l6) qx1.2).bind fun qx2 => (bif decide (qx1.1 = qx2.1) then f_X4_isSame_28 a0 a2 n l1 l3 l4 l5 (l6 + Int32.ofInt (1)) qx2.2 else some ((0 : Int32), qx2.2)))))
theorem g_X4_isSame_28 (LS : Nat) (xs : Nat → Int32) (d : Nat) (hd : 1 ≤ d) (a0 : Nat) (a2 : Nat) (h0 : isSp a0 = true) (h2 : isRow a2 = true)   (n : Nat) : ∀ (l1 : Int32) (l3 : Int32) (l4 : Int32) (l5 : Int32) (l6 : Int32) (s : fS), fo cvI t_X4_isSame LS xs (mi_call mi_ms false LS xs d) (28, [some (.ref a0), some (.int l1), some (.ref a2), some (.int l3), some (.int l4), some (.int l5), some (.int l6)], [], enc s) (f_X4_isSame_28 a0 a2 n l1 l3 l4 l5 l6 s) := by
  induction n with
  | zero => intro l1 l3 l4 l5 l6 s; exact fo_none
  | succ n ih =>
    intro l1 l3 l4 l5 l6 s
    rw [f_X4_isSame_28]
    refine fo_st rfl rfl ?_
    refine fo_st rfl rfl ?_
    refine fo_b rfl rfl ?_ ?_
    · refine fo_st rfl rfl ?_
      exact fo_ret rfl rfl rfl
    · refine fo_st rfl rfl ?_
      refine fo_get rfl (eg_sp _ h0) rfl ?_
      refine fo_st rfl rfl ?_
      refine fo_st rfl rfl ?_
      refine fo_st rfl rfl ?_
      refine fo_callI (As := [.ref (sgn a0), .int (l5 + l6)]) (rest := []) rfl rfl rfl rfl (mi_rcv_of (eg_row _ (sp_sg h0))) (c_X3_at LS xs d (by omega) _ _ (sp_sg h0) _) (fun qx1 => ?_)
      refine fo_st rfl rfl ?_
      refine fo_st rfl rfl ?_
      refine fo_st rfl rfl ?_
      refine fo_st rfl rfl ?_
      refine fo_callI (As := [.ref a2, .int (l3 + l6)]) (rest := [.int qx1.1]) rfl rfl rfl rfl (mi_rcv_of (eg_row _ h2)) (c_X3_at LS xs d (by omega) _ _ h2 _) (fun qx2 => ?_)
      refine fo_b rfl rfl ?_ ?_
      · refine fo_st rfl rfl ?_
        refine fo_st rfl rfl ?_
        exact ih _ _ _ _ _ _
      · refine fo_st rfl rfl ?_
        exact fo_ret rfl rfl rfl
def f_X4_isSame_0 (a0 : Nat) (a2 : Nat)  (l1 : Int32) (l3 : Int32) (l4 : Int32) (s : fS) : Option (Int32 × fS) := ((f_X3_at (a0 + 3) l1 s).bind fun qx1 => (bif decide (qx1.1 = l4) then ((f_X3_at (a0 + 1) l1 qx1.2).bind fun qx2 => f_X4_isSame_28 a0 a2 fuel l1 l3 l4 qx2.1 (0 : Int32) qx2.2) else some ((0 : Int32), qx1.2)))
theorem g_X4_isSame_0 (LS : Nat) (xs : Nat → Int32) (d : Nat) (hd : 1 ≤ d) (a0 : Nat) (a2 : Nat) (h0 : isSp a0 = true) (h2 : isRow a2 = true)   (l1 : Int32) (l3 : Int32) (l4 : Int32)  (s : fS) : fo cvI t_X4_isSame LS xs (mi_call mi_ms false LS xs d) (0, [some (.ref a0), some (.int l1), some (.ref a2), some (.int l3), some (.int l4), none, none], [], enc s) (f_X4_isSame_0 a0 a2 l1 l3 l4 s) := by
  unfold f_X4_isSame_0
  refine fo_st rfl rfl ?_
  refine fo_get rfl (eg_sp _ h0) rfl ?_
  refine fo_st rfl rfl ?_
  refine fo_callI (As := [.ref (a0 + 3), .int l1]) (rest := []) rfl rfl rfl rfl (mi_rcv_of (eg_row _ (sp_ln h0))) (c_X3_at LS xs d (by omega) _ _ (sp_ln h0) _) (fun qx1 => ?_)
  refine fo_st rfl rfl ?_
  refine fo_b rfl rfl ?_ ?_
  · refine fo_st rfl rfl ?_
    refine fo_get rfl (eg_sp _ h0) rfl ?_
    refine fo_st rfl rfl ?_
    refine fo_callI (As := [.ref (a0 + 1), .int l1]) (rest := []) rfl rfl rfl rfl (mi_rcv_of (eg_row _ (sp_st h0))) (c_X3_at LS xs d (by omega) _ _ (sp_st h0) _) (fun qx2 => ?_)
    refine fo_st rfl rfl ?_
    refine fo_st rfl rfl ?_
    refine fo_st rfl rfl ?_
    exact g_X4_isSame_28 LS xs d hd a0 a2 h0 h2 fuel _ _ _ _ _ _
  · refine fo_st rfl rfl ?_
    exact fo_ret rfl rfl rfl
def f_X4_isSame (a0 : Nat) (l1 : Int32) (a2 : Nat) (l3 : Int32) (l4 : Int32) (s : fS) : Option (Int32 × fS) := f_X4_isSame_0 a0 a2 l1 l3 l4 s
theorem c_X4_isSame (LS : Nat) (xs : Nat → Int32) (d : Nat) (hd : 2 ≤ d) (a0 : Nat) (l1 : Int32) (a2 : Nat) (l3 : Int32) (l4 : Int32) (h0 : isSp a0 = true) (h2 : isRow a2 = true) (s : fS) : fm mi_ms cvI LS xs d 61 [.ref a0, .int l1, .ref a2, .int l3, .int l4] (enc s) (f_X4_isSame a0 l1 a2 l3 l4 s) := by
  obtain ⟨e, rfl⟩ : ∃ e, d = e + 1 := ⟨d - 1, by omega⟩
  exact fm_of (M := m_X4_isSame) rfl rfl (fun _ => ⟨_, rfl⟩) (g_X4_isSame_0 LS xs e (by omega) a0 a2 h0 h2 l1 l3 l4 s)
theorem p_X4_isSame_28 (a0 : Nat) (a2 : Nat)   (n : Nat) : ∀ (l1 : Int32) (l3 : Int32) (l4 : Int32) (l5 : Int32) (l6 : Int32) (s : fS), pu s (f_X4_isSame_28 a0 a2 n l1 l3 l4 l5 l6 s) := by
  induction n with
  | zero => intro l1 l3 l4 l5 l6 s; exact pu_none
  | succ n ih =>
    intro l1 l3 l4 l5 l6 s
    rw [f_X4_isSame_28]
    refine pu_b ?_ ?_
    · exact pu_some rfl
    · refine pu_bind (p_X3_at _ _ _) (fun v => ?_)
      refine pu_bind (p_X3_at _ _ _) (fun v => ?_)
      refine pu_b ?_ ?_
      · exact ih _ _ _ _ _ _
      · exact pu_some rfl
theorem p_X4_isSame_0 (a0 : Nat) (a2 : Nat)   (l1 : Int32) (l3 : Int32) (l4 : Int32) (s : fS) : pu s (f_X4_isSame_0 a0 a2 l1 l3 l4 s) := by
  unfold f_X4_isSame_0
  refine pu_bind (p_X3_at _ _ _) (fun v => ?_)
  refine pu_b ?_ ?_
  · refine pu_bind (p_X3_at _ _ _) (fun v => ?_)
    exact p_X4_isSame_28 a0 a2 fuel _ _ _ _ _ _
  · exact pu_some rfl
theorem p_X4_isSame (a0 : Nat) (l1 : Int32) (a2 : Nat) (l3 : Int32) (l4 : Int32) (s : fS) : pu s (f_X4_isSame a0 l1 a2 l3 l4 s) := p_X4_isSame_0 a0 a2 l1 l3 l4 s
def f_X4_indexOf_3 (a0 : Nat) (a1 : Nat)  : Nat → Int32 → Int32 → Int32 → fS → Option (Int32 × fS)
  | 0, _, _, _, _ => none
  | n + 1, l2, l3, l4, s => (bif decide ((gI s a0 3) ≤ l4) then some ((-1 : Int32), s) else ((f_X4_isSame a0 l4 a1 l2 l3 s).bind fun qx1 => (bif decide (qx1.1 = 0) then f_X4_indexOf_3 a0 a1 n l2 l3 (l4 + Int32.ofInt (1)) qx1.2 else some (l4, qx1.2))))
theorem g_X4_indexOf_3 (LS : Nat) (xs : Nat → Int32) (d : Nat) (hd : 2 ≤ d) (a0 : Nat) (a1 : Nat) (h0 : isSp a0 = true) (h1 : isRow a1 = true)   (n : Nat) : ∀ (l2 : Int32) (l3 : Int32) (l4 : Int32) (s : fS), fo cvI t_X4_indexOf LS xs (mi_call mi_ms false LS xs d) (3, [some (.ref a0), some (.ref a1), some (.int l2), some (.int l3), some (.int l4)], [], enc s) (f_X4_indexOf_3 a0 a1 n l2 l3 l4 s) := by
  induction n with
  | zero => intro l2 l3 l4 s; exact fo_none
  | succ n ih =>
    intro l2 l3 l4 s
    rw [f_X4_indexOf_3]
    refine fo_st rfl rfl ?_
    refine fo_st rfl rfl ?_
    refine fo_get rfl (eg_sp _ h0) rfl ?_
    refine fo_b rfl rfl ?_ ?_
    · refine fo_st rfl rfl ?_
      exact fo_ret rfl rfl rfl
    · refine fo_st rfl rfl ?_
      refine fo_st rfl rfl ?_
      refine fo_st rfl rfl ?_
      refine fo_st rfl rfl ?_
      refine fo_st rfl rfl ?_
      refine fo_callI (As := [.ref a0, .int l4, .ref a1, .int l2, .int l3]) (rest := []) rfl rfl rfl rfl (mi_rcv_of (eg_sp _ h0)) (c_X4_isSame LS xs d (by omega) _ _ _ _ _ h0 h1 _) (fun qx1 => ?_)
      refine fo_b rfl rfl ?_ ?_
      · refine fo_st rfl rfl ?_
        refine fo_st rfl rfl ?_
        exact ih _ _ _ _
      · refine fo_st rfl rfl ?_
        exact fo_ret rfl rfl rfl
def f_X4_indexOf_0 (a0 : Nat) (a1 : Nat)  (l2 : Int32) (l3 : Int32) (s : fS) : Option (Int32 × fS) := f_X4_indexOf_3 a0 a1 fuel l2 l3 (0 : Int32) s
theorem g_X4_indexOf_0 (LS : Nat) (xs : Nat → Int32) (d : Nat) (hd : 2 ≤ d) (a0 : Nat) (a1 : Nat) (h0 : isSp a0 = true) (h1 : isRow a1 = true)   (l2 : Int32) (l3 : Int32)  (s : fS) : fo cvI t_X4_indexOf LS xs (mi_call mi_ms false LS xs d) (0, [some (.ref a0), some (.ref a1), some (.int l2), some (.int l3), none], [], enc s) (f_X4_indexOf_0 a0 a1 l2 l3 s) := by
  unfold f_X4_indexOf_0
  refine fo_st rfl rfl ?_
  refine fo_st rfl rfl ?_
  exact g_X4_indexOf_3 LS xs d hd a0 a1 h0 h1 fuel _ _ _ _
def f_X4_indexOf (a0 : Nat) (a1 : Nat) (l2 : Int32) (l3 : Int32) (s : fS) : Option (Int32 × fS) := f_X4_indexOf_0 a0 a1 l2 l3 s
theorem c_X4_indexOf (LS : Nat) (xs : Nat → Int32) (d : Nat) (hd : 3 ≤ d) (a0 : Nat) (a1 : Nat) (l2 : Int32) (l3 : Int32) (h0 : isSp a0 = true) (h1 : isRow a1 = true) (s : fS) : fm mi_ms cvI LS xs d 60 [.ref a0, .ref a1, .int l2, .int l3] (enc s) (f_X4_indexOf a0 a1 l2 l3 s) := by
  obtain ⟨e, rfl⟩ : ∃ e, d = e + 1 := ⟨d - 1, by omega⟩
  exact fm_of (M := m_X4_indexOf) rfl rfl (fun _ => ⟨_, rfl⟩) (g_X4_indexOf_0 LS xs e (by omega) a0 a1 h0 h1 l2 l3 s)
theorem p_X4_indexOf_3 (a0 : Nat) (a1 : Nat)   (n : Nat) : ∀ (l2 : Int32) (l3 : Int32) (l4 : Int32) (s : fS), pu s (f_X4_indexOf_3 a0 a1 n l2 l3 l4 s) := by
  induction n with
  | zero => intro l2 l3 l4 s; exact pu_none
  | succ n ih =>
    intro l2 l3 l4 s
    rw [f_X4_indexOf_3]
    refine pu_b ?_ ?_
    · exact pu_some rfl
    · refine pu_bind (p_X4_isSame _ _ _ _ _ _) (fun v => ?_)
      refine pu_b ?_ ?_
      · exact ih _ _ _ _
      · exact pu_some rfl
theorem p_X4_indexOf_0 (a0 : Nat) (a1 : Nat)   (l2 : Int32) (l3 : Int32) (s : fS) : pu s (f_X4_indexOf_0 a0 a1 l2 l3 s) := by
  unfold f_X4_indexOf_0
  exact p_X4_indexOf_3 a0 a1 fuel _ _ _ _
theorem p_X4_indexOf (a0 : Nat) (a1 : Nat) (l2 : Int32) (l3 : Int32) (s : fS) : pu s (f_X4_indexOf a0 a1 l2 l3 s) := p_X4_indexOf_0 a0 a1 l2 l3 s
def f_X2_readHead_21    (s : fS) : Option (Int32 × fS) := ((f_X0_wrong (4 : Int32) (gI s 81 1) s).bind fun qx1 => fchk (fbl qx1.1) (some (qx1.1, qx1.2)))
theorem g_X2_readHead_21 (LS : Nat) (xs : Nat → Int32) (d : Nat) (hd : 3 ≤ d)       (s : fS) : fo cvI t_X2_readHead LS xs (mi_call mi_ms false LS xs d) (21, [some (.ref 80), none, none], [], enc s) (f_X2_readHead_21 s) := by
  unfold f_X2_readHead_21
  refine fo_st rfl rfl ?_
  refine fo_get rfl (eg_2 _) rfl ?_
  refine fo_st rfl rfl ?_
  refine fo_st rfl rfl ?_
  refine fo_get rfl (eg_2 _) rfl ?_
  refine fo_get rfl (eg_0 _) rfl ?_
  refine fo_callI (As := [.ref 81, .int (4 : Int32), .int (gI s 81 1)]) (rest := []) rfl rfl rfl rfl (mi_rcv_of (eg_0 _)) (c_X0_wrong LS xs d (by omega) _ _ _) (fun qx1 => ?_)
  exact fo_ret2 rfl rfl
def f_X2_readHead_58    (s : fS) : Option (Int32 × fS) := some ((0 : Int32), s)
theorem g_X2_readHead_58 (LS : Nat) (xs : Nat → Int32) (d : Nat) (hd : 3 ≤ d)       (s : fS) : fo cvI t_X2_readHead LS xs (mi_call mi_ms false LS xs d) (58, [some (.ref 80), none, none], [], enc s) (f_X2_readHead_58 s) := by
  unfold f_X2_readHead_58
  refine fo_st rfl rfl ?_
  exact fo_ret rfl rfl rfl
def f_X2_readHead_0    (s : fS) : Option (Int32 × fS) := (bif decide (¬ (gI s 80 3) = 0) then f_X2_readHead_21 s else (bif decide ((gI s (gadr (gP2 s) + 8) 3) < (3 : Int32)) then ((f_X0_step s).bind fun qx1 => ((f_X2_readGap qx1).bind fun qx2 => (bif decide (qx2.1 = 0) then f_X2_readHead_58 qx2.2 else ((f_X2_readName qx2.2).bind fun qx3 => (bif decide (¬ qx3.1 = 0) then ((f_X4_indexOf (gadr (gP2 qx3.2) + 8) (gadr (gP2 qx3.2) + 1) (gI qx3.2 80 9) ((gI qx3.2 (gadr (gP2 qx3.2) + 1) 1) - (gI qx3.2 80 9)) qx3.2).bind fun qx4 => (bif decide (qx4.1 = (-1 : Int32)) then ((f_X4_add (gadr (gP2 qx4.2) + 8) (gI qx4.2 80 9) ((gI qx3.2 (gadr (gP2 qx3.2) + 1) 1) - (gI qx3.2 80 9)) qx4.2).bind fun qx5 => ((f_X2_readGap qx5).bind fun qx6 => (bif decide (¬ qx6.1 = 0) then ((f_X2_kindOfLetter (gI qx6.2 81 2) qx6.2).bind fun qx7 => (bif decide (¬ qx7.1 = (-1 : Int32)) then ((f_X3_add (gadr (gP2 qx7.2) + 18) qx7.1 qx7.2).bind fun qx8 => ((f_X3_add (gadr (gP2 qx8) + 35) (2 : Int32) qx8).bind fun qx9 => ((f_X0_step qx9).bind fun qx10 => ((f_X2_readLineEnd qx10).bind fun qx11 => fchk (fbl qx11.1) (some (qx11.1, qx11.2)))))) else ((f_X0_wrong (1 : Int32) (gI qx7.2 81 1) qx7.2).bind fun qx12 => fchk (fbl qx12.1) (some (qx12.1, qx12.2))))) else some ((0 : Int32), qx6.2)))) else ((f_X0_wrong (4 : Int32) (gI qx4.2 80 8) qx4.2).bind fun qx13 => fchk (fbl qx13.1) (some (qx13.1, qx13.2))))) else f_X2_readHead_58 qx3.2))))) else f_X2_readHead_21 s))
theorem g_X2_readHead_0 (LS : Nat) (xs : Nat → Int32) (d : Nat) (hd : 3 ≤ d)       (s : fS) : fo cvI t_X2_readHead LS xs (mi_call mi_ms false LS xs d) (0, [some (.ref 80), none, none], [], enc s) (f_X2_readHead_0 s) := by
  unfold f_X2_readHead_0
  refine fo_st rfl rfl ?_
  refine fo_get rfl (eg_2 _) rfl ?_
  refine fo_b rfl rfl ?_ ?_
  · exact g_X2_readHead_21 LS xs d hd _
  · refine fo_st rfl rfl ?_
    refine fo_get rfl (eg_2 _) rfl ?_
    refine fo_get rfl (eg_gr _ _) rfl ?_
    refine fo_get rfl (eg_sp _ (gk_8 _)) rfl ?_
    refine fo_st rfl rfl ?_
    refine fo_b rfl rfl ?_ ?_
    · refine fo_st rfl rfl ?_
      refine fo_get rfl (eg_2 _) rfl ?_
      refine fo_callV (As := [.ref 81]) (rest := []) rfl rfl rfl rfl (mi_rcv_of (eg_0 _)) (c_X0_step LS xs d (by omega)  _) (fun qx1 => ?_)
      refine fo_st rfl rfl ?_
      refine fo_callI (As := [.ref 80]) (rest := []) rfl rfl rfl rfl (mi_rcv_of (eg_2 _)) (c_X2_readGap LS xs d (by omega)  _) (fun qx2 => ?_)
      refine fo_b rfl rfl ?_ ?_
      · exact g_X2_readHead_58 LS xs d hd _
      · refine fo_st rfl rfl ?_
        refine fo_callI (As := [.ref 80]) (rest := []) rfl rfl rfl rfl (mi_rcv_of (eg_2 _)) (c_X2_readName LS xs d (by omega)  _) (fun qx3 => ?_)
        refine fo_b rfl rfl ?_ ?_
        · refine fo_st rfl rfl ?_
          refine fo_get rfl (eg_2 _) rfl ?_
          refine fo_get rfl (eg_gr _ _) rfl ?_
          refine fo_get rfl (eg_row _ (gk_1 _)) rfl ?_
          refine fo_st rfl rfl ?_
          refine fo_get rfl (eg_2 _) rfl ?_
          refine fo_st rfl rfl ?_
          refine fo_st rfl rfl ?_
          refine fo_st rfl rfl ?_
          refine fo_get rfl (eg_2 _) rfl ?_
          refine fo_get rfl (eg_gr _ _) rfl ?_
          refine fo_st rfl rfl ?_
          refine fo_get rfl (eg_2 _) rfl ?_
          refine fo_get rfl (eg_gr _ _) rfl ?_
          refine fo_st rfl rfl ?_
          refine fo_get rfl (eg_2 _) rfl ?_
          refine fo_st rfl rfl ?_
          refine fo_callI (As := [.ref (gadr (gP2 qx3.2) + 8), .ref (gadr (gP2 qx3.2) + 1), .int (gI qx3.2 80 9), .int ((gI qx3.2 (gadr (gP2 qx3.2) + 1) 1) - (gI qx3.2 80 9))]) (rest := []) rfl rfl rfl rfl (mi_rcv_of (eg_sp _ (gk_8 _))) (c_X4_indexOf LS xs d (by omega) _ _ _ _ (gk_8 _) (gk_1 _) _) (fun qx4 => ?_)
          refine fo_st rfl rfl ?_
          refine fo_b rfl rfl ?_ ?_
          · refine fo_st rfl rfl ?_
            refine fo_get rfl (eg_2 _) rfl ?_
            refine fo_get rfl (eg_gr _ _) rfl ?_
            refine fo_st rfl rfl ?_
            refine fo_get rfl (eg_2 _) rfl ?_
            refine fo_st rfl rfl ?_
            refine fo_callV (As := [.ref (gadr (gP2 qx4.2) + 8), .int (gI qx4.2 80 9), .int ((gI qx3.2 (gadr (gP2 qx3.2) + 1) 1) - (gI qx3.2 80 9))]) (rest := []) rfl rfl rfl rfl (mi_rcv_of (eg_sp _ (gk_8 _))) (c_X4_add LS xs d (by omega) _ _ _ (gk_8 _) _) (fun qx5 => ?_)
            refine fo_st rfl rfl ?_
            refine fo_callI (As := [.ref 80]) (rest := []) rfl rfl rfl rfl (mi_rcv_of (eg_2 _)) (c_X2_readGap LS xs d (by omega)  _) (fun qx6 => ?_)
            refine fo_b rfl rfl ?_ ?_
            · refine fo_st rfl rfl ?_
              refine fo_get rfl (eg_2 _) rfl ?_
              refine fo_get rfl (eg_0 _) rfl ?_
              refine fo_callI (As := [.int (gI qx6.2 81 2)]) (rest := []) rfl rfl rfl rfl True.intro (c_X2_kindOfLetter LS xs d (by omega) _ _) (fun qx7 => ?_)
              refine fo_st rfl rfl ?_
              refine fo_st rfl rfl ?_
              refine fo_st rfl rfl ?_
              refine fo_b rfl rfl ?_ ?_
              · refine fo_st rfl rfl ?_
                refine fo_get rfl (eg_2 _) rfl ?_
                refine fo_get rfl (eg_gr _ _) rfl ?_
                refine fo_st rfl rfl ?_
                refine fo_callV (As := [.ref (gadr (gP2 qx7.2) + 18), .int qx7.1]) (rest := []) rfl rfl rfl rfl (mi_rcv_of (eg_row _ (gk_18 _))) (c_X3_add LS xs d (by omega) _ _ (gk_18 _) _) (fun qx8 => ?_)
                refine fo_st rfl rfl ?_
                refine fo_get rfl (eg_2 _) rfl ?_
                refine fo_get rfl (eg_gr _ _) rfl ?_
                refine fo_st rfl rfl ?_
                refine fo_callV (As := [.ref (gadr (gP2 qx8) + 35), .int (2 : Int32)]) (rest := []) rfl rfl rfl rfl (mi_rcv_of (eg_row _ (gk_35 _))) (c_X3_add LS xs d (by omega) _ _ (gk_35 _) _) (fun qx9 => ?_)
                refine fo_st rfl rfl ?_
                refine fo_get rfl (eg_2 _) rfl ?_
                refine fo_callV (As := [.ref 81]) (rest := []) rfl rfl rfl rfl (mi_rcv_of (eg_0 _)) (c_X0_step LS xs d (by omega)  _) (fun qx10 => ?_)
                refine fo_st rfl rfl ?_
                refine fo_callI (As := [.ref 80]) (rest := []) rfl rfl rfl rfl (mi_rcv_of (eg_2 _)) (c_X2_readLineEnd LS xs d (by omega)  _) (fun qx11 => ?_)
                exact fo_ret2 rfl rfl
              · refine fo_st rfl rfl ?_
                refine fo_get rfl (eg_2 _) rfl ?_
                refine fo_st rfl rfl ?_
                refine fo_st rfl rfl ?_
                refine fo_get rfl (eg_2 _) rfl ?_
                refine fo_get rfl (eg_0 _) rfl ?_
                refine fo_callI (As := [.ref 81, .int (1 : Int32), .int (gI qx7.2 81 1)]) (rest := []) rfl rfl rfl rfl (mi_rcv_of (eg_0 _)) (c_X0_wrong LS xs d (by omega) _ _ _) (fun qx12 => ?_)
                exact fo_ret2 rfl rfl
            · refine fo_st rfl rfl ?_
              exact fo_ret rfl rfl rfl
          · refine fo_st rfl rfl ?_
            refine fo_get rfl (eg_2 _) rfl ?_
            refine fo_st rfl rfl ?_
            refine fo_st rfl rfl ?_
            refine fo_get rfl (eg_2 _) rfl ?_
            refine fo_callI (As := [.ref 81, .int (4 : Int32), .int (gI qx4.2 80 8)]) (rest := []) rfl rfl rfl rfl (mi_rcv_of (eg_0 _)) (c_X0_wrong LS xs d (by omega) _ _ _) (fun qx13 => ?_)
            exact fo_ret2 rfl rfl
        · exact g_X2_readHead_58 LS xs d hd _
    · exact g_X2_readHead_21 LS xs d hd _
def f_X2_readHead  (s : fS) : Option (Int32 × fS) := f_X2_readHead_0 s
theorem c_X2_readHead (LS : Nat) (xs : Nat → Int32) (d : Nat) (hd : 4 ≤ d)   (s : fS) : fm mi_ms cvI LS xs d 29 [.ref 80] (enc s) (f_X2_readHead  s) := by
  obtain ⟨e, rfl⟩ : ∃ e, d = e + 1 := ⟨d - 1, by omega⟩
  exact fm_of (M := m_X2_readHead) rfl rfl (fun _ => ⟨_, rfl⟩) (g_X2_readHead_0 LS xs e (by omega) s)
def f_X2_takeNode_0    (s : fS) : Option (Int32 × fS) := ((f_X4_indexOf (gadr (gP2 s) + 3) (gadr (gP2 s) + 1) (gI s 80 9) ((gI s (gadr (gP2 s) + 1) 1) - (gI s 80 9)) s).bind fun qx1 => (bif decide (qx1.1 = (-1 : Int32)) then (bif decide ((gI qx1.2 (gadr (gP2 qx1.2) + 3) 3) < (30 : Int32)) then ((f_X4_add (gadr (gP2 qx1.2) + 3) (gI qx1.2 80 9) ((gI s (gadr (gP2 s) + 1) 1) - (gI s 80 9)) qx1.2).bind fun qx2 => some (((gI qx2 (gadr (gP2 qx2) + 3) 3) - (1 : Int32)), qx2)) else ((f_X0_wrong (6 : Int32) (gI qx1.2 80 8) qx1.2).bind fun qx3 => some ((-1 : Int32), qx3.2))) else some (qx1.1, qx1.2)))
theorem g_X2_takeNode_0 (LS : Nat) (xs : Nat → Int32) (d : Nat) (hd : 3 ≤ d)       (s : fS) : fo cvI t_X2_takeNode LS xs (mi_call mi_ms false LS xs d) (0, [some (.ref 80), none, none], [], enc s) (f_X2_takeNode_0 s) := by
  unfold f_X2_takeNode_0
  refine fo_st rfl rfl ?_
  refine fo_get rfl (eg_2 _) rfl ?_
  refine fo_get rfl (eg_gr _ _) rfl ?_
  refine fo_get rfl (eg_row _ (gk_1 _)) rfl ?_
  refine fo_st rfl rfl ?_
  refine fo_get rfl (eg_2 _) rfl ?_
  refine fo_st rfl rfl ?_
  refine fo_st rfl rfl ?_
  refine fo_st rfl rfl ?_
  refine fo_get rfl (eg_2 _) rfl ?_
  refine fo_get rfl (eg_gr _ _) rfl ?_
  refine fo_st rfl rfl ?_
  refine fo_get rfl (eg_2 _) rfl ?_
  refine fo_get rfl (eg_gr _ _) rfl ?_
  refine fo_st rfl rfl ?_
  refine fo_get rfl (eg_2 _) rfl ?_
  refine fo_st rfl rfl ?_
  refine fo_callI (As := [.ref (gadr (gP2 s) + 3), .ref (gadr (gP2 s) + 1), .int (gI s 80 9), .int ((gI s (gadr (gP2 s) + 1) 1) - (gI s 80 9))]) (rest := []) rfl rfl rfl rfl (mi_rcv_of (eg_sp _ (gk_3 _))) (c_X4_indexOf LS xs d (by omega) _ _ _ _ (gk_3 _) (gk_1 _) _) (fun qx1 => ?_)
  refine fo_st rfl rfl ?_
  refine fo_st rfl rfl ?_
  refine fo_st rfl rfl ?_
  refine fo_b rfl rfl ?_ ?_
  · refine fo_st rfl rfl ?_
    refine fo_get rfl (eg_2 _) rfl ?_
    refine fo_get rfl (eg_gr _ _) rfl ?_
    refine fo_get rfl (eg_sp _ (gk_3 _)) rfl ?_
    refine fo_st rfl rfl ?_
    refine fo_b rfl rfl ?_ ?_
    · refine fo_st rfl rfl ?_
      refine fo_get rfl (eg_2 _) rfl ?_
      refine fo_get rfl (eg_gr _ _) rfl ?_
      refine fo_st rfl rfl ?_
      refine fo_get rfl (eg_2 _) rfl ?_
      refine fo_st rfl rfl ?_
      refine fo_callV (As := [.ref (gadr (gP2 qx1.2) + 3), .int (gI qx1.2 80 9), .int ((gI s (gadr (gP2 s) + 1) 1) - (gI s 80 9))]) (rest := []) rfl rfl rfl rfl (mi_rcv_of (eg_sp _ (gk_3 _))) (c_X4_add LS xs d (by omega) _ _ _ (gk_3 _) _) (fun qx2 => ?_)
      refine fo_st rfl rfl ?_
      refine fo_get rfl (eg_2 _) rfl ?_
      refine fo_get rfl (eg_gr _ _) rfl ?_
      refine fo_get rfl (eg_sp _ (gk_3 _)) rfl ?_
      refine fo_st rfl rfl ?_
      refine fo_st rfl rfl ?_
      exact fo_ret rfl rfl rfl
    · refine fo_st rfl rfl ?_
      refine fo_get rfl (eg_2 _) rfl ?_
      refine fo_st rfl rfl ?_
      refine fo_st rfl rfl ?_
      refine fo_get rfl (eg_2 _) rfl ?_
      refine fo_callI (As := [.ref 81, .int (6 : Int32), .int (gI qx1.2 80 8)]) (rest := []) rfl rfl rfl rfl (mi_rcv_of (eg_0 _)) (c_X0_wrong LS xs d (by omega) _ _ _) (fun qx3 => ?_)
      refine fo_st rfl rfl ?_
      refine fo_st rfl rfl ?_
      exact fo_ret rfl rfl rfl
  · refine fo_st rfl rfl ?_
    exact fo_ret rfl rfl rfl
def f_X2_takeNode  (s : fS) : Option (Int32 × fS) := f_X2_takeNode_0 s
theorem c_X2_takeNode (LS : Nat) (xs : Nat → Int32) (d : Nat) (hd : 4 ≤ d)   (s : fS) : fm mi_ms cvI LS xs d 33 [.ref 80] (enc s) (f_X2_takeNode  s) := by
  obtain ⟨e, rfl⟩ : ∃ e, d = e + 1 := ⟨d - 1, by omega⟩
  exact fm_of (M := m_X2_takeNode) rfl rfl (fun _ => ⟨_, rfl⟩) (g_X2_takeNode_0 LS xs e (by omega) s)
def f_X2_readEnds_50    (s : fS) : Option (Int32 × fS) := some ((0 : Int32), s)
theorem g_X2_readEnds_50 (LS : Nat) (xs : Nat → Int32) (d : Nat) (hd : 4 ≤ d)       (s : fS) : fo cvI t_X2_readEnds LS xs (mi_call mi_ms false LS xs d) (50, [some (.ref 80)], [], enc s) (f_X2_readEnds_50 s) := by
  unfold f_X2_readEnds_50
  refine fo_st rfl rfl ?_
  exact fo_ret rfl rfl rfl
def f_X2_readEnds_117    (s : fS) : Option (Int32 × fS) := some ((1 : Int32), s)
theorem g_X2_readEnds_117 (LS : Nat) (xs : Nat → Int32) (d : Nat) (hd : 4 ≤ d)       (s : fS) : fo cvI t_X2_readEnds LS xs (mi_call mi_ms false LS xs d) (117, [some (.ref 80)], [], enc s) (f_X2_readEnds_117 s) := by
  unfold f_X2_readEnds_117
  refine fo_st rfl rfl ?_
  exact fo_ret rfl rfl rfl
def f_X2_readEnds_0    (s : fS) : Option (Int32 × fS) := ((f_X2_readName (sI s 80 12 (gI s 81 1))).bind fun qx1 => (bif decide (¬ qx1.1 = 0) then ((f_X2_takeNode qx1.2).bind fun qx2 => (bif decide (qx2.1 = (-1 : Int32)) then f_X2_readEnds_50 (sI qx2.2 80 13 qx2.1) else ((f_X2_readGap (sI qx2.2 80 13 qx2.1)).bind fun qx3 => (bif decide (qx3.1 = 0) then f_X2_readEnds_50 qx3.2 else ((f_X2_readName qx3.2).bind fun qx4 => (bif decide (¬ qx4.1 = 0) then ((f_X2_takeNode qx4.2).bind fun qx5 => (bif decide (¬ qx5.1 = (-1 : Int32)) then ((f_X1_hasArc (gP2 qx5.2) (gI qx5.2 80 13) qx5.1 (sI qx5.2 80 14 qx5.1)).bind fun qx6 => fchk (fits .boolean (.int qx6.1)) ((bif decide (qx6.1 = 0) then f_X2_readEnds_117 (sI qx6.2 80 15 qx6.1) else (bif decide (¬ (gI qx6.2 80 2) = (2 : Int32)) then f_X2_readEnds_117 (sI qx6.2 80 15 qx6.1) else ((f_X0_wrong (5 : Int32) (gI qx6.2 80 8) (sI qx6.2 80 15 qx6.1)).bind fun qx7 => fchk (fbl qx7.1) (some (qx7.1, qx7.2))))))) else some ((0 : Int32), (sI qx5.2 80 14 qx5.1)))) else f_X2_readEnds_50 qx4.2)))))) else some ((0 : Int32), qx1.2)))
theorem g_X2_readEnds_0 (LS : Nat) (xs : Nat → Int32) (d : Nat) (hd : 4 ≤ d)       (s : fS) : fo cvI t_X2_readEnds LS xs (mi_call mi_ms false LS xs d) (0, [some (.ref 80)], [], enc s) (f_X2_readEnds_0 s) := by
  unfold f_X2_readEnds_0
  refine fo_st rfl rfl ?_
  refine fo_st rfl rfl ?_
  refine fo_get rfl (eg_2 _) rfl ?_
  refine fo_get rfl (eg_0 _) rfl ?_
  refine fo_put rfl (eg_2 _) rfl rfl (es_2_12 _ _) ?_
  refine fo_st rfl rfl ?_
  refine fo_callI (As := [.ref 80]) (rest := []) rfl rfl rfl rfl (mi_rcv_of (eg_2 _)) (c_X2_readName LS xs d (by omega)  _) (fun qx1 => ?_)
  refine fo_b rfl rfl ?_ ?_
  · refine fo_st rfl rfl ?_
    refine fo_st rfl rfl ?_
    refine fo_callI (As := [.ref 80]) (rest := [.ref 80]) rfl rfl rfl rfl (mi_rcv_of (eg_2 _)) (c_X2_takeNode LS xs d (by omega)  _) (fun qx2 => ?_)
    refine fo_put rfl (eg_2 _) rfl rfl (es_2_13 _ _) ?_
    refine fo_st rfl rfl ?_
    refine fo_get rfl (eg_2 _) rfl ?_
    refine fo_st rfl rfl ?_
    refine fo_b rfl rfl ?_ ?_
    · exact g_X2_readEnds_50 LS xs d hd _
    · refine fo_st rfl rfl ?_
      refine fo_callI (As := [.ref 80]) (rest := []) rfl rfl rfl rfl (mi_rcv_of (eg_2 _)) (c_X2_readGap LS xs d (by omega)  _) (fun qx3 => ?_)
      refine fo_b rfl rfl ?_ ?_
      · exact g_X2_readEnds_50 LS xs d hd _
      · refine fo_st rfl rfl ?_
        refine fo_callI (As := [.ref 80]) (rest := []) rfl rfl rfl rfl (mi_rcv_of (eg_2 _)) (c_X2_readName LS xs d (by omega)  _) (fun qx4 => ?_)
        refine fo_b rfl rfl ?_ ?_
        · refine fo_st rfl rfl ?_
          refine fo_st rfl rfl ?_
          refine fo_callI (As := [.ref 80]) (rest := [.ref 80]) rfl rfl rfl rfl (mi_rcv_of (eg_2 _)) (c_X2_takeNode LS xs d (by omega)  _) (fun qx5 => ?_)
          refine fo_put rfl (eg_2 _) rfl rfl (es_2_14 _ _) ?_
          refine fo_st rfl rfl ?_
          refine fo_get rfl (eg_2 _) rfl ?_
          refine fo_st rfl rfl ?_
          refine fo_b rfl rfl ?_ ?_
          · refine fo_st rfl rfl ?_
            refine fo_st rfl rfl ?_
            refine fo_get rfl (eg_2 _) rfl ?_
            refine fo_st rfl rfl ?_
            refine fo_get rfl (eg_2 _) rfl ?_
            refine fo_st rfl rfl ?_
            refine fo_get rfl (eg_2 _) rfl ?_
            refine fo_callI (As := [.ref (gadr (gP2 qx5.2)), .int (gI qx5.2 80 13), .int qx5.1]) (rest := [.ref 80]) rfl rfl rfl rfl (mi_rcv_of (eg_gr _ _)) (c_X1_hasArc LS xs d (by omega) _ _ _ _) (fun qx6 => ?_)
            refine fo_ck fun hc => ?_
            refine fo_put rfl (eg_2 _) hc rfl (es_2_15 _ _) ?_
            refine fo_st rfl rfl ?_
            refine fo_get rfl (eg_2 _) rfl ?_
            refine fo_b rfl rfl ?_ ?_
            · exact g_X2_readEnds_117 LS xs d hd _
            · refine fo_st rfl rfl ?_
              refine fo_get rfl (eg_2 _) rfl ?_
              refine fo_st rfl rfl ?_
              refine fo_b rfl rfl ?_ ?_
              · exact g_X2_readEnds_117 LS xs d hd _
              · refine fo_st rfl rfl ?_
                refine fo_get rfl (eg_2 _) rfl ?_
                refine fo_st rfl rfl ?_
                refine fo_st rfl rfl ?_
                refine fo_get rfl (eg_2 _) rfl ?_
                refine fo_callI (As := [.ref 81, .int (5 : Int32), .int (gI qx6.2 80 8)]) (rest := []) rfl rfl rfl rfl (mi_rcv_of (eg_0 _)) (c_X0_wrong LS xs d (by omega) _ _ _) (fun qx7 => ?_)
                exact fo_ret2 rfl rfl
          · refine fo_st rfl rfl ?_
            exact fo_ret rfl rfl rfl
        · exact g_X2_readEnds_50 LS xs d hd _
  · refine fo_st rfl rfl ?_
    exact fo_ret rfl rfl rfl
def f_X2_readEnds  (s : fS) : Option (Int32 × fS) := f_X2_readEnds_0 s
theorem c_X2_readEnds (LS : Nat) (xs : Nat → Int32) (d : Nat) (hd : 5 ≤ d)   (s : fS) : fm mi_ms cvI LS xs d 31 [.ref 80] (enc s) (f_X2_readEnds  s) := by
  obtain ⟨e, rfl⟩ : ∃ e, d = e + 1 := ⟨d - 1, by omega⟩
  exact fm_of (M := m_X2_readEnds) rfl rfl (fun _ => ⟨_, rfl⟩) (g_X2_readEnds_0 LS xs e (by omega) s)
def f_X2_endArc_38    (s : fS) : Option (Int32 × fS) := ((f_X1_arcCount (gP2 s) s).bind fun qx1 => (bif decide (qx1.1 < (40 : Int32)) then ((f_X1_addArc (gP2 qx1.2) (gI qx1.2 80 13) (gI qx1.2 80 14) (gI qx1.2 81 3) qx1.2).bind fun qx2 => some ((1 : Int32), qx2)) else ((f_X0_wrong (6 : Int32) (gI qx1.2 80 12) qx1.2).bind fun qx3 => fchk (fbl qx3.1) (some (qx3.1, qx3.2)))))
theorem g_X2_endArc_38 (LS : Nat) (xs : Nat → Int32) (d : Nat) (hd : 3 ≤ d)       (s : fS) : fo cvI t_X2_endArc LS xs (mi_call mi_ms false LS xs d) (38, [some (.ref 80)], [], enc s) (f_X2_endArc_38 s) := by
  unfold f_X2_endArc_38
  refine fo_st rfl rfl ?_
  refine fo_get rfl (eg_2 _) rfl ?_
  refine fo_callI (As := [.ref (gadr (gP2 s))]) (rest := []) rfl rfl rfl rfl (mi_rcv_of (eg_gr _ _)) (c_X1_arcCount LS xs d (by omega) _ _) (fun qx1 => ?_)
  refine fo_st rfl rfl ?_
  refine fo_b rfl rfl ?_ ?_
  · refine fo_st rfl rfl ?_
    refine fo_get rfl (eg_2 _) rfl ?_
    refine fo_st rfl rfl ?_
    refine fo_get rfl (eg_2 _) rfl ?_
    refine fo_st rfl rfl ?_
    refine fo_get rfl (eg_2 _) rfl ?_
    refine fo_st rfl rfl ?_
    refine fo_get rfl (eg_2 _) rfl ?_
    refine fo_get rfl (eg_0 _) rfl ?_
    refine fo_callV (As := [.ref (gadr (gP2 qx1.2)), .int (gI qx1.2 80 13), .int (gI qx1.2 80 14), .int (gI qx1.2 81 3)]) (rest := []) rfl rfl rfl rfl (mi_rcv_of (eg_gr _ _)) (c_X1_addArc LS xs d (by omega) _ _ _ _ _) (fun qx2 => ?_)
    refine fo_st rfl rfl ?_
    exact fo_ret rfl rfl rfl
  · refine fo_st rfl rfl ?_
    refine fo_get rfl (eg_2 _) rfl ?_
    refine fo_st rfl rfl ?_
    refine fo_st rfl rfl ?_
    refine fo_get rfl (eg_2 _) rfl ?_
    refine fo_callI (As := [.ref 81, .int (6 : Int32), .int (gI qx1.2 80 12)]) (rest := []) rfl rfl rfl rfl (mi_rcv_of (eg_0 _)) (c_X0_wrong LS xs d (by omega) _ _ _) (fun qx3 => ?_)
    exact fo_ret2 rfl rfl
def f_X2_endArc_0    (s : fS) : Option (Int32 × fS) := ((f_X2_readLineEnd s).bind fun qx1 => (bif decide (¬ qx1.1 = 0) then (bif decide ((gI qx1.2 80 15) = 0) then f_X2_endArc_38 (sI qx1.2 80 3 (1 : Int32)) else (bif decide (¬ (gI qx1.2 80 2) = (1 : Int32)) then f_X2_endArc_38 (sI qx1.2 80 3 (1 : Int32)) else ((f_X1_leaveArcOut (gP2 qx1.2) (sI qx1.2 80 3 (1 : Int32))).bind fun qx2 => some ((1 : Int32), qx2)))) else some ((0 : Int32), qx1.2)))
theorem g_X2_endArc_0 (LS : Nat) (xs : Nat → Int32) (d : Nat) (hd : 3 ≤ d)       (s : fS) : fo cvI t_X2_endArc LS xs (mi_call mi_ms false LS xs d) (0, [some (.ref 80)], [], enc s) (f_X2_endArc_0 s) := by
  unfold f_X2_endArc_0
  refine fo_st rfl rfl ?_
  refine fo_callI (As := [.ref 80]) (rest := []) rfl rfl rfl rfl (mi_rcv_of (eg_2 _)) (c_X2_readLineEnd LS xs d (by omega)  _) (fun qx1 => ?_)
  refine fo_b rfl rfl ?_ ?_
  · refine fo_st rfl rfl ?_
    refine fo_st rfl rfl ?_
    refine fo_put rfl (eg_2 _) rfl rfl (es_2_3 _ _) ?_
    refine fo_st rfl rfl ?_
    refine fo_get rfl (eg_2 _) rfl ?_
    refine fo_b rfl rfl ?_ ?_
    · exact g_X2_endArc_38 LS xs d hd _
    · refine fo_st rfl rfl ?_
      refine fo_get rfl (eg_2 _) rfl ?_
      refine fo_st rfl rfl ?_
      refine fo_b rfl rfl ?_ ?_
      · exact g_X2_endArc_38 LS xs d hd _
      · refine fo_st rfl rfl ?_
        refine fo_get rfl (eg_2 _) rfl ?_
        refine fo_callV (As := [.ref (gadr (gP2 qx1.2))]) (rest := []) rfl rfl rfl rfl (mi_rcv_of (eg_gr _ _)) (c_X1_leaveArcOut LS xs d (by omega) _ _) (fun qx2 => ?_)
        refine fo_st rfl rfl ?_
        exact fo_ret rfl rfl rfl
  · refine fo_st rfl rfl ?_
    exact fo_ret rfl rfl rfl
def f_X2_endArc  (s : fS) : Option (Int32 × fS) := f_X2_endArc_0 s
theorem c_X2_endArc (LS : Nat) (xs : Nat → Int32) (d : Nat) (hd : 4 ≤ d)   (s : fS) : fm mi_ms cvI LS xs d 32 [.ref 80] (enc s) (f_X2_endArc  s) := by
  obtain ⟨e, rfl⟩ : ∃ e, d = e + 1 := ⟨d - 1, by omega⟩
  exact fm_of (M := m_X2_endArc) rfl rfl (fun _ => ⟨_, rfl⟩) (g_X2_endArc_0 LS xs e (by omega) s)
def f_X2_readFraction_154   (l1 : Int32) (l2 : Int32) (s : fS) : Option (Int32 × fS) := some ((1 : Int32), s)
theorem g_X2_readFraction_154 (LS : Nat) (xs : Nat → Int32) (d : Nat) (hd : 1 ≤ d)     (l1 : Int32) (l2 : Int32)  (s : fS) : fo cvI t_X2_readFraction LS xs (mi_call mi_ms false LS xs d) (154, [some (.ref 80), some (.int l1), some (.int l2)], [], enc s) (f_X2_readFraction_154 l1 l2 s) := by
  unfold f_X2_readFraction_154
  refine fo_st rfl rfl ?_
  exact fo_ret rfl rfl rfl
def f_X2_readFraction_85   : Nat → Int32 → Int32 → fS → Option (Int32 × fS)
  | 0, _, _, _ => none
  | n + 1, l1, l2, s => (bif decide ((3 : Int32) < l2) then f_X2_readFraction_154 l1 l2 s else ((f_X6_isFigure (gI s 81 2) s).bind fun qx1 => (bif decide (qx1.1 = 0) then f_X2_readFraction_154 l1 l2 qx1.2 else (bif decide (¬ l2 = (3 : Int32)) then ((f_X3_add (gadr (gP2 qx1.2) + 1) (gI qx1.2 81 2) qx1.2).bind fun qx2 => ((f_X0_step qx2).bind fun qx3 => f_X2_readFraction_85 n l1 (l2 + Int32.ofInt (1)) qx3)) else ((f_X0_wrong (2 : Int32) (gI qx1.2 81 1) qx1.2).bind fun qx4 => fchk (fbl qx4.1) (some (qx4.1, qx4.2)))))))
theorem g_X2_readFraction_85 (LS : Nat) (xs : Nat → Int32) (d : Nat) (hd : 1 ≤ d)     (n : Nat) : ∀ (l1 : Int32) (l2 : Int32) (s : fS), fo cvI t_X2_readFraction LS xs (mi_call mi_ms false LS xs d) (85, [some (.ref 80), some (.int l1), some (.int l2)], [], enc s) (f_X2_readFraction_85 n l1 l2 s) := by
  induction n with
  | zero => intro l1 l2 s; exact fo_none
  | succ n ih =>
    intro l1 l2 s
    rw [f_X2_readFraction_85]
    refine fo_st rfl rfl ?_
    refine fo_st rfl rfl ?_
    refine fo_b rfl rfl ?_ ?_
    · exact g_X2_readFraction_154 LS xs d hd _ _ _
    · refine fo_st rfl rfl ?_
      refine fo_get rfl (eg_2 _) rfl ?_
      refine fo_get rfl (eg_0 _) rfl ?_
      refine fo_callI (As := [.int (gI s 81 2)]) (rest := []) rfl rfl rfl rfl True.intro (c_X6_isFigure LS xs d (by omega) _ _) (fun qx1 => ?_)
      refine fo_b rfl rfl ?_ ?_
      · exact g_X2_readFraction_154 LS xs d hd _ _ _
      · refine fo_st rfl rfl ?_
        refine fo_st rfl rfl ?_
        refine fo_b rfl rfl ?_ ?_
        · refine fo_st rfl rfl ?_
          refine fo_get rfl (eg_2 _) rfl ?_
          refine fo_get rfl (eg_gr _ _) rfl ?_
          refine fo_st rfl rfl ?_
          refine fo_get rfl (eg_2 _) rfl ?_
          refine fo_get rfl (eg_0 _) rfl ?_
          refine fo_callV (As := [.ref (gadr (gP2 qx1.2) + 1), .int (gI qx1.2 81 2)]) (rest := []) rfl rfl rfl rfl (mi_rcv_of (eg_row _ (gk_1 _))) (c_X3_add LS xs d (by omega) _ _ (gk_1 _) _) (fun qx2 => ?_)
          refine fo_st rfl rfl ?_
          refine fo_get rfl (eg_2 _) rfl ?_
          refine fo_callV (As := [.ref 81]) (rest := []) rfl rfl rfl rfl (mi_rcv_of (eg_0 _)) (c_X0_step LS xs d (by omega)  _) (fun qx3 => ?_)
          refine fo_st rfl rfl ?_
          refine fo_st rfl rfl ?_
          exact ih _ _ _
        · refine fo_st rfl rfl ?_
          refine fo_get rfl (eg_2 _) rfl ?_
          refine fo_st rfl rfl ?_
          refine fo_st rfl rfl ?_
          refine fo_get rfl (eg_2 _) rfl ?_
          refine fo_get rfl (eg_0 _) rfl ?_
          refine fo_callI (As := [.ref 81, .int (2 : Int32), .int (gI qx1.2 81 1)]) (rest := []) rfl rfl rfl rfl (mi_rcv_of (eg_0 _)) (c_X0_wrong LS xs d (by omega) _ _ _) (fun qx4 => ?_)
          exact fo_ret2 rfl rfl
def f_X2_readFraction_0   (l1 : Int32) (s : fS) : Option (Int32 × fS) := (bif decide (((gI s 81 1) - l1) ≤ (3 : Int32)) then ((f_X3_add (gadr (gP2 s) + 1) (gI s 81 2) (sI s 80 10 (2 : Int32))).bind fun qx1 => ((f_X0_step qx1).bind fun qx2 => ((f_X6_isFigure (gI qx2 81 2) qx2).bind fun qx3 => (bif decide (¬ qx3.1 = 0) then f_X2_readFraction_85 fuel l1 (0 : Int32) qx3.2 else ((f_X0_wrong (1 : Int32) (gI qx3.2 81 1) qx3.2).bind fun qx4 => fchk (fbl qx4.1) (some (qx4.1, qx4.2))))))) else ((f_X0_wrong (2 : Int32) (l1 + (3 : Int32)) s).bind fun qx5 => fchk (fbl qx5.1) (some (qx5.1, qx5.2))))
theorem g_X2_readFraction_0 (LS : Nat) (xs : Nat → Int32) (d : Nat) (hd : 1 ≤ d)     (l1 : Int32)  (s : fS) : fo cvI t_X2_readFraction LS xs (mi_call mi_ms false LS xs d) (0, [some (.ref 80), some (.int l1), none], [], enc s) (f_X2_readFraction_0 l1 s) := by
  unfold f_X2_readFraction_0
  refine fo_st rfl rfl ?_
  refine fo_get rfl (eg_2 _) rfl ?_
  refine fo_get rfl (eg_0 _) rfl ?_
  refine fo_st rfl rfl ?_
  refine fo_st rfl rfl ?_
  refine fo_st rfl rfl ?_
  refine fo_b rfl rfl ?_ ?_
  · refine fo_st rfl rfl ?_
    refine fo_st rfl rfl ?_
    refine fo_put rfl (eg_2 _) rfl rfl (es_2_10 _ _) ?_
    refine fo_st rfl rfl ?_
    refine fo_get rfl (eg_2 _) rfl ?_
    refine fo_get rfl (eg_gr _ _) rfl ?_
    refine fo_st rfl rfl ?_
    refine fo_get rfl (eg_2 _) rfl ?_
    refine fo_get rfl (eg_0 _) rfl ?_
    refine fo_callV (As := [.ref (gadr (gP2 s) + 1), .int (gI s 81 2)]) (rest := []) rfl rfl rfl rfl (mi_rcv_of (eg_row _ (gk_1 _))) (c_X3_add LS xs d (by omega) _ _ (gk_1 _) _) (fun qx1 => ?_)
    refine fo_st rfl rfl ?_
    refine fo_get rfl (eg_2 _) rfl ?_
    refine fo_callV (As := [.ref 81]) (rest := []) rfl rfl rfl rfl (mi_rcv_of (eg_0 _)) (c_X0_step LS xs d (by omega)  _) (fun qx2 => ?_)
    refine fo_st rfl rfl ?_
    refine fo_get rfl (eg_2 _) rfl ?_
    refine fo_get rfl (eg_0 _) rfl ?_
    refine fo_callI (As := [.int (gI qx2 81 2)]) (rest := []) rfl rfl rfl rfl True.intro (c_X6_isFigure LS xs d (by omega) _ _) (fun qx3 => ?_)
    refine fo_b rfl rfl ?_ ?_
    · refine fo_st rfl rfl ?_
      refine fo_st rfl rfl ?_
      exact g_X2_readFraction_85 LS xs d hd fuel _ _ _
    · refine fo_st rfl rfl ?_
      refine fo_get rfl (eg_2 _) rfl ?_
      refine fo_st rfl rfl ?_
      refine fo_st rfl rfl ?_
      refine fo_get rfl (eg_2 _) rfl ?_
      refine fo_get rfl (eg_0 _) rfl ?_
      refine fo_callI (As := [.ref 81, .int (1 : Int32), .int (gI qx3.2 81 1)]) (rest := []) rfl rfl rfl rfl (mi_rcv_of (eg_0 _)) (c_X0_wrong LS xs d (by omega) _ _ _) (fun qx4 => ?_)
      exact fo_ret2 rfl rfl
  · refine fo_st rfl rfl ?_
    refine fo_get rfl (eg_2 _) rfl ?_
    refine fo_st rfl rfl ?_
    refine fo_st rfl rfl ?_
    refine fo_st rfl rfl ?_
    refine fo_st rfl rfl ?_
    refine fo_callI (As := [.ref 81, .int (2 : Int32), .int (l1 + (3 : Int32))]) (rest := []) rfl rfl rfl rfl (mi_rcv_of (eg_0 _)) (c_X0_wrong LS xs d (by omega) _ _ _) (fun qx5 => ?_)
    exact fo_ret2 rfl rfl
def f_X2_readFraction (l1 : Int32) (s : fS) : Option (Int32 × fS) := f_X2_readFraction_0 l1 s
theorem c_X2_readFraction (LS : Nat) (xs : Nat → Int32) (d : Nat) (hd : 2 ≤ d) (l1 : Int32)  (s : fS) : fm mi_ms cvI LS xs d 37 [.ref 80, .int l1] (enc s) (f_X2_readFraction l1 s) := by
  obtain ⟨e, rfl⟩ : ∃ e, d = e + 1 := ⟨d - 1, by omega⟩
  exact fm_of (M := m_X2_readFraction) rfl rfl (fun _ => ⟨_, rfl⟩) (g_X2_readFraction_0 LS xs e (by omega) l1 s)
end FM2
