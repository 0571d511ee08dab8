section FM5
def f_X6_feed_11   (l1 : Int32) (j2 : Int64) (s : fS) : Option (Int32 × fS) := some ((-102 : Int32), s)
theorem g_X6_feed_11 (LS : Nat) (xs : Nat → Int32) (d : Nat) (hd : 1 ≤ d)     (l1 : Int32) (j2 : Int64)  (s : fS) : fo cvI t_X6_feed LS xs (mi_call mi_ms false LS xs d) (11, [some (.ref 0), some (.int l1), some (.long j2), none, none], [], enc s) (f_X6_feed_11 l1 j2 s) := by
  unfold f_X6_feed_11
  refine fo_st rfl rfl ?_
  exact fo_ret rfl rfl rfl
def f_X6_feed_37   : Nat → Int32 → Int64 → Int32 → fS → Option (Int32 × fS)
  | 0, _, _, _, _ => none
  | n + 1, l1, j2, l4, s => (bif decide (l4 < 0) then some ((gI s 1 1), s) else ((f_X3_add 1 ((((mi_ushr j2 ((8 : Int32) * l4)) &&& (255 : Int64))).toInt32) s).bind fun qx1 => f_X6_feed_37 n l1 j2 (l4 + Int32.ofInt (-1)) qx1))
theorem g_X6_feed_37 (LS : Nat) (xs : Nat → Int32) (d : Nat) (hd : 1 ≤ d)     (n : Nat) : ∀ (l1 : Int32) (j2 : Int64) (l4 : Int32) (s : fS), fo cvI t_X6_feed LS xs (mi_call mi_ms false LS xs d) (37, [some (.ref 0), some (.int l1), some (.long j2), none, some (.int l4)], [], enc s) (f_X6_feed_37 n l1 j2 l4 s) := by
  induction n with
  | zero => intro l1 j2 l4 s; exact fo_none
  | succ n ih =>
    intro l1 j2 l4 s
    rw [f_X6_feed_37]
    refine fo_st rfl rfl ?_
    refine fo_b rfl rfl ?_ ?_
    · refine fo_st rfl rfl ?_
      refine fo_get rfl (eg_6 _) rfl ?_
      refine fo_get rfl (eg_row _ rfl) rfl ?_
      exact fo_ret rfl rfl rfl
    · refine fo_st rfl rfl ?_
      refine fo_get rfl (eg_6 _) rfl ?_
      refine fo_st rfl rfl ?_
      refine fo_st rfl rfl ?_
      refine fo_st rfl rfl ?_
      refine fo_st rfl rfl ?_
      refine fo_st rfl rfl ?_
      refine fo_st rfl rfl ?_
      refine fo_st rfl rfl ?_
      refine fo_st rfl rfl ?_
      refine fo_callV (As := [.ref 1, .int ((((mi_ushr j2 ((8 : Int32) * l4)) &&& (255 : Int64))).toInt32)]) (rest := []) rfl rfl rfl rfl (mi_rcv_of (eg_row _ rfl)) (c_X3_add LS xs d (by omega) _ _ rfl _) (fun qx1 => ?_)
      refine fo_st rfl rfl ?_
      refine fo_st rfl rfl ?_
      exact ih _ _ _ _
def f_X6_feed_0   (l1 : Int32) (j2 : Int64) (s : fS) : Option (Int32 × fS) := (bif decide (l1 < (1 : Int32)) then f_X6_feed_11 l1 j2 s else (bif decide (l1 ≤ (8 : Int32)) then (bif decide (((gI s 1 1) + l1) ≤ (600 : Int32)) then f_X6_feed_37 fuel l1 j2 (l1 - (1 : Int32)) s else some ((-104 : Int32), s)) else f_X6_feed_11 l1 j2 s))
theorem g_X6_feed_0 (LS : Nat) (xs : Nat → Int32) (d : Nat) (hd : 1 ≤ d)     (l1 : Int32) (j2 : Int64)  (s : fS) : fo cvI t_X6_feed LS xs (mi_call mi_ms false LS xs d) (0, [some (.ref 0), some (.int l1), some (.long j2), none, none], [], enc s) (f_X6_feed_0 l1 j2 s) := by
  unfold f_X6_feed_0
  refine fo_st rfl rfl ?_
  refine fo_st rfl rfl ?_
  refine fo_b rfl rfl ?_ ?_
  · exact g_X6_feed_11 LS xs d hd _ _ _
  · refine fo_st rfl rfl ?_
    refine fo_st rfl rfl ?_
    refine fo_b rfl rfl ?_ ?_
    · refine fo_st rfl rfl ?_
      refine fo_get rfl (eg_6 _) rfl ?_
      refine fo_get rfl (eg_row _ rfl) rfl ?_
      refine fo_st rfl rfl ?_
      refine fo_st rfl rfl ?_
      refine fo_st rfl rfl ?_
      refine fo_b rfl rfl ?_ ?_
      · refine fo_st rfl rfl ?_
        refine fo_st rfl rfl ?_
        refine fo_st rfl rfl ?_
        refine fo_st rfl rfl ?_
        exact g_X6_feed_37 LS xs d hd fuel _ _ _ _
      · refine fo_st rfl rfl ?_
        exact fo_ret rfl rfl rfl
    · exact g_X6_feed_11 LS xs d hd _ _ _
def f_X6_feed (l1 : Int32) (j2 : Int64) (s : fS) : Option (Int32 × fS) := f_X6_feed_0 l1 j2 s
theorem c_X6_feed (LS : Nat) (xs : Nat → Int32) (d : Nat) (hd : 2 ≤ d) (l1 : Int32) (j2 : Int64)  (s : fS) : fm mi_ms cvI LS xs d 75 [.ref 0, .int l1, .long j2] (enc s) (f_X6_feed l1 j2 s) := by
  obtain ⟨e, rfl⟩ : ∃ e, d = e + 1 := ⟨d - 1, by omega⟩
  exact fm_of (M := m_X6_feed) rfl rfl (fun _ => ⟨_, rfl⟩) (g_X6_feed_0 LS xs e (by omega) l1 j2 s)
def f_X6_read_0    (s : fS) : Option (Int32 × fS) := ((f_X2_readText (gP1 s) (gI s 0 7) s).bind fun qx1 => ((f_X3_clear 1 qx1.2).bind fun qx2 => (bif decide (¬ qx1.1 = 0) then ((f_X1_arcCount (gP1 qx2) (sI (sP1 (sP0 qx2 (gP1 qx2)) (gP0 qx2)) 0 6 (1 : Int32))).bind fun qx3 => some (qx3.1, qx3.2)) else some (((-10 : Int32) - (gI qx2 81 5)), qx2))))
theorem g_X6_read_0 (LS : Nat) (xs : Nat → Int32) (d : Nat) (hd : 7 ≤ d)       (s : fS) : fo cvI t_X6_read LS xs (mi_call mi_ms false LS xs d) (0, [some (.ref 0), none, none], [], enc s) (f_X6_read_0 s) := by
  unfold f_X6_read_0
  refine fo_st rfl rfl ?_
  refine fo_get rfl (eg_6 _) rfl ?_
  refine fo_st rfl rfl ?_
  refine fo_get rfl (eg_6 _) rfl ?_
  refine fo_st rfl rfl ?_
  refine fo_get rfl (eg_6 _) rfl ?_
  refine fo_st rfl rfl ?_
  refine fo_get rfl (eg_6 _) rfl ?_
  refine fo_callI (As := [.ref 80, .ref 1, .ref (gadr (gP1 s)), .int (gI s 0 7)]) (rest := []) rfl rfl rfl rfl (mi_rcv_of (eg_2 _)) (c_X2_readText LS xs d (by omega) _ _ _) (fun qx1 => ?_)
  refine fo_st rfl rfl ?_
  refine fo_st rfl rfl ?_
  refine fo_get rfl (eg_6 _) rfl ?_
  refine fo_callV (As := [.ref 1]) (rest := []) rfl rfl rfl rfl (mi_rcv_of (eg_row _ rfl)) (c_X3_clear LS xs d (by omega) _ rfl _) (fun qx2 => ?_)
  refine fo_st rfl rfl ?_
  refine fo_b rfl rfl ?_ ?_
  · refine fo_st rfl rfl ?_
    refine fo_get rfl (eg_6 _) rfl ?_
    refine fo_st rfl rfl ?_
    refine fo_st rfl rfl ?_
    refine fo_st rfl rfl ?_
    refine fo_get rfl (eg_6 _) rfl ?_
    refine fo_put rfl (eg_6 _) rfl rfl (es_6_4 _ _) ?_
    refine fo_st rfl rfl ?_
    refine fo_st rfl rfl ?_
    refine fo_put rfl (eg_6 _) rfl rfl (es_6_5 _ _) ?_
    refine fo_st rfl rfl ?_
    refine fo_st rfl rfl ?_
    refine fo_put rfl (eg_6 _) rfl rfl (es_6_6 _ _) ?_
    refine fo_st rfl rfl ?_
    refine fo_get rfl (eg_6 _) rfl ?_
    refine fo_callI (As := [.ref (gadr (gP1 qx2))]) (rest := []) rfl rfl rfl rfl (mi_rcv_of (eg_gr _ _)) (c_X1_arcCount LS xs d (by omega) _ _) (fun qx3 => ?_)
    exact fo_ret rfl rfl rfl
  · refine fo_st rfl rfl ?_
    refine fo_st rfl rfl ?_
    refine fo_get rfl (eg_6 _) rfl ?_
    refine fo_get rfl (eg_2 _) rfl ?_
    refine fo_get rfl (eg_0 _) rfl ?_
    refine fo_st rfl rfl ?_
    exact fo_ret rfl rfl rfl
def f_X6_read  (s : fS) : Option (Int32 × fS) := f_X6_read_0 s
theorem c_X6_read (LS : Nat) (xs : Nat → Int32) (d : Nat) (hd : 8 ≤ d)   (s : fS) : fm mi_ms cvI LS xs d 76 [.ref 0] (enc s) (f_X6_read  s) := by
  obtain ⟨e, rfl⟩ : ∃ e, d = e + 1 := ⟨d - 1, by omega⟩
  exact fm_of (M := m_X6_read) rfl rfl (fun _ => ⟨_, rfl⟩) (g_X6_read_0 LS xs e (by omega) s)
def f_X6_fault_9   (l1 : Int32) (s : fS) : Option (Int32 × fS) := some ((-102 : Int32), s)
theorem g_X6_fault_9 (LS : Nat) (xs : Nat → Int32) (d : Nat) (hd : 0 ≤ d)     (l1 : Int32)  (s : fS) : fo cvI t_X6_fault LS xs (mi_call mi_ms false LS xs d) (9, [some (.ref 0), some (.int l1)], [], enc s) (f_X6_fault_9 l1 s) := by
  unfold f_X6_fault_9
  refine fo_st rfl rfl ?_
  exact fo_ret rfl rfl rfl
def f_X6_fault_54   (l1 : Int32) (t0 : Int32) (s : fS) : Option (Int32 × fS) := some (t0, s)
theorem g_X6_fault_54 (LS : Nat) (xs : Nat → Int32) (d : Nat) (hd : 0 ≤ d)     (l1 : Int32) (t0 : Int32)  (s : fS) : fo cvI t_X6_fault LS xs (mi_call mi_ms false LS xs d) (54, [some (.ref 0), some (.int l1)], [.int t0], enc s) (f_X6_fault_54 l1 t0 s) := by
  unfold f_X6_fault_54
  exact fo_ret rfl rfl rfl
def f_X6_fault_0   (l1 : Int32) (s : fS) : Option (Int32 × fS) := (bif decide (l1 < 0) then f_X6_fault_9 l1 s else (bif decide (l1 ≤ (1 : Int32)) then (bif decide (¬ (gI s 81 5) = 0) then (bif decide (¬ l1 = 0) then f_X6_fault_54 l1 (gI s 81 7) s else f_X6_fault_54 l1 (gI s 81 6) s) else some ((-1 : Int32), s)) else f_X6_fault_9 l1 s))
theorem g_X6_fault_0 (LS : Nat) (xs : Nat → Int32) (d : Nat) (hd : 0 ≤ d)     (l1 : Int32)  (s : fS) : fo cvI t_X6_fault LS xs (mi_call mi_ms false LS xs d) (0, [some (.ref 0), some (.int l1)], [], enc s) (f_X6_fault_0 l1 s) := by
  unfold f_X6_fault_0
  refine fo_st rfl rfl ?_
  refine fo_b rfl rfl ?_ ?_
  · exact g_X6_fault_9 LS xs d hd _ _
  · refine fo_st rfl rfl ?_
    refine fo_st rfl rfl ?_
    refine fo_b rfl rfl ?_ ?_
    · refine fo_st rfl rfl ?_
      refine fo_get rfl (eg_6 _) rfl ?_
      refine fo_get rfl (eg_2 _) rfl ?_
      refine fo_get rfl (eg_0 _) rfl ?_
      refine fo_b rfl rfl ?_ ?_
      · refine fo_st rfl rfl ?_
        refine fo_b rfl rfl ?_ ?_
        · refine fo_st rfl rfl ?_
          refine fo_get rfl (eg_6 _) rfl ?_
          refine fo_get rfl (eg_2 _) rfl ?_
          refine fo_get rfl (eg_0 _) rfl ?_
          exact g_X6_fault_54 LS xs d hd _ _ _
        · refine fo_st rfl rfl ?_
          refine fo_get rfl (eg_6 _) rfl ?_
          refine fo_get rfl (eg_2 _) rfl ?_
          refine fo_get rfl (eg_0 _) rfl ?_
          refine fo_st rfl rfl ?_
          exact g_X6_fault_54 LS xs d hd _ _ _
      · refine fo_st rfl rfl ?_
        exact fo_ret rfl rfl rfl
    · exact g_X6_fault_9 LS xs d hd _ _
def f_X6_fault (l1 : Int32) (s : fS) : Option (Int32 × fS) := f_X6_fault_0 l1 s
theorem c_X6_fault (LS : Nat) (xs : Nat → Int32) (d : Nat) (hd : 1 ≤ d) (l1 : Int32)  (s : fS) : fm mi_ms cvI LS xs d 77 [.ref 0, .int l1] (enc s) (f_X6_fault l1 s) := by
  obtain ⟨e, rfl⟩ : ∃ e, d = e + 1 := ⟨d - 1, by omega⟩
  exact fm_of (M := m_X6_fault) rfl rfl (fun _ => ⟨_, rfl⟩) (g_X6_fault_0 LS xs e (by omega) l1 s)
theorem p_X6_fault_9    (l1 : Int32) (s : fS) : pu s (f_X6_fault_9 l1 s) := by
  unfold f_X6_fault_9
  exact pu_some rfl
theorem p_X6_fault_54    (l1 : Int32) (t0 : Int32) (s : fS) : pu s (f_X6_fault_54 l1 t0 s) := by
  unfold f_X6_fault_54
  exact pu_some rfl
theorem p_X6_fault_0    (l1 : Int32) (s : fS) : pu s (f_X6_fault_0 l1 s) := by
  unfold f_X6_fault_0
  refine pu_b ?_ ?_
  · exact p_X6_fault_9 _ _
  · refine pu_b ?_ ?_
    · refine pu_b ?_ ?_
      · refine pu_b ?_ ?_
        · exact p_X6_fault_54 _ _ _
        · exact p_X6_fault_54 _ _ _
      · exact pu_some rfl
    · exact p_X6_fault_9 _ _
theorem p_X6_fault (l1 : Int32) (s : fS) : pu s (f_X6_fault l1 s) := p_X6_fault_0 l1 s
def f_X6_manner_9   (l1 : Int32) (s : fS) : Option (Int32 × fS) := some ((-102 : Int32), s)
theorem g_X6_manner_9 (LS : Nat) (xs : Nat → Int32) (d : Nat) (hd : 0 ≤ d)     (l1 : Int32)  (s : fS) : fo cvI t_X6_manner LS xs (mi_call mi_ms false LS xs d) (9, [some (.ref 0), some (.int l1), none], [], enc s) (f_X6_manner_9 l1 s) := by
  unfold f_X6_manner_9
  refine fo_st rfl rfl ?_
  exact fo_ret rfl rfl rfl
def f_X6_manner_0   (l1 : Int32) (s : fS) : Option (Int32 × fS) := (bif decide (l1 < 0) then f_X6_manner_9 l1 s else (bif decide (l1 ≤ (2 : Int32)) then some ((gI s 0 7), (sI s 0 7 l1)) else f_X6_manner_9 l1 s))
theorem g_X6_manner_0 (LS : Nat) (xs : Nat → Int32) (d : Nat) (hd : 0 ≤ d)     (l1 : Int32)  (s : fS) : fo cvI t_X6_manner LS xs (mi_call mi_ms false LS xs d) (0, [some (.ref 0), some (.int l1), none], [], enc s) (f_X6_manner_0 l1 s) := by
  unfold f_X6_manner_0
  refine fo_st rfl rfl ?_
  refine fo_b rfl rfl ?_ ?_
  · exact g_X6_manner_9 LS xs d hd _ _
  · refine fo_st rfl rfl ?_
    refine fo_st rfl rfl ?_
    refine fo_b rfl rfl ?_ ?_
    · refine fo_st rfl rfl ?_
      refine fo_get rfl (eg_6 _) rfl ?_
      refine fo_st rfl rfl ?_
      refine fo_st rfl rfl ?_
      refine fo_st rfl rfl ?_
      refine fo_put rfl (eg_6 _) rfl rfl (es_6_7 _ _) ?_
      refine fo_st rfl rfl ?_
      exact fo_ret rfl rfl rfl
    · exact g_X6_manner_9 LS xs d hd _ _
def f_X6_manner (l1 : Int32) (s : fS) : Option (Int32 × fS) := f_X6_manner_0 l1 s
theorem c_X6_manner (LS : Nat) (xs : Nat → Int32) (d : Nat) (hd : 1 ≤ d) (l1 : Int32)  (s : fS) : fm mi_ms cvI LS xs d 78 [.ref 0, .int l1] (enc s) (f_X6_manner l1 s) := by
  obtain ⟨e, rfl⟩ : ∃ e, d = e + 1 := ⟨d - 1, by omega⟩
  exact fm_of (M := m_X6_manner) rfl rfl (fun _ => ⟨_, rfl⟩) (g_X6_manner_0 LS xs e (by omega) l1 s)
def f_X6_find_40   (l1 : Int32) (t0 : Int32) (s : fS) : Option (Int32 × fS) := some (t0, s)
theorem g_X6_find_40 (LS : Nat) (xs : Nat → Int32) (d : Nat) (hd : 3 ≤ d)     (l1 : Int32) (t0 : Int32)  (s : fS) : fo cvI t_X6_find LS xs (mi_call mi_ms false LS xs d) (40, [some (.ref 0), some (.int l1)], [.int t0], enc s) (f_X6_find_40 l1 t0 s) := by
  unfold f_X6_find_40
  exact fo_ret rfl rfl rfl
def f_X6_find_0    (s : fS) : Option (Int32 × fS) := ((f_X4_indexOf (gadr (gP0 s) + 3) 1 (0 : Int32) (gI s 1 1) s).bind fun qx1 => ((f_X3_clear 1 qx1.2).bind fun qx2 => (bif decide (¬ qx1.1 = (-1 : Int32)) then f_X6_find_40 qx1.1 qx1.1 qx2 else f_X6_find_40 qx1.1 (-1 : Int32) qx2)))
theorem g_X6_find_0 (LS : Nat) (xs : Nat → Int32) (d : Nat) (hd : 3 ≤ d)       (s : fS) : fo cvI t_X6_find LS xs (mi_call mi_ms false LS xs d) (0, [some (.ref 0), none], [], enc s) (f_X6_find_0 s) := by
  unfold f_X6_find_0
  refine fo_st rfl rfl ?_
  refine fo_get rfl (eg_6 _) rfl ?_
  refine fo_get rfl (eg_gr _ _) rfl ?_
  refine fo_st rfl rfl ?_
  refine fo_get rfl (eg_6 _) rfl ?_
  refine fo_st rfl rfl ?_
  refine fo_st rfl rfl ?_
  refine fo_get rfl (eg_6 _) rfl ?_
  refine fo_get rfl (eg_row _ rfl) rfl ?_
  refine fo_callI (As := [.ref (gadr (gP0 s) + 3), .ref 1, .int (0 : Int32), .int (gI s 1 1)]) (rest := []) rfl rfl rfl rfl (mi_rcv_of (eg_sp _ (gk_3 _))) (c_X4_indexOf LS xs d (by omega) _ _ _ _ (gk_3 _) rfl _) (fun qx1 => ?_)
  refine fo_st rfl rfl ?_
  refine fo_st rfl rfl ?_
  refine fo_get rfl (eg_6 _) rfl ?_
  refine fo_callV (As := [.ref 1]) (rest := []) rfl rfl rfl rfl (mi_rcv_of (eg_row _ rfl)) (c_X3_clear LS xs d (by omega) _ rfl _) (fun qx2 => ?_)
  refine fo_st rfl rfl ?_
  refine fo_st rfl rfl ?_
  refine fo_b rfl rfl ?_ ?_
  · refine fo_st rfl rfl ?_
    exact g_X6_find_40 LS xs d hd _ _ _
  · refine fo_st rfl rfl ?_
    refine fo_st rfl rfl ?_
    exact g_X6_find_40 LS xs d hd _ _ _
def f_X6_find  (s : fS) : Option (Int32 × fS) := f_X6_find_0 s
theorem c_X6_find (LS : Nat) (xs : Nat → Int32) (d : Nat) (hd : 4 ≤ d)   (s : fS) : fm mi_ms cvI LS xs d 79 [.ref 0] (enc s) (f_X6_find  s) := by
  obtain ⟨e, rfl⟩ : ∃ e, d = e + 1 := ⟨d - 1, by omega⟩
  exact fm_of (M := m_X6_find) rfl rfl (fun _ => ⟨_, rfl⟩) (g_X6_find_0 LS xs e (by omega) s)
def f_X6_signOfSpan_24 (a0 : Nat)  (l1 : Int32) (l2 : Int32) (s : fS) : Option ((Int32 ⊕ String) × fS) := some (.inr "java/lang/ArrayIndexOutOfBoundsException", s)
theorem g_X6_signOfSpan_24 (LS : Nat) (xs : Nat → Int32) (d : Nat) (hd : 2 ≤ d) (a0 : Nat) (h0 : isSp a0 = true)   (l1 : Int32) (l2 : Int32)  (s : fS) : fo cvX t_X6_signOfSpan LS xs (mi_call mi_ms false LS xs d) (24, [some (.ref a0), some (.int l1), some (.int l2)], [], enc s) (f_X6_signOfSpan_24 a0 l1 l2 s) := by
  unfold f_X6_signOfSpan_24
  exact fo_throw rfl rfl
def f_X6_signOfSpan_0 (a0 : Nat)  (l1 : Int32) (l2 : Int32) (s : fS) : Option ((Int32 ⊕ String) × fS) := ((f_X4_has a0 l1 s).bind fun qx1 => (bif decide (¬ qx1.1 = 0) then (bif decide (l2 < 0) then f_X6_signOfSpan_24 a0 l1 l2 qx1.2 else ((f_X4_lengthOf a0 l1 qx1.2).bind fun qx2 => (bif decide (l2 < qx2.1) then ((f_X4_signAt a0 l1 l2 qx2.2).bind fun qx3 => some (.inl qx3.1, qx3.2)) else f_X6_signOfSpan_24 a0 l1 l2 qx2.2))) else some (.inl (-101 : Int32), qx1.2)))
theorem g_X6_signOfSpan_0 (LS : Nat) (xs : Nat → Int32) (d : Nat) (hd : 2 ≤ d) (a0 : Nat) (h0 : isSp a0 = true)   (l1 : Int32) (l2 : Int32)  (s : fS) : fo cvX t_X6_signOfSpan LS xs (mi_call mi_ms false LS xs d) (0, [some (.ref a0), some (.int l1), some (.int l2)], [], enc s) (f_X6_signOfSpan_0 a0 l1 l2 s) := by
  unfold f_X6_signOfSpan_0
  refine fo_st rfl rfl ?_
  refine fo_st rfl rfl ?_
  refine fo_callI (As := [.ref a0, .int l1]) (rest := []) rfl rfl rfl rfl (mi_rcv_of (eg_sp _ h0)) (c_X4_has LS xs d (by omega) _ _ h0 _) (fun qx1 => ?_)
  refine fo_b rfl rfl ?_ ?_
  · refine fo_st rfl rfl ?_
    refine fo_b rfl rfl ?_ ?_
    · exact g_X6_signOfSpan_24 LS xs d hd a0 h0 _ _ _
    · refine fo_st rfl rfl ?_
      refine fo_st rfl rfl ?_
      refine fo_st rfl rfl ?_
      refine fo_callI (As := [.ref a0, .int l1]) (rest := [.int l2]) rfl rfl rfl rfl (mi_rcv_of (eg_sp _ h0)) (c_X4_lengthOf LS xs d (by omega) _ _ h0 _) (fun qx2 => ?_)
      refine fo_b rfl rfl ?_ ?_
      · refine fo_st rfl rfl ?_
        refine fo_st rfl rfl ?_
        refine fo_st rfl rfl ?_
        refine fo_callI (As := [.ref a0, .int l1, .int l2]) (rest := []) rfl rfl rfl rfl (mi_rcv_of (eg_sp _ h0)) (c_X4_signAt LS xs d (by omega) _ _ _ h0 _) (fun qx3 => ?_)
        exact fo_ret rfl rfl rfl
      · exact g_X6_signOfSpan_24 LS xs d hd a0 h0 _ _ _
  · refine fo_st rfl rfl ?_
    exact fo_ret rfl rfl rfl
def f_X6_signOfSpan (a0 : Nat) (l1 : Int32) (l2 : Int32) (s : fS) : Option ((Int32 ⊕ String) × fS) := f_X6_signOfSpan_0 a0 l1 l2 s
theorem c_X6_signOfSpan (LS : Nat) (xs : Nat → Int32) (d : Nat) (hd : 3 ≤ d) (a0 : Nat) (l1 : Int32) (l2 : Int32) (h0 : isSp a0 = true) (s : fS) (hx : pu s (f_X6_signOfSpan a0 l1 l2 s)) : fm mi_ms cvX LS xs d 90 [.ref a0, .int l1, .int l2] (enc s) (f_X6_signOfSpan a0 l1 l2 s) := by
  obtain ⟨e, rfl⟩ : ∃ e, d = e + 1 := ⟨d - 1, by omega⟩
  exact fm_ofX (M := m_X6_signOfSpan) rfl rfl hx (g_X6_signOfSpan_0 LS xs e (by omega) a0 h0 l1 l2 s)
theorem p_X6_signOfSpan_24 (a0 : Nat)   (l1 : Int32) (l2 : Int32) (s : fS) : pu s (f_X6_signOfSpan_24 a0 l1 l2 s) := by
  unfold f_X6_signOfSpan_24
  exact pu_some rfl
theorem p_X6_signOfSpan_0 (a0 : Nat)   (l1 : Int32) (l2 : Int32) (s : fS) : pu s (f_X6_signOfSpan_0 a0 l1 l2 s) := by
  unfold f_X6_signOfSpan_0
  refine pu_bind (p_X4_has _ _ _) (fun v => ?_)
  refine pu_b ?_ ?_
  · refine pu_b ?_ ?_
    · exact p_X6_signOfSpan_24 a0 _ _ _
    · refine pu_bind (p_X4_lengthOf _ _ _) (fun v => ?_)
      refine pu_b ?_ ?_
      · refine pu_bind (p_X4_signAt _ _ _ _) (fun v => ?_)
        exact pu_some rfl
      · exact p_X6_signOfSpan_24 a0 _ _ _
  · exact pu_some rfl
theorem p_X6_signOfSpan (a0 : Nat) (l1 : Int32) (l2 : Int32) (s : fS) : pu s (f_X6_signOfSpan a0 l1 l2 s) := p_X6_signOfSpan_0 a0 l1 l2 s
def f_X6_node_0   (l1 : Int32) (l2 : Int32) (s : fS) : Option ((Int32 ⊕ String) × fS) := (fbx (f_X6_signOfSpan (gadr (gP0 s) + 3) l1 l2 s) fun qx1 => some (.inl qx1.1, qx1.2))
theorem g_X6_node_0 (LS : Nat) (xs : Nat → Int32) (d : Nat) (hd : 3 ≤ d)     (l1 : Int32) (l2 : Int32)  (s : fS) : fo cvX t_X6_node LS xs (mi_call mi_ms false LS xs d) (0, [some (.ref 0), some (.int l1), some (.int l2)], [], enc s) (f_X6_node_0 l1 l2 s) := by
  unfold f_X6_node_0
  refine fo_st rfl rfl ?_
  refine fo_get rfl (eg_6 _) rfl ?_
  refine fo_get rfl (eg_gr _ _) rfl ?_
  refine fo_st rfl rfl ?_
  refine fo_st rfl rfl ?_
  refine fo_callX (As := [.ref (gadr (gP0 s) + 3), .int l1, .int l2]) (rest := []) rfl rfl rfl rfl True.intro rfl (c_X6_signOfSpan LS xs d (by omega) _ _ _ (gk_3 _) _ (p_X6_signOfSpan _ _ _ _)) (fun qx1 => ?_)
  exact fo_ret rfl rfl rfl
def f_X6_node (l1 : Int32) (l2 : Int32) (s : fS) : Option ((Int32 ⊕ String) × fS) := f_X6_node_0 l1 l2 s
theorem c_X6_node (LS : Nat) (xs : Nat → Int32) (d : Nat) (hd : 4 ≤ d) (l1 : Int32) (l2 : Int32)  (s : fS) (hx : pu s (f_X6_node l1 l2 s)) : fm mi_ms cvX LS xs d 80 [.ref 0, .int l1, .int l2] (enc s) (f_X6_node l1 l2 s) := by
  obtain ⟨e, rfl⟩ : ∃ e, d = e + 1 := ⟨d - 1, by omega⟩
  exact fm_ofX (M := m_X6_node) rfl rfl hx (g_X6_node_0 LS xs e (by omega) l1 l2 s)
theorem p_X6_node_0    (l1 : Int32) (l2 : Int32) (s : fS) : pu s (f_X6_node_0 l1 l2 s) := by
  unfold f_X6_node_0
  refine pu_fbx (p_X6_signOfSpan _ _ _ _) (fun v => ?_)
  exact pu_some rfl
theorem p_X6_node (l1 : Int32) (l2 : Int32) (s : fS) : pu s (f_X6_node l1 l2 s) := p_X6_node_0 l1 l2 s
def f_X6_arc_0   (l1 : Int32) (l2 : Int32) (s : fS) : Option (Int32 × fS) := ((f_X3_has (gadr (gP0 s) + 20) l1 s).bind fun qx1 => (bif decide (¬ qx1.1 = 0) then (bif decide (l2.toInt = 0) then ((f_X3_at (gadr (gP0 qx1.2) + 20) l1 qx1.2).bind fun qx2 => some (qx2.1, qx2.2)) else (bif decide (l2.toInt = 1) then ((f_X3_at (gadr (gP0 qx1.2) + 22) l1 qx1.2).bind fun qx3 => some (qx3.1, qx3.2)) else (bif decide (l2.toInt = 2) then ((f_X3_at (gadr (gP0 qx1.2) + 24) l1 qx1.2).bind fun qx4 => some (qx4.1, qx4.2)) else (bif decide (l2.toInt = 3) then ((f_X1_missingOf (gP0 qx1.2) l1 qx1.2).bind fun qx5 => some (qx5.1, qx5.2)) else some ((-102 : Int32), qx1.2))))) else some ((-101 : Int32), qx1.2)))
theorem g_X6_arc_0 (LS : Nat) (xs : Nat → Int32) (d : Nat) (hd : 2 ≤ d)     (l1 : Int32) (l2 : Int32)  (s : fS) : fo cvI t_X6_arc LS xs (mi_call mi_ms false LS xs d) (0, [some (.ref 0), some (.int l1), some (.int l2)], [], enc s) (f_X6_arc_0 l1 l2 s) := by
  unfold f_X6_arc_0
  refine fo_st rfl rfl ?_
  refine fo_get rfl (eg_6 _) rfl ?_
  refine fo_get rfl (eg_gr _ _) rfl ?_
  refine fo_st rfl rfl ?_
  refine fo_callI (As := [.ref (gadr (gP0 s) + 20), .int l1]) (rest := []) rfl rfl rfl rfl (mi_rcv_of (eg_row _ (gk_20 _))) (c_X3_has LS xs d (by omega) _ _ (gk_20 _) _) (fun qx1 => ?_)
  refine fo_b rfl rfl ?_ ?_
  · refine fo_st rfl rfl ?_
    refine fo_tab rfl rfl ?_
    refine fo_lk ?_ ?_
    · refine fo_st rfl rfl ?_
      refine fo_get rfl (eg_6 _) rfl ?_
      refine fo_get rfl (eg_gr _ _) rfl ?_
      refine fo_st rfl rfl ?_
      refine fo_callI (As := [.ref (gadr (gP0 qx1.2) + 20), .int l1]) (rest := []) rfl rfl rfl rfl (mi_rcv_of (eg_row _ (gk_20 _))) (c_X3_at LS xs d (by omega) _ _ (gk_20 _) _) (fun qx2 => ?_)
      exact fo_ret rfl rfl rfl
    · refine fo_lk ?_ ?_
      · refine fo_st rfl rfl ?_
        refine fo_get rfl (eg_6 _) rfl ?_
        refine fo_get rfl (eg_gr _ _) rfl ?_
        refine fo_st rfl rfl ?_
        refine fo_callI (As := [.ref (gadr (gP0 qx1.2) + 22), .int l1]) (rest := []) rfl rfl rfl rfl (mi_rcv_of (eg_row _ (gk_22 _))) (c_X3_at LS xs d (by omega) _ _ (gk_22 _) _) (fun qx3 => ?_)
        exact fo_ret rfl rfl rfl
      · refine fo_lk ?_ ?_
        · refine fo_st rfl rfl ?_
          refine fo_get rfl (eg_6 _) rfl ?_
          refine fo_get rfl (eg_gr _ _) rfl ?_
          refine fo_st rfl rfl ?_
          refine fo_callI (As := [.ref (gadr (gP0 qx1.2) + 24), .int l1]) (rest := []) rfl rfl rfl rfl (mi_rcv_of (eg_row _ (gk_24 _))) (c_X3_at LS xs d (by omega) _ _ (gk_24 _) _) (fun qx4 => ?_)
          exact fo_ret rfl rfl rfl
        · refine fo_lk ?_ ?_
          · refine fo_st rfl rfl ?_
            refine fo_get rfl (eg_6 _) rfl ?_
            refine fo_st rfl rfl ?_
            refine fo_callI (As := [.ref (gadr (gP0 qx1.2)), .int l1]) (rest := []) rfl rfl rfl rfl (mi_rcv_of (eg_gr _ _)) (c_X1_missingOf LS xs d (by omega) _ _ _) (fun qx5 => ?_)
            exact fo_ret rfl rfl rfl
          · show fo _ _ _ _ _ (93, _, _, _) _
            refine fo_st rfl rfl ?_
            exact fo_ret rfl rfl rfl
  · refine fo_st rfl rfl ?_
    exact fo_ret rfl rfl rfl
def f_X6_arc (l1 : Int32) (l2 : Int32) (s : fS) : Option (Int32 × fS) := f_X6_arc_0 l1 l2 s
theorem c_X6_arc (LS : Nat) (xs : Nat → Int32) (d : Nat) (hd : 3 ≤ d) (l1 : Int32) (l2 : Int32)  (s : fS) : fm mi_ms cvI LS xs d 81 [.ref 0, .int l1, .int l2] (enc s) (f_X6_arc l1 l2 s) := by
  obtain ⟨e, rfl⟩ : ∃ e, d = e + 1 := ⟨d - 1, by omega⟩
  exact fm_of (M := m_X6_arc) rfl rfl (fun _ => ⟨_, rfl⟩) (g_X6_arc_0 LS xs e (by omega) l1 l2 s)
theorem p_X6_arc_0    (l1 : Int32) (l2 : Int32) (s : fS) : pu s (f_X6_arc_0 l1 l2 s) := by
  unfold f_X6_arc_0
  refine pu_bind (p_X3_has _ _ _) (fun v => ?_)
  refine pu_b ?_ ?_
  · refine pu_b ?_ ?_
    · refine pu_bind (p_X3_at _ _ _) (fun v => ?_)
      exact pu_some rfl
    · refine pu_b ?_ ?_
      · refine pu_bind (p_X3_at _ _ _) (fun v => ?_)
        exact pu_some rfl
      · refine pu_b ?_ ?_
        · refine pu_bind (p_X3_at _ _ _) (fun v => ?_)
          exact pu_some rfl
        · refine pu_b ?_ ?_
          · refine pu_bind (p_X1_missingOf _ _ _) (fun v => ?_)
            exact pu_some rfl
          · exact pu_some rfl
  · exact pu_some rfl
theorem p_X6_arc (l1 : Int32) (l2 : Int32) (s : fS) : pu s (f_X6_arc l1 l2 s) := p_X6_arc_0 l1 l2 s
def f_X6_kind_30   (l1 : Int32) (t0 : Int32) (s : fS) : Option (Int32 × fS) := some (t0, s)
theorem g_X6_kind_30 (LS : Nat) (xs : Nat → Int32) (d : Nat) (hd : 1 ≤ d)     (l1 : Int32) (t0 : Int32)  (s : fS) : fo cvI t_X6_kind LS xs (mi_call mi_ms false LS xs d) (30, [some (.ref 0), some (.int l1)], [.int t0], enc s) (f_X6_kind_30 l1 t0 s) := by
  unfold f_X6_kind_30
  exact fo_ret rfl rfl rfl
def f_X6_kind_0   (l1 : Int32) (s : fS) : Option (Int32 × fS) := ((f_X3_has (gadr (gP0 s) + 18) l1 s).bind fun qx1 => (bif decide (qx1.1 = 0) then f_X6_kind_30 l1 (-101 : Int32) qx1.2 else ((f_X3_at (gadr (gP0 qx1.2) + 18) l1 qx1.2).bind fun qx2 => f_X6_kind_30 l1 qx2.1 qx2.2)))
theorem g_X6_kind_0 (LS : Nat) (xs : Nat → Int32) (d : Nat) (hd : 1 ≤ d)     (l1 : Int32)  (s : fS) : fo cvI t_X6_kind LS xs (mi_call mi_ms false LS xs d) (0, [some (.ref 0), some (.int l1)], [], enc s) (f_X6_kind_0 l1 s) := by
  unfold f_X6_kind_0
  refine fo_st rfl rfl ?_
  refine fo_get rfl (eg_6 _) rfl ?_
  refine fo_get rfl (eg_gr _ _) rfl ?_
  refine fo_st rfl rfl ?_
  refine fo_callI (As := [.ref (gadr (gP0 s) + 18), .int l1]) (rest := []) rfl rfl rfl rfl (mi_rcv_of (eg_row _ (gk_18 _))) (c_X3_has LS xs d (by omega) _ _ (gk_18 _) _) (fun qx1 => ?_)
  refine fo_b rfl rfl ?_ ?_
  · refine fo_st rfl rfl ?_
    exact g_X6_kind_30 LS xs d hd _ _ _
  · refine fo_st rfl rfl ?_
    refine fo_get rfl (eg_6 _) rfl ?_
    refine fo_get rfl (eg_gr _ _) rfl ?_
    refine fo_st rfl rfl ?_
    refine fo_callI (As := [.ref (gadr (gP0 qx1.2) + 18), .int l1]) (rest := []) rfl rfl rfl rfl (mi_rcv_of (eg_row _ (gk_18 _))) (c_X3_at LS xs d (by omega) _ _ (gk_18 _) _) (fun qx2 => ?_)
    refine fo_st rfl rfl ?_
    exact g_X6_kind_30 LS xs d hd _ _ _
def f_X6_kind (l1 : Int32) (s : fS) : Option (Int32 × fS) := f_X6_kind_0 l1 s
theorem c_X6_kind (LS : Nat) (xs : Nat → Int32) (d : Nat) (hd : 2 ≤ d) (l1 : Int32)  (s : fS) : fm mi_ms cvI LS xs d 82 [.ref 0, .int l1] (enc s) (f_X6_kind l1 s) := by
  obtain ⟨e, rfl⟩ : ∃ e, d = e + 1 := ⟨d - 1, by omega⟩
  exact fm_of (M := m_X6_kind) rfl rfl (fun _ => ⟨_, rfl⟩) (g_X6_kind_0 LS xs e (by omega) l1 s)
theorem p_X6_kind_30    (l1 : Int32) (t0 : Int32) (s : fS) : pu s (f_X6_kind_30 l1 t0 s) := by
  unfold f_X6_kind_30
  exact pu_some rfl
theorem p_X6_kind_0    (l1 : Int32) (s : fS) : pu s (f_X6_kind_0 l1 s) := by
  unfold f_X6_kind_0
  refine pu_bind (p_X3_has _ _ _) (fun v => ?_)
  refine pu_b ?_ ?_
  · exact p_X6_kind_30 _ _ _
  · refine pu_bind (p_X3_at _ _ _) (fun v => ?_)
    exact p_X6_kind_30 _ _ _
theorem p_X6_kind (l1 : Int32) (s : fS) : pu s (f_X6_kind l1 s) := p_X6_kind_0 l1 s
def f_X6_head_0   (l1 : Int32) (l2 : Int32) (s : fS) : Option ((Int32 ⊕ String) × fS) := (fbx (f_X6_signOfSpan (gadr (gP0 s) + 8) l1 l2 s) fun qx1 => some (.inl qx1.1, qx1.2))
theorem g_X6_head_0 (LS : Nat) (xs : Nat → Int32) (d : Nat) (hd : 3 ≤ d)     (l1 : Int32) (l2 : Int32)  (s : fS) : fo cvX t_X6_head LS xs (mi_call mi_ms false LS xs d) (0, [some (.ref 0), some (.int l1), some (.int l2)], [], enc s) (f_X6_head_0 l1 l2 s) := by
  unfold f_X6_head_0
  refine fo_st rfl rfl ?_
  refine fo_get rfl (eg_6 _) rfl ?_
  refine fo_get rfl (eg_gr _ _) rfl ?_
  refine fo_st rfl rfl ?_
  refine fo_st rfl rfl ?_
  refine fo_callX (As := [.ref (gadr (gP0 s) + 8), .int l1, .int l2]) (rest := []) rfl rfl rfl rfl True.intro rfl (c_X6_signOfSpan LS xs d (by omega) _ _ _ (gk_8 _) _ (p_X6_signOfSpan _ _ _ _)) (fun qx1 => ?_)
  exact fo_ret rfl rfl rfl
def f_X6_head (l1 : Int32) (l2 : Int32) (s : fS) : Option ((Int32 ⊕ String) × fS) := f_X6_head_0 l1 l2 s
theorem c_X6_head (LS : Nat) (xs : Nat → Int32) (d : Nat) (hd : 4 ≤ d) (l1 : Int32) (l2 : Int32)  (s : fS) (hx : pu s (f_X6_head l1 l2 s)) : fm mi_ms cvX LS xs d 83 [.ref 0, .int l1, .int l2] (enc s) (f_X6_head l1 l2 s) := by
  obtain ⟨e, rfl⟩ : ∃ e, d = e + 1 := ⟨d - 1, by omega⟩
  exact fm_ofX (M := m_X6_head) rfl rfl hx (g_X6_head_0 LS xs e (by omega) l1 l2 s)
theorem p_X6_head_0    (l1 : Int32) (l2 : Int32) (s : fS) : pu s (f_X6_head_0 l1 l2 s) := by
  unfold f_X6_head_0
  refine pu_fbx (p_X6_signOfSpan _ _ _ _) (fun v => ?_)
  exact pu_some rfl
theorem p_X6_head (l1 : Int32) (l2 : Int32) (s : fS) : pu s (f_X6_head l1 l2 s) := p_X6_head_0 l1 l2 s
def f_X6_value_0   (l1 : Int32) (l2 : Int32) (s : fS) : Option ((Int32 ⊕ String) × fS) := ((f_X1_hasValue (gP0 s) l1 l2 s).bind fun qx1 => (bif decide (¬ qx1.1 = 0) then ((f_X1_roomOf (gP0 qx1.2) l1 l2 qx1.2).bind fun qx2 => ((f_X3_at (gadr (gP0 qx2.2) + 31) qx2.1 qx2.2).bind fun qx3 => (bif decide (¬ qx3.1 = 0) then ((f_X3_at (gadr (gP0 qx3.2) + 18) l2 qx3.2).bind fun qx4 => (bif decide (¬ qx4.1 = (2 : Int32)) then ((f_X3_at (gadr (gP0 qx4.2) + 33) qx2.1 qx4.2).bind fun qx5 => some (.inl qx5.1, qx5.2)) else some (.inr "java/lang/ClassCastException", qx4.2))) else some (.inr "java/lang/NullPointerException", qx3.2)))) else some (.inl (-101 : Int32), qx1.2)))
theorem g_X6_value_0 (LS : Nat) (xs : Nat → Int32) (d : Nat) (hd : 2 ≤ d)     (l1 : Int32) (l2 : Int32)  (s : fS) : fo cvX t_X6_value LS xs (mi_call mi_ms false LS xs d) (0, [some (.ref 0), some (.int l1), some (.int l2), none], [], enc s) (f_X6_value_0 l1 l2 s) := by
  unfold f_X6_value_0
  refine fo_st rfl rfl ?_
  refine fo_get rfl (eg_6 _) rfl ?_
  refine fo_st rfl rfl ?_
  refine fo_st rfl rfl ?_
  refine fo_callI (As := [.ref (gadr (gP0 s)), .int l1, .int l2]) (rest := []) rfl rfl rfl rfl (mi_rcv_of (eg_gr _ _)) (c_X1_hasValue LS xs d (by omega) _ _ _ _) (fun qx1 => ?_)
  refine fo_b rfl rfl ?_ ?_
  · refine fo_st rfl rfl ?_
    refine fo_get rfl (eg_6 _) rfl ?_
    refine fo_st rfl rfl ?_
    refine fo_st rfl rfl ?_
    refine fo_callI (As := [.ref (gadr (gP0 qx1.2)), .int l1, .int l2]) (rest := []) rfl rfl rfl rfl (mi_rcv_of (eg_gr _ _)) (c_X1_roomOf LS xs d (by omega) _ _ _ _) (fun qx2 => ?_)
    refine fo_st rfl rfl ?_
    refine fo_st rfl rfl ?_
    refine fo_get rfl (eg_6 _) rfl ?_
    refine fo_get rfl (eg_gr _ _) rfl ?_
    refine fo_st rfl rfl ?_
    refine fo_callI (As := [.ref (gadr (gP0 qx2.2) + 31), .int qx2.1]) (rest := []) rfl rfl rfl rfl (mi_rcv_of (eg_row _ (gk_31 _))) (c_X3_at LS xs d (by omega) _ _ (gk_31 _) _) (fun qx3 => ?_)
    refine fo_b rfl rfl ?_ ?_
    · refine fo_st rfl rfl ?_
      refine fo_get rfl (eg_6 _) rfl ?_
      refine fo_get rfl (eg_gr _ _) rfl ?_
      refine fo_st rfl rfl ?_
      refine fo_callI (As := [.ref (gadr (gP0 qx3.2) + 18), .int l2]) (rest := []) rfl rfl rfl rfl (mi_rcv_of (eg_row _ (gk_18 _))) (c_X3_at LS xs d (by omega) _ _ (gk_18 _) _) (fun qx4 => ?_)
      refine fo_st rfl rfl ?_
      refine fo_b rfl rfl ?_ ?_
      · refine fo_st rfl rfl ?_
        refine fo_get rfl (eg_6 _) rfl ?_
        refine fo_get rfl (eg_gr _ _) rfl ?_
        refine fo_st rfl rfl ?_
        refine fo_callI (As := [.ref (gadr (gP0 qx4.2) + 33), .int qx2.1]) (rest := []) rfl rfl rfl rfl (mi_rcv_of (eg_row _ (gk_33 _))) (c_X3_at LS xs d (by omega) _ _ (gk_33 _) _) (fun qx5 => ?_)
        exact fo_ret rfl rfl rfl
      · exact fo_throw rfl rfl
    · exact fo_throw rfl rfl
  · refine fo_st rfl rfl ?_
    exact fo_ret rfl rfl rfl
def f_X6_value (l1 : Int32) (l2 : Int32) (s : fS) : Option ((Int32 ⊕ String) × fS) := f_X6_value_0 l1 l2 s
theorem c_X6_value (LS : Nat) (xs : Nat → Int32) (d : Nat) (hd : 3 ≤ d) (l1 : Int32) (l2 : Int32)  (s : fS) (hx : pu s (f_X6_value l1 l2 s)) : fm mi_ms cvX LS xs d 84 [.ref 0, .int l1, .int l2] (enc s) (f_X6_value l1 l2 s) := by
  obtain ⟨e, rfl⟩ : ∃ e, d = e + 1 := ⟨d - 1, by omega⟩
  exact fm_ofX (M := m_X6_value) rfl rfl hx (g_X6_value_0 LS xs e (by omega) l1 l2 s)
theorem p_X6_value_0    (l1 : Int32) (l2 : Int32) (s : fS) : pu s (f_X6_value_0 l1 l2 s) := by
  unfold f_X6_value_0
  refine pu_bind (p_X1_hasValue _ _ _ _) (fun v => ?_)
  refine pu_b ?_ ?_
  · refine pu_bind (p_X1_roomOf _ _ _ _) (fun v => ?_)
    refine pu_bind (p_X3_at _ _ _) (fun v => ?_)
    refine pu_b ?_ ?_
    · refine pu_bind (p_X3_at _ _ _) (fun v => ?_)
      refine pu_b ?_ ?_
      · refine pu_bind (p_X3_at _ _ _) (fun v => ?_)
        exact pu_some rfl
      · exact pu_some rfl
    · exact pu_some rfl
  · exact pu_some rfl
theorem p_X6_value (l1 : Int32) (l2 : Int32) (s : fS) : pu s (f_X6_value l1 l2 s) := p_X6_value_0 l1 l2 s
def f_X6_sign_0   (l1 : Int32) (l2 : Int32) (l3 : Int32) (s : fS) : Option ((Int32 ⊕ String) × fS) := ((f_X1_hasValue (gP0 s) l1 l2 s).bind fun qx1 => (bif decide (¬ qx1.1 = 0) then ((f_X1_roomOf (gP0 qx1.2) l1 l2 qx1.2).bind fun qx2 => ((f_X3_at (gadr (gP0 qx2.2) + 31) qx2.1 qx2.2).bind fun qx3 => (bif decide (¬ qx3.1 = 0) then ((f_X3_at (gadr (gP0 qx3.2) + 18) l2 qx3.2).bind fun qx4 => (bif decide (qx4.1 = (2 : Int32)) then (fbx (f_X6_signOfSpan (gadr (gP0 qx4.2) + 26) qx2.1 l3 qx4.2) fun qx5 => some (.inl qx5.1, qx5.2)) else some (.inr "java/lang/ClassCastException", qx4.2))) else some (.inr "java/lang/NullPointerException", qx3.2)))) else some (.inl (-101 : Int32), qx1.2)))
theorem g_X6_sign_0 (LS : Nat) (xs : Nat → Int32) (d : Nat) (hd : 3 ≤ d)     (l1 : Int32) (l2 : Int32) (l3 : Int32)  (s : fS) : fo cvX t_X6_sign LS xs (mi_call mi_ms false LS xs d) (0, [some (.ref 0), some (.int l1), some (.int l2), some (.int l3), none], [], enc s) (f_X6_sign_0 l1 l2 l3 s) := by
  unfold f_X6_sign_0
  refine fo_st rfl rfl ?_
  refine fo_get rfl (eg_6 _) rfl ?_
  refine fo_st rfl rfl ?_
  refine fo_st rfl rfl ?_
  refine fo_callI (As := [.ref (gadr (gP0 s)), .int l1, .int l2]) (rest := []) rfl rfl rfl rfl (mi_rcv_of (eg_gr _ _)) (c_X1_hasValue LS xs d (by omega) _ _ _ _) (fun qx1 => ?_)
  refine fo_b rfl rfl ?_ ?_
  · refine fo_st rfl rfl ?_
    refine fo_get rfl (eg_6 _) rfl ?_
    refine fo_st rfl rfl ?_
    refine fo_st rfl rfl ?_
    refine fo_callI (As := [.ref (gadr (gP0 qx1.2)), .int l1, .int l2]) (rest := []) rfl rfl rfl rfl (mi_rcv_of (eg_gr _ _)) (c_X1_roomOf LS xs d (by omega) _ _ _ _) (fun qx2 => ?_)
    refine fo_st rfl rfl ?_
    refine fo_st rfl rfl ?_
    refine fo_get rfl (eg_6 _) rfl ?_
    refine fo_get rfl (eg_gr _ _) rfl ?_
    refine fo_st rfl rfl ?_
    refine fo_callI (As := [.ref (gadr (gP0 qx2.2) + 31), .int qx2.1]) (rest := []) rfl rfl rfl rfl (mi_rcv_of (eg_row _ (gk_31 _))) (c_X3_at LS xs d (by omega) _ _ (gk_31 _) _) (fun qx3 => ?_)
    refine fo_b rfl rfl ?_ ?_
    · refine fo_st rfl rfl ?_
      refine fo_get rfl (eg_6 _) rfl ?_
      refine fo_get rfl (eg_gr _ _) rfl ?_
      refine fo_st rfl rfl ?_
      refine fo_callI (As := [.ref (gadr (gP0 qx3.2) + 18), .int l2]) (rest := []) rfl rfl rfl rfl (mi_rcv_of (eg_row _ (gk_18 _))) (c_X3_at LS xs d (by omega) _ _ (gk_18 _) _) (fun qx4 => ?_)
      refine fo_st rfl rfl ?_
      refine fo_b rfl rfl ?_ ?_
      · refine fo_st rfl rfl ?_
        refine fo_get rfl (eg_6 _) rfl ?_
        refine fo_get rfl (eg_gr _ _) rfl ?_
        refine fo_st rfl rfl ?_
        refine fo_st rfl rfl ?_
        refine fo_callX (As := [.ref (gadr (gP0 qx4.2) + 26), .int qx2.1, .int l3]) (rest := []) rfl rfl rfl rfl True.intro rfl (c_X6_signOfSpan LS xs d (by omega) _ _ _ (gk_26 _) _ (p_X6_signOfSpan _ _ _ _)) (fun qx5 => ?_)
        exact fo_ret rfl rfl rfl
      · exact fo_throw rfl rfl
    · exact fo_throw rfl rfl
  · refine fo_st rfl rfl ?_
    exact fo_ret rfl rfl rfl
def f_X6_sign (l1 : Int32) (l2 : Int32) (l3 : Int32) (s : fS) : Option ((Int32 ⊕ String) × fS) := f_X6_sign_0 l1 l2 l3 s
theorem c_X6_sign (LS : Nat) (xs : Nat → Int32) (d : Nat) (hd : 4 ≤ d) (l1 : Int32) (l2 : Int32) (l3 : Int32)  (s : fS) (hx : pu s (f_X6_sign l1 l2 l3 s)) : fm mi_ms cvX LS xs d 85 [.ref 0, .int l1, .int l2, .int l3] (enc s) (f_X6_sign l1 l2 l3 s) := by
  obtain ⟨e, rfl⟩ : ∃ e, d = e + 1 := ⟨d - 1, by omega⟩
  exact fm_ofX (M := m_X6_sign) rfl rfl hx (g_X6_sign_0 LS xs e (by omega) l1 l2 l3 s)
theorem p_X6_sign_0    (l1 : Int32) (l2 : Int32) (l3 : Int32) (s : fS) : pu s (f_X6_sign_0 l1 l2 l3 s) := by
  unfold f_X6_sign_0
  refine pu_bind (p_X1_hasValue _ _ _ _) (fun v => ?_)
  refine pu_b ?_ ?_
  · refine pu_bind (p_X1_roomOf _ _ _ _) (fun v => ?_)
    refine pu_bind (p_X3_at _ _ _) (fun v => ?_)
    refine pu_b ?_ ?_
    · refine pu_bind (p_X3_at _ _ _) (fun v => ?_)
      refine pu_b ?_ ?_
      · refine pu_fbx (p_X6_signOfSpan _ _ _ _) (fun v => ?_)
        exact pu_some rfl
      · exact pu_some rfl
    · exact pu_some rfl
  · exact pu_some rfl
theorem p_X6_sign (l1 : Int32) (l2 : Int32) (l3 : Int32) (s : fS) : pu s (f_X6_sign l1 l2 l3 s) := p_X6_sign_0 l1 l2 l3 s
def f_X6_comment_0   (l1 : Int32) (l2 : Int32) (s : fS) : Option ((Int32 ⊕ String) × fS) := (fbx (f_X6_signOfSpan (gadr (gP0 s) + 13) l1 l2 s) fun qx1 => some (.inl qx1.1, qx1.2))
theorem g_X6_comment_0 (LS : Nat) (xs : Nat → Int32) (d : Nat) (hd : 3 ≤ d)     (l1 : Int32) (l2 : Int32)  (s : fS) : fo cvX t_X6_comment LS xs (mi_call mi_ms false LS xs d) (0, [some (.ref 0), some (.int l1), some (.int l2)], [], enc s) (f_X6_comment_0 l1 l2 s) := by
  unfold f_X6_comment_0
  refine fo_st rfl rfl ?_
  refine fo_get rfl (eg_6 _) rfl ?_
  refine fo_get rfl (eg_gr _ _) rfl ?_
  refine fo_st rfl rfl ?_
  refine fo_st rfl rfl ?_
  refine fo_callX (As := [.ref (gadr (gP0 s) + 13), .int l1, .int l2]) (rest := []) rfl rfl rfl rfl True.intro rfl (c_X6_signOfSpan LS xs d (by omega) _ _ _ (gk_13 _) _ (p_X6_signOfSpan _ _ _ _)) (fun qx1 => ?_)
  exact fo_ret rfl rfl rfl
def f_X6_comment (l1 : Int32) (l2 : Int32) (s : fS) : Option ((Int32 ⊕ String) × fS) := f_X6_comment_0 l1 l2 s
theorem c_X6_comment (LS : Nat) (xs : Nat → Int32) (d : Nat) (hd : 4 ≤ d) (l1 : Int32) (l2 : Int32)  (s : fS) (hx : pu s (f_X6_comment l1 l2 s)) : fm mi_ms cvX LS xs d 86 [.ref 0, .int l1, .int l2] (enc s) (f_X6_comment l1 l2 s) := by
  obtain ⟨e, rfl⟩ : ∃ e, d = e + 1 := ⟨d - 1, by omega⟩
  exact fm_ofX (M := m_X6_comment) rfl rfl hx (g_X6_comment_0 LS xs e (by omega) l1 l2 s)
theorem p_X6_comment_0    (l1 : Int32) (l2 : Int32) (s : fS) : pu s (f_X6_comment_0 l1 l2 s) := by
  unfold f_X6_comment_0
  refine pu_fbx (p_X6_signOfSpan _ _ _ _) (fun v => ?_)
  exact pu_some rfl
theorem p_X6_comment (l1 : Int32) (l2 : Int32) (s : fS) : pu s (f_X6_comment l1 l2 s) := p_X6_comment_0 l1 l2 s
def f_X6_print_0    (s : fS) : Option (Int32 × fS) := (bif decide (¬ (gI s 0 6) = 0) then ((f_X5_writeGraph (gP0 s) s).bind fun qx1 => some ((gI qx1 3 1), qx1)) else some ((-103 : Int32), s))
theorem g_X6_print_0 (LS : Nat) (xs : Nat → Int32) (d : Nat) (hd : 7 ≤ d)       (s : fS) : fo cvI t_X6_print LS xs (mi_call mi_ms false LS xs d) (0, [some (.ref 0)], [], enc s) (f_X6_print_0 s) := by
  unfold f_X6_print_0
  refine fo_st rfl rfl ?_
  refine fo_get rfl (eg_6 _) rfl ?_
  refine fo_b rfl rfl ?_ ?_
  · refine fo_st rfl rfl ?_
    refine fo_get rfl (eg_6 _) rfl ?_
    refine fo_st rfl rfl ?_
    refine fo_get rfl (eg_6 _) rfl ?_
    refine fo_callV (As := [.ref 5, .ref (gadr (gP0 s))]) (rest := []) rfl rfl rfl rfl (mi_rcv_of (eg_5 _)) (c_X5_writeGraph LS xs d (by omega) _ _) (fun qx1 => ?_)
    refine fo_st rfl rfl ?_
    refine fo_get rfl (eg_6 _) rfl ?_
    refine fo_get rfl (eg_row _ rfl) rfl ?_
    exact fo_ret rfl rfl rfl
  · refine fo_st rfl rfl ?_
    exact fo_ret rfl rfl rfl
def f_X6_print  (s : fS) : Option (Int32 × fS) := f_X6_print_0 s
theorem c_X6_print (LS : Nat) (xs : Nat → Int32) (d : Nat) (hd : 8 ≤ d)   (s : fS) : fm mi_ms cvI LS xs d 87 [.ref 0] (enc s) (f_X6_print  s) := by
  obtain ⟨e, rfl⟩ : ∃ e, d = e + 1 := ⟨d - 1, by omega⟩
  exact fm_of (M := m_X6_print) rfl rfl (fun _ => ⟨_, rfl⟩) (g_X6_print_0 LS xs e (by omega) s)
def f_X6_out_0   (l1 : Int32) (s : fS) : Option ((Int32 ⊕ String) × fS) := ((f_X3_has 3 l1 s).bind fun qx1 => (bif decide (¬ qx1.1 = 0) then ((f_X3_at 3 l1 qx1.2).bind fun qx2 => some (.inl qx2.1, qx2.2)) else some (.inr "java/lang/ArrayIndexOutOfBoundsException", qx1.2)))
theorem g_X6_out_0 (LS : Nat) (xs : Nat → Int32) (d : Nat) (hd : 1 ≤ d)     (l1 : Int32)  (s : fS) : fo cvX t_X6_out LS xs (mi_call mi_ms false LS xs d) (0, [some (.ref 0), some (.int l1)], [], enc s) (f_X6_out_0 l1 s) := by
  unfold f_X6_out_0
  refine fo_st rfl rfl ?_
  refine fo_get rfl (eg_6 _) rfl ?_
  refine fo_st rfl rfl ?_
  refine fo_callI (As := [.ref 3, .int l1]) (rest := []) rfl rfl rfl rfl (mi_rcv_of (eg_row _ rfl)) (c_X3_has LS xs d (by omega) _ _ rfl _) (fun qx1 => ?_)
  refine fo_b rfl rfl ?_ ?_
  · refine fo_st rfl rfl ?_
    refine fo_get rfl (eg_6 _) rfl ?_
    refine fo_st rfl rfl ?_
    refine fo_callI (As := [.ref 3, .int l1]) (rest := []) rfl rfl rfl rfl (mi_rcv_of (eg_row _ rfl)) (c_X3_at LS xs d (by omega) _ _ rfl _) (fun qx2 => ?_)
    exact fo_ret rfl rfl rfl
  · exact fo_throw rfl rfl
def f_X6_out (l1 : Int32) (s : fS) : Option ((Int32 ⊕ String) × fS) := f_X6_out_0 l1 s
theorem c_X6_out (LS : Nat) (xs : Nat → Int32) (d : Nat) (hd : 2 ≤ d) (l1 : Int32)  (s : fS) (hx : pu s (f_X6_out l1 s)) : fm mi_ms cvX LS xs d 88 [.ref 0, .int l1] (enc s) (f_X6_out l1 s) := by
  obtain ⟨e, rfl⟩ : ∃ e, d = e + 1 := ⟨d - 1, by omega⟩
  exact fm_ofX (M := m_X6_out) rfl rfl hx (g_X6_out_0 LS xs e (by omega) l1 s)
theorem p_X6_out_0    (l1 : Int32) (s : fS) : pu s (f_X6_out_0 l1 s) := by
  unfold f_X6_out_0
  refine pu_bind (p_X3_has _ _ _) (fun v => ?_)
  refine pu_b ?_ ?_
  · refine pu_bind (p_X3_at _ _ _) (fun v => ?_)
    exact pu_some rfl
  · exact pu_some rfl
theorem p_X6_out (l1 : Int32) (s : fS) : pu s (f_X6_out l1 s) := p_X6_out_0 l1 s
def f_X6_about_0   (l1 : Int32) (s : fS) : Option (Int32 × fS) := (bif decide (l1.toInt = 0) then some ((gI s 1 1), s) else (bif decide (l1.toInt = 1) then some ((gI s (gadr (gP0 s) + 3) 3), s) else (bif decide (l1.toInt = 2) then ((f_X1_arcCount (gP0 s) s).bind fun qx1 => some (qx1.1, qx1.2)) else (bif decide (l1.toInt = 3) then some ((gI s (gadr (gP0 s) + 8) 3), s) else (bif decide (l1.toInt = 4) then some ((gI s (gadr (gP0 s)) 12), s) else (bif decide (l1.toInt = 5) then some ((gI s (gadr (gP0 s) + 13) 3), s) else (bif decide (l1.toInt = 6) then some ((gI s 3 1), s) else some ((-102 : Int32), s))))))))
theorem g_X6_about_0 (LS : Nat) (xs : Nat → Int32) (d : Nat) (hd : 1 ≤ d)     (l1 : Int32)  (s : fS) : fo cvI t_X6_about LS xs (mi_call mi_ms false LS xs d) (0, [some (.ref 0), some (.int l1)], [], enc s) (f_X6_about_0 l1 s) := by
  unfold f_X6_about_0
  refine fo_st rfl rfl ?_
  refine fo_tab rfl rfl ?_
  refine fo_lk ?_ ?_
  · refine fo_st rfl rfl ?_
    refine fo_get rfl (eg_6 _) rfl ?_
    refine fo_get rfl (eg_row _ rfl) rfl ?_
    exact fo_ret rfl rfl rfl
  · refine fo_lk ?_ ?_
    · refine fo_st rfl rfl ?_
      refine fo_get rfl (eg_6 _) rfl ?_
      refine fo_get rfl (eg_gr _ _) rfl ?_
      refine fo_get rfl (eg_sp _ (gk_3 _)) rfl ?_
      exact fo_ret rfl rfl rfl
    · refine fo_lk ?_ ?_
      · refine fo_st rfl rfl ?_
        refine fo_get rfl (eg_6 _) rfl ?_
        refine fo_callI (As := [.ref (gadr (gP0 s))]) (rest := []) rfl rfl rfl rfl (mi_rcv_of (eg_gr _ _)) (c_X1_arcCount LS xs d (by omega) _ _) (fun qx1 => ?_)
        exact fo_ret rfl rfl rfl
      · refine fo_lk ?_ ?_
        · refine fo_st rfl rfl ?_
          refine fo_get rfl (eg_6 _) rfl ?_
          refine fo_get rfl (eg_gr _ _) rfl ?_
          refine fo_get rfl (eg_sp _ (gk_8 _)) rfl ?_
          exact fo_ret rfl rfl rfl
        · refine fo_lk ?_ ?_
          · refine fo_st rfl rfl ?_
            refine fo_get rfl (eg_6 _) rfl ?_
            refine fo_get rfl (eg_gr _ _) rfl ?_
            exact fo_ret rfl rfl rfl
          · refine fo_lk ?_ ?_
            · refine fo_st rfl rfl ?_
              refine fo_get rfl (eg_6 _) rfl ?_
              refine fo_get rfl (eg_gr _ _) rfl ?_
              refine fo_get rfl (eg_sp _ (gk_13 _)) rfl ?_
              exact fo_ret rfl rfl rfl
            · refine fo_lk ?_ ?_
              · refine fo_st rfl rfl ?_
                refine fo_get rfl (eg_6 _) rfl ?_
                refine fo_get rfl (eg_row _ rfl) rfl ?_
                exact fo_ret rfl rfl rfl
              · show fo _ _ _ _ _ (109, _, _, _) _
                refine fo_st rfl rfl ?_
                exact fo_ret rfl rfl rfl
def f_X6_about (l1 : Int32) (s : fS) : Option (Int32 × fS) := f_X6_about_0 l1 s
theorem c_X6_about (LS : Nat) (xs : Nat → Int32) (d : Nat) (hd : 2 ≤ d) (l1 : Int32)  (s : fS) : fm mi_ms cvI LS xs d 89 [.ref 0, .int l1] (enc s) (f_X6_about l1 s) := by
  obtain ⟨e, rfl⟩ : ∃ e, d = e + 1 := ⟨d - 1, by omega⟩
  exact fm_of (M := m_X6_about) rfl rfl (fun _ => ⟨_, rfl⟩) (g_X6_about_0 LS xs e (by omega) l1 s)
theorem p_X6_about_0    (l1 : Int32) (s : fS) : pu s (f_X6_about_0 l1 s) := by
  unfold f_X6_about_0
  refine pu_b ?_ ?_
  · exact pu_some rfl
  · refine pu_b ?_ ?_
    · exact pu_some rfl
    · refine pu_b ?_ ?_
      · refine pu_bind (p_X1_arcCount _ _) (fun v => ?_)
        exact pu_some rfl
      · refine pu_b ?_ ?_
        · exact pu_some rfl
        · refine pu_b ?_ ?_
          · exact pu_some rfl
          · refine pu_b ?_ ?_
            · exact pu_some rfl
            · refine pu_b ?_ ?_
              · exact pu_some rfl
              · exact pu_some rfl
theorem p_X6_about (l1 : Int32) (s : fS) : pu s (f_X6_about l1 s) := p_X6_about_0 l1 s
def f_X7_thrown_0    (s : fS) : Option (Int32 × fS) := some ((gI s 82 0), s)
theorem g_X7_thrown_0 (LS : Nat) (xs : Nat → Int32) (d : Nat) (hd : 0 ≤ d)       (s : fS) : fo cvI t_X7_thrown LS xs (mi_call mi_ms false LS xs d) (0, [some (.ref 82)], [], enc s) (f_X7_thrown_0 s) := by
  unfold f_X7_thrown_0
  refine fo_st rfl rfl ?_
  refine fo_get rfl (eg_7 _) rfl ?_
  exact fo_ret rfl rfl rfl
def f_X7_thrown  (s : fS) : Option (Int32 × fS) := f_X7_thrown_0 s
theorem c_X7_thrown (LS : Nat) (xs : Nat → Int32) (d : Nat) (hd : 1 ≤ d)   (s : fS) : fm mi_ms cvI LS xs d 95 [.ref 82] (enc s) (f_X7_thrown  s) := by
  obtain ⟨e, rfl⟩ : ∃ e, d = e + 1 := ⟨d - 1, by omega⟩
  exact fm_of (M := m_X7_thrown) rfl rfl (fun _ => ⟨_, rfl⟩) (g_X7_thrown_0 LS xs e (by omega) s)
theorem p_X7_thrown_0     (s : fS) : pu s (f_X7_thrown_0 s) := by
  unfold f_X7_thrown_0
  exact pu_some rfl
theorem p_X7_thrown  (s : fS) : pu s (f_X7_thrown  s) := p_X7_thrown_0 s
def f_X7_in_15   (l0 : Int32) (l1 : Int32) (l2 : Int32) (t0 : Int32) (s : fS) : Option (Int32 × fS) := fchk (fbl t0) (some (t0, s))
theorem g_X7_in_15 (LS : Nat) (xs : Nat → Int32) (d : Nat) (hd : 0 ≤ d)     (l0 : Int32) (l1 : Int32) (l2 : Int32) (t0 : Int32)  (s : fS) : fo cvI t_X7_in LS xs (mi_call mi_ms false LS xs d) (15, [some (.int l0), some (.int l1), some (.int l2)], [.int t0], enc s) (f_X7_in_15 l0 l1 l2 t0 s) := by
  unfold f_X7_in_15
  exact fo_ret2 rfl rfl
def f_X7_in_14   (l0 : Int32) (l1 : Int32) (l2 : Int32) (s : fS) : Option (Int32 × fS) := f_X7_in_15 l0 l1 l2 (0 : Int32) s
theorem g_X7_in_14 (LS : Nat) (xs : Nat → Int32) (d : Nat) (hd : 0 ≤ d)     (l0 : Int32) (l1 : Int32) (l2 : Int32)  (s : fS) : fo cvI t_X7_in LS xs (mi_call mi_ms false LS xs d) (14, [some (.int l0), some (.int l1), some (.int l2)], [], enc s) (f_X7_in_14 l0 l1 l2 s) := by
  unfold f_X7_in_14
  refine fo_st rfl rfl ?_
  exact g_X7_in_15 LS xs d hd _ _ _ _ _
def f_X7_in_0   (l0 : Int32) (l1 : Int32) (l2 : Int32) (s : fS) : Option (Int32 × fS) := (bif decide (l0 < l1) then f_X7_in_14 l0 l1 l2 s else (bif decide (l2 < l0) then f_X7_in_14 l0 l1 l2 s else f_X7_in_15 l0 l1 l2 (1 : Int32) s))
theorem g_X7_in_0 (LS : Nat) (xs : Nat → Int32) (d : Nat) (hd : 0 ≤ d)     (l0 : Int32) (l1 : Int32) (l2 : Int32)  (s : fS) : fo cvI t_X7_in LS xs (mi_call mi_ms false LS xs d) (0, [some (.int l0), some (.int l1), some (.int l2)], [], enc s) (f_X7_in_0 l0 l1 l2 s) := by
  unfold f_X7_in_0
  refine fo_st rfl rfl ?_
  refine fo_st rfl rfl ?_
  refine fo_b rfl rfl ?_ ?_
  · exact g_X7_in_14 LS xs d hd _ _ _ _
  · refine fo_st rfl rfl ?_
    refine fo_st rfl rfl ?_
    refine fo_b rfl rfl ?_ ?_
    · exact g_X7_in_14 LS xs d hd _ _ _ _
    · refine fo_st rfl rfl ?_
      refine fo_st rfl rfl ?_
      exact g_X7_in_15 LS xs d hd _ _ _ _ _
def f_X7_in (l0 : Int32) (l1 : Int32) (l2 : Int32) (s : fS) : Option (Int32 × fS) := f_X7_in_0 l0 l1 l2 s
theorem c_X7_in (LS : Nat) (xs : Nat → Int32) (d : Nat) (hd : 1 ≤ d) (l0 : Int32) (l1 : Int32) (l2 : Int32)  (s : fS) : fm mi_ms cvI LS xs d 96 [.int l0, .int l1, .int l2] (enc s) (f_X7_in l0 l1 l2 s) := by
  obtain ⟨e, rfl⟩ : ∃ e, d = e + 1 := ⟨d - 1, by omega⟩
  exact fm_of (M := m_X7_in) rfl rfl (fun _ => ⟨_, rfl⟩) (g_X7_in_0 LS xs e (by omega) l0 l1 l2 s)
theorem p_X7_in_15    (l0 : Int32) (l1 : Int32) (l2 : Int32) (t0 : Int32) (s : fS) : pu s (f_X7_in_15 l0 l1 l2 t0 s) := by
  unfold f_X7_in_15
  refine pu_ck ?_
  exact pu_some rfl
theorem p_X7_in_14    (l0 : Int32) (l1 : Int32) (l2 : Int32) (s : fS) : pu s (f_X7_in_14 l0 l1 l2 s) := by
  unfold f_X7_in_14
  exact p_X7_in_15 _ _ _ _ _
theorem p_X7_in_0    (l0 : Int32) (l1 : Int32) (l2 : Int32) (s : fS) : pu s (f_X7_in_0 l0 l1 l2 s) := by
  unfold f_X7_in_0
  refine pu_b ?_ ?_
  · exact p_X7_in_14 _ _ _ _
  · refine pu_b ?_ ?_
    · exact p_X7_in_14 _ _ _ _
    · exact p_X7_in_15 _ _ _ _ _
theorem p_X7_in (l0 : Int32) (l1 : Int32) (l2 : Int32) (s : fS) : pu s (f_X7_in l0 l1 l2 s) := p_X7_in_0 l0 l1 l2 s
def f_X7_feed_38   : Nat → Int32 → Int64 → Int32 → fS → Option (Int32 × fS)
  | 0, _, _, _, _ => none
  | n + 1, l1, j2, l4, s => (bif decide (l4 < 0) then some ((gI s 82 2), s) else fchk (mi_in (gI s 82 2) (gA s 83).length) (f_X7_feed_38 n l1 j2 (l4 + Int32.ofInt (-1)) (sI (sA s 83 ((gA s 83).set (gI s 82 2).toNatClampNeg ((((mi_sshr j2 ((8 : Int32) * l4))).toInt32) &&& (255 : Int32)))) 82 2 ((gI s 82 2) + (1 : Int32)))))
theorem g_X7_feed_38 (LS : Nat) (xs : Nat → Int32) (d : Nat) (hd : 1 ≤ d)     (n : Nat) : ∀ (l1 : Int32) (j2 : Int64) (l4 : Int32) (s : fS), fo cvI t_X7_feed LS xs (mi_call mi_ms false LS xs d) (38, [some (.ref 82), some (.int l1), some (.long j2), none, some (.int l4)], [], enc s) (f_X7_feed_38 n l1 j2 l4 s) := by
  induction n with
  | zero => intro l1 j2 l4 s; exact fo_none
  | succ n ih =>
    intro l1 j2 l4 s
    rw [f_X7_feed_38]
    refine fo_st rfl rfl ?_
    refine fo_b rfl rfl ?_ ?_
    · refine fo_st rfl rfl ?_
      refine fo_get rfl (eg_7 _) rfl ?_
      exact fo_ret rfl rfl rfl
    · refine fo_st rfl rfl ?_
      refine fo_get rfl (eg_7 _) rfl ?_
      refine fo_st rfl rfl ?_
      refine fo_get rfl (eg_7 _) rfl ?_
      refine fo_st rfl rfl ?_
      refine fo_st rfl rfl ?_
      refine fo_st rfl rfl ?_
      refine fo_st rfl rfl ?_
      refine fo_st rfl rfl ?_
      refine fo_st rfl rfl ?_
      refine fo_st rfl rfl ?_
      refine fo_st rfl rfl ?_
      refine fo_iast rfl (eg_ar _ rfl) (es_ar _ rfl _) ?_
      refine fo_st rfl rfl ?_
      refine fo_st rfl rfl ?_
      refine fo_get rfl (eg_7 _) rfl ?_
      refine fo_st rfl rfl ?_
      refine fo_st rfl rfl ?_
      refine fo_put rfl (eg_7 _) rfl rfl (es_7_2 _ _) ?_
      refine fo_st rfl rfl ?_
      refine fo_st rfl rfl ?_
      exact ih _ _ _ _
def f_X7_feed_0   (l1 : Int32) (j2 : Int64) (s : fS) : Option (Int32 × fS) := ((f_X7_in l1 (1 : Int32) (8 : Int32) (sI s 82 0 (0 : Int32))).bind fun qx1 => (bif decide (¬ qx1.1 = 0) then (bif decide (((gI qx1.2 82 2) + l1) ≤ (600 : Int32)) then f_X7_feed_38 fuel l1 j2 (l1 - (1 : Int32)) qx1.2 else some ((-104 : Int32), qx1.2)) else some ((-102 : Int32), qx1.2)))
theorem g_X7_feed_0 (LS : Nat) (xs : Nat → Int32) (d : Nat) (hd : 1 ≤ d)     (l1 : Int32) (j2 : Int64)  (s : fS) : fo cvI t_X7_feed LS xs (mi_call mi_ms false LS xs d) (0, [some (.ref 82), some (.int l1), some (.long j2), none, none], [], enc s) (f_X7_feed_0 l1 j2 s) := by
  unfold f_X7_feed_0
  refine fo_st rfl rfl ?_
  refine fo_st rfl rfl ?_
  refine fo_put rfl (eg_7 _) rfl rfl (es_7_0 _ _) ?_
  refine fo_st rfl rfl ?_
  refine fo_st rfl rfl ?_
  refine fo_st rfl rfl ?_
  refine fo_callI (As := [.int l1, .int (1 : Int32), .int (8 : Int32)]) (rest := []) rfl rfl rfl rfl True.intro (c_X7_in LS xs d (by omega) _ _ _ _) (fun qx1 => ?_)
  refine fo_b rfl rfl ?_ ?_
  · refine fo_st rfl rfl ?_
    refine fo_get rfl (eg_7 _) rfl ?_
    refine fo_st rfl rfl ?_
    refine fo_st rfl rfl ?_
    refine fo_st rfl rfl ?_
    refine fo_b rfl rfl ?_ ?_
    · refine fo_st rfl rfl ?_
      refine fo_st rfl rfl ?_
      refine fo_st rfl rfl ?_
      refine fo_st rfl rfl ?_
      exact g_X7_feed_38 LS xs d hd fuel _ _ _ _
    · refine fo_st rfl rfl ?_
      exact fo_ret rfl rfl rfl
  · refine fo_st rfl rfl ?_
    exact fo_ret rfl rfl rfl
def f_X7_feed (l1 : Int32) (j2 : Int64) (s : fS) : Option (Int32 × fS) := f_X7_feed_0 l1 j2 s
theorem c_X7_feed (LS : Nat) (xs : Nat → Int32) (d : Nat) (hd : 2 ≤ d) (l1 : Int32) (j2 : Int64)  (s : fS) : fm mi_ms cvI LS xs d 97 [.ref 82, .int l1, .long j2] (enc s) (f_X7_feed l1 j2 s) := by
  obtain ⟨e, rfl⟩ : ∃ e, d = e + 1 := ⟨d - 1, by omega⟩
  exact fm_of (M := m_X7_feed) rfl rfl (fun _ => ⟨_, rfl⟩) (g_X7_feed_0 LS xs e (by omega) l1 j2 s)
end FM5
