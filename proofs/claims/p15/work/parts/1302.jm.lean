def j_X2_countIsTrue (S : iS) : Option (Int × iS) := (j_X2_countIsTrue_0 S)
theorem jr_X2_countIsTrue {S : iS} {s : fS} (hs : sr S s) : rf rI (j_X2_countIsTrue S) (f_X2_countIsTrue s) := by
  unfold j_X2_countIsTrue f_X2_countIsTrue
  exact (jr_X2_countIsTrue_0 hs)
def j_X6_isPrintable_17 (l0 : Int) (t0 : Int) (S : iS) : Option (Int × iS) := (if (t0 = 0 ∨ t0 = 1) then (some (t0, S)) else none)
theorem jr_X6_isPrintable_17 {l0 : Int} {L0 : Int32} (h_l0 : L0.toInt = l0) {t0 : Int} {T0 : Int32} (h_t0 : T0.toInt = t0) {S : iS} {s : fS} (hs : sr S s) : rf rI (j_X6_isPrintable_17 l0 t0 S) (f_X6_isPrintable_17 L0 T0 s) := by
  unfold j_X6_isPrintable_17 f_X6_isPrintable_17
  exact (rf_rg fun k1 => (rf_ck (k_fbl h_t0 k1) (rf_some ⟨h_t0, hs⟩)))
def j_X6_isPrintable_16 (l0 : Int) (S : iS) : Option (Int × iS) := (j_X6_isPrintable_17 l0 (0 : Int) S)
theorem jr_X6_isPrintable_16 {l0 : Int} {L0 : Int32} (h_l0 : L0.toInt = l0) {S : iS} {s : fS} (hs : sr S s) : rf rI (j_X6_isPrintable_16 l0 S) (f_X6_isPrintable_16 L0 s) := by
  unfold j_X6_isPrintable_16 f_X6_isPrintable_16
  exact (jr_X6_isPrintable_17 h_l0 li_0 hs)
def j_X6_isPrintable_0 (l0 : Int) (S : iS) : Option (Int × iS) := (if l0 < (32 : Int) then (j_X6_isPrintable_16 l0 S) else (if (126 : Int) < l0 then (j_X6_isPrintable_16 l0 S) else (j_X6_isPrintable_17 l0 (1 : Int) S)))
theorem jr_X6_isPrintable_0 {l0 : Int} {L0 : Int32} (h_l0 : L0.toInt = l0) {S : iS} {s : fS} (hs : sr S s) : rf rI (j_X6_isPrintable_0 l0 S) (f_X6_isPrintable_0 L0 s) := by
  unfold j_X6_isPrintable_0 f_X6_isPrintable_0
  exact (rf_if (c_lt h_l0 li_32) (jr_X6_isPrintable_16 h_l0 hs) (rf_if (c_lt li_126 h_l0) (jr_X6_isPrintable_16 h_l0 hs) (jr_X6_isPrintable_17 h_l0 li_1 hs)))
def j_X6_isPrintable (l0 : Int) (S : iS) : Option (Int × iS) := (j_X6_isPrintable_0 l0 S)
theorem jr_X6_isPrintable {l0 : Int} {L0 : Int32} (h_l0 : L0.toInt = l0) {S : iS} {s : fS} (hs : sr S s) : rf rI (j_X6_isPrintable l0 S) (f_X6_isPrintable L0 s) := by
  unfold j_X6_isPrintable f_X6_isPrintable
  exact (jr_X6_isPrintable_0 h_l0 hs)
def j_X2_readComment_118 (l1 : Int) (l2 : Int) (S : iS) : Option (Int × iS) := (if rg ((jI S ((gadr (jP2 S)) + 1) 1) - l1) then ((j_X4_add ((gadr (jP2 S)) + 13) l1 ((jI S ((gadr (jP2 S)) + 1) 1) - l1) S).bind fun qx1 => ((j_X3_add ((gadr (jP2 qx1)) + 35) (0 : Int) qx1).bind fun qx2 => (some ((1 : Int), qx2)))) else none)
theorem jr_X2_readComment_118 {l1 : Int} {L1 : Int32} (h_l1 : L1.toInt = l1) {l2 : Int} {L2 : Int32} (h_l2 : L2.toInt = l2) {S : iS} {s : fS} (hs : sr S s) : rf rI (j_X2_readComment_118 l1 l2 S) (f_X2_readComment_118 L1 L2 s) := by
  unfold j_X2_readComment_118 f_X2_readComment_118
  exact (rf_rg fun k1 => (rf_bind (jr_X4_add (e_add (e_gad (sr_gP2 hs))) h_l1 (i_sub (sr_gI hs (e_add (e_gad (sr_gP2 hs)))) h_l1 k1) hs) fun qx1 QX1 h_qx1 => (rf_bind (jr_X3_add (e_add (e_gad (sr_gP2 h_qx1))) li_0 h_qx1) fun qx2 QX2 h_qx2 => (rf_some ⟨li_1, h_qx2⟩))))
def j_X2_readComment_20  : Nat → Int → Int → iS → Option (Int × iS)
  | 0, _, _, _ => none
  | n + 1, l1, l2, S => (if (20 : Int) < l2 then (j_X2_readComment_118 l1 l2 S) else (if (jI S 81 2) = (-1 : Int) then (j_X2_readComment_118 l1 l2 S) else ((j_X6_isPrintable (jI S 81 2) S).bind fun qx1 => (if ¬ qx1.1 = (0 : Int) then (if ¬ l2 = (20 : Int) then ((j_X3_add ((gadr (jP2 qx1.2)) + 1) (jI qx1.2 81 2) qx1.2).bind fun qx2 => ((j_X0_step qx2).bind fun qx3 => (if rg (l2 + (1 : Int)) then (j_X2_readComment_20 n l1 (l2 + (1 : Int)) qx3) else none))) else ((j_X0_wrong (2 : Int) (jI qx1.2 81 1) qx1.2).bind fun qx4 => (if (qx4.1 = 0 ∨ qx4.1 = 1) then (some (qx4.1, qx4.2)) else none))) else ((j_X0_wrong (1 : Int) (jI qx1.2 81 1) qx1.2).bind fun qx5 => (if (qx5.1 = 0 ∨ qx5.1 = 1) then (some (qx5.1, qx5.2)) else none))))))
theorem jr_X2_readComment_20  (n : Nat) : ∀ {l1 : Int} {L1 : Int32} (h_l1 : L1.toInt = l1) {l2 : Int} {L2 : Int32} (h_l2 : L2.toInt = l2) {S : iS} {s : fS} (hs : sr S s), rf rI (j_X2_readComment_20 n l1 l2 S) (f_X2_readComment_20 n L1 L2 s) := by
  induction n with
  | zero => intros; exact rf_none
  | succ n ih =>
    intro l1 L1 h_l1 l2 L2 h_l2 S s hs
    rw [j_X2_readComment_20, f_X2_readComment_20]
    exact (rf_if (c_lt li_20 h_l2) (jr_X2_readComment_118 h_l1 h_l2 hs) (rf_if (c_eq (sr_gI hs rfl) li_m1) (jr_X2_readComment_118 h_l1 h_l2 hs) (rf_bind (jr_X6_isPrintable (sr_gI hs rfl) hs) fun qx1 QX1 h_qx1 => (rf_if (c_not (c_eq h_qx1.1 li_0)) (rf_if (c_not (c_eq h_l2 li_20)) (rf_bind (jr_X3_add (e_add (e_gad (sr_gP2 h_qx1.2))) (sr_gI h_qx1.2 rfl) h_qx1.2) fun qx2 QX2 h_qx2 => (rf_bind (jr_X0_step h_qx2) fun qx3 QX3 h_qx3 => (rf_rg fun k1 => (ih h_l1 (i_add h_l2 lo_1 k1) h_qx3)))) (rf_bind (jr_X0_wrong li_2 (sr_gI h_qx1.2 rfl) h_qx1.2) fun qx4 QX4 h_qx4 => (rf_rg fun k2 => (rf_ck (k_fbl h_qx4.1 k2) (rf_some ⟨h_qx4.1, h_qx4.2⟩))))) (rf_bind (jr_X0_wrong li_1 (sr_gI h_qx1.2 rfl) h_qx1.2) fun qx5 QX5 h_qx5 => (rf_rg fun k3 => (rf_ck (k_fbl h_qx5.1 k3) (rf_some ⟨h_qx5.1, h_qx5.2⟩))))))))
def j_X2_readComment_0 (S : iS) : Option (Int × iS) := ((j_X0_step S).bind fun qx1 => (j_X2_readComment_20 fuel (jI qx1 ((gadr (jP2 qx1)) + 1) 1) (0 : Int) qx1))
theorem jr_X2_readComment_0 {S : iS} {s : fS} (hs : sr S s) : rf rI (j_X2_readComment_0 S) (f_X2_readComment_0 s) := by
  unfold j_X2_readComment_0 f_X2_readComment_0
  exact (rf_bind (jr_X0_step hs) fun qx1 QX1 h_qx1 => (jr_X2_readComment_20 fuel (sr_gI h_qx1 (e_add (e_gad (sr_gP2 h_qx1)))) li_0 h_qx1))
def j_X2_readComment (S : iS) : Option (Int × iS) := (j_X2_readComment_0 S)
theorem jr_X2_readComment {S : iS} {s : fS} (hs : sr S s) : rf rI (j_X2_readComment S) (f_X2_readComment s) := by
  unfold j_X2_readComment f_X2_readComment
  exact (jr_X2_readComment_0 hs)
def j_X6_isFigure_17 (l0 : Int) (t0 : Int) (S : iS) : Option (Int × iS) := (if (t0 = 0 ∨ t0 = 1) then (some (t0, S)) else none)
theorem jr_X6_isFigure_17 {l0 : Int} {L0 : Int32} (h_l0 : L0.toInt = l0) {t0 : Int} {T0 : Int32} (h_t0 : T0.toInt = t0) {S : iS} {s : fS} (hs : sr S s) : rf rI (j_X6_isFigure_17 l0 t0 S) (f_X6_isFigure_17 L0 T0 s) := by
  unfold j_X6_isFigure_17 f_X6_isFigure_17
  exact (rf_rg fun k1 => (rf_ck (k_fbl h_t0 k1) (rf_some ⟨h_t0, hs⟩)))
def j_X6_isFigure_16 (l0 : Int) (S : iS) : Option (Int × iS) := (j_X6_isFigure_17 l0 (0 : Int) S)
theorem jr_X6_isFigure_16 {l0 : Int} {L0 : Int32} (h_l0 : L0.toInt = l0) {S : iS} {s : fS} (hs : sr S s) : rf rI (j_X6_isFigure_16 l0 S) (f_X6_isFigure_16 L0 s) := by
  unfold j_X6_isFigure_16 f_X6_isFigure_16
  exact (jr_X6_isFigure_17 h_l0 li_0 hs)
def j_X6_isFigure_0 (l0 : Int) (S : iS) : Option (Int × iS) := (if l0 < (48 : Int) then (j_X6_isFigure_16 l0 S) else (if (57 : Int) < l0 then (j_X6_isFigure_16 l0 S) else (j_X6_isFigure_17 l0 (1 : Int) S)))
theorem jr_X6_isFigure_0 {l0 : Int} {L0 : Int32} (h_l0 : L0.toInt = l0) {S : iS} {s : fS} (hs : sr S s) : rf rI (j_X6_isFigure_0 l0 S) (f_X6_isFigure_0 L0 s) := by
  unfold j_X6_isFigure_0 f_X6_isFigure_0
  exact (rf_if (c_lt h_l0 li_48) (jr_X6_isFigure_16 h_l0 hs) (rf_if (c_lt li_57 h_l0) (jr_X6_isFigure_16 h_l0 hs) (jr_X6_isFigure_17 h_l0 li_1 hs)))
def j_X6_isFigure (l0 : Int) (S : iS) : Option (Int × iS) := (j_X6_isFigure_0 l0 S)
theorem jr_X6_isFigure {l0 : Int} {L0 : Int32} (h_l0 : L0.toInt = l0) {S : iS} {s : fS} (hs : sr S s) : rf rI (j_X6_isFigure l0 S) (f_X6_isFigure L0 s) := by
  unfold j_X6_isFigure f_X6_isFigure
  exact (jr_X6_isFigure_0 h_l0 hs)
def j_X2_readNumber_110 (l1 : Int) (S : iS) : Option (Int × iS) := (some ((1 : Int), S))
theorem jr_X2_readNumber_110 {l1 : Int} {L1 : Int32} (h_l1 : L1.toInt = l1) {S : iS} {s : fS} (hs : sr S s) : rf rI (j_X2_readNumber_110 l1 S) (f_X2_readNumber_110 L1 s) := by
  unfold j_X2_readNumber_110 f_X2_readNumber_110
  exact (rf_some ⟨li_1, hs⟩)
def j_X2_readNumber_36  : Nat → Int → iS → Option (Int × iS)
  | 0, _, _ => none
  | n + 1, l1, S => (if (2 : Int) < l1 then (j_X2_readNumber_110 l1 S) else ((j_X6_isFigure (jI S 81 2) S).bind fun qx1 => (if qx1.1 = (0 : Int) then (j_X2_readNumber_110 l1 qx1.2) else (if ¬ l1 = (2 : Int) then (if rg ((jI qx1.2 80 7) * (10 : Int)) then (if rg ((jI qx1.2 81 2) - (48 : Int)) then (if rg (((jI qx1.2 80 7) * (10 : Int)) + ((jI qx1.2 81 2) - (48 : Int))) then ((j_X0_step (kI qx1.2 80 7 (((jI qx1.2 80 7) * (10 : Int)) + ((jI qx1.2 81 2) - (48 : Int))))).bind fun qx2 => (if rg (l1 + (1 : Int)) then (j_X2_readNumber_36 n (l1 + (1 : Int)) qx2) else none)) else none) else none) else none) else ((j_X0_wrong (2 : Int) (jI qx1.2 81 1) qx1.2).bind fun qx3 => (if (qx3.1 = 0 ∨ qx3.1 = 1) then (some (qx3.1, qx3.2)) else none))))))
theorem jr_X2_readNumber_36  (n : Nat) : ∀ {l1 : Int} {L1 : Int32} (h_l1 : L1.toInt = l1) {S : iS} {s : fS} (hs : sr S s), rf rI (j_X2_readNumber_36 n l1 S) (f_X2_readNumber_36 n L1 s) := by
  induction n with
  | zero => intros; exact rf_none
  | succ n ih =>
    intro l1 L1 h_l1 S s hs
    rw [j_X2_readNumber_36, f_X2_readNumber_36]
    exact (rf_if (c_lt li_2 h_l1) (jr_X2_readNumber_110 h_l1 hs) (rf_bind (jr_X6_isFigure (sr_gI hs rfl) hs) fun qx1 QX1 h_qx1 => (rf_if (c_eq h_qx1.1 li_0) (jr_X2_readNumber_110 h_l1 h_qx1.2) (rf_if (c_not (c_eq h_l1 li_2)) (rf_rg fun k1 => (rf_rg fun k2 => (rf_rg fun k3 => (rf_bind (jr_X0_step (sr_I h_qx1.2 rfl (i_add (i_mul (sr_gI h_qx1.2 rfl) li_10 k1) (i_sub (sr_gI h_qx1.2 rfl) li_48 k2) k3))) fun qx2 QX2 h_qx2 => (rf_rg fun k4 => (ih (i_add h_l1 lo_1 k4) h_qx2)))))) (rf_bind (jr_X0_wrong li_2 (sr_gI h_qx1.2 rfl) h_qx1.2) fun qx3 QX3 h_qx3 => (rf_rg fun k5 => (rf_ck (k_fbl h_qx3.1 k5) (rf_some ⟨h_qx3.1, h_qx3.2⟩))))))))
def j_X2_readNumber_0 (S : iS) : Option (Int × iS) := ((j_X6_isFigure (jI S 81 2) S).bind fun qx1 => (if ¬ qx1.1 = (0 : Int) then (j_X2_readNumber_36 fuel (0 : Int) (kI qx1.2 80 7 (0 : Int))) else ((j_X0_wrong (1 : Int) (jI qx1.2 81 1) qx1.2).bind fun qx2 => (if (qx2.1 = 0 ∨ qx2.1 = 1) then (some (qx2.1, qx2.2)) else none))))
theorem jr_X2_readNumber_0 {S : iS} {s : fS} (hs : sr S s) : rf rI (j_X2_readNumber_0 S) (f_X2_readNumber_0 s) := by
  unfold j_X2_readNumber_0 f_X2_readNumber_0
  exact (rf_bind (jr_X6_isFigure (sr_gI hs rfl) hs) fun qx1 QX1 h_qx1 => (rf_if (c_not (c_eq h_qx1.1 li_0)) (jr_X2_readNumber_36 fuel li_0 (sr_I h_qx1.2 rfl li_0)) (rf_bind (jr_X0_wrong li_1 (sr_gI h_qx1.2 rfl) h_qx1.2) fun qx2 QX2 h_qx2 => (rf_rg fun k1 => (rf_ck (k_fbl h_qx2.1 k1) (rf_some ⟨h_qx2.1, h_qx2.2⟩))))))
def j_X2_readNumber (S : iS) : Option (Int × iS) := (j_X2_readNumber_0 S)
theorem jr_X2_readNumber {S : iS} {s : fS} (hs : sr S s) : rf rI (j_X2_readNumber S) (f_X2_readNumber s) := by
  unfold j_X2_readNumber f_X2_readNumber
  exact (jr_X2_readNumber_0 hs)
def j_X2_readGap_0 (S : iS) : Option (Int × iS) := (if (jI S 81 2) = (32 : Int) then ((j_X0_skipBlanks S).bind fun qx1 => (some ((1 : Int), qx1))) else ((j_X0_wrong (1 : Int) (jI S 81 1) S).bind fun qx2 => (if (qx2.1 = 0 ∨ qx2.1 = 1) then (some (qx2.1, qx2.2)) else none)))
theorem jr_X2_readGap_0 {S : iS} {s : fS} (hs : sr S s) : rf rI (j_X2_readGap_0 S) (f_X2_readGap_0 s) := by
  unfold j_X2_readGap_0 f_X2_readGap_0
  exact (rf_if (c_eq (sr_gI hs rfl) li_32) (rf_bind (jr_X0_skipBlanks hs) fun qx1 QX1 h_qx1 => (rf_some ⟨li_1, h_qx1⟩)) (rf_bind (jr_X0_wrong li_1 (sr_gI hs rfl) hs) fun qx2 QX2 h_qx2 => (rf_rg fun k1 => (rf_ck (k_fbl h_qx2.1 k1) (rf_some ⟨h_qx2.1, h_qx2.2⟩)))))
def j_X2_readGap (S : iS) : Option (Int × iS) := (j_X2_readGap_0 S)
theorem jr_X2_readGap {S : iS} {s : fS} (hs : sr S s) : rf rI (j_X2_readGap S) (f_X2_readGap s) := by
  unfold j_X2_readGap f_X2_readGap
  exact (jr_X2_readGap_0 hs)
def j_X2_readLineEnd_41 (t0 : Int) (S : iS) : Option (Int × iS) := (if (t0 = 0 ∨ t0 = 1) then (some (t0, S)) else none)
theorem jr_X2_readLineEnd_41 {t0 : Int} {T0 : Int32} (h_t0 : T0.toInt = t0) {S : iS} {s : fS} (hs : sr S s) : rf rI (j_X2_readLineEnd_41 t0 S) (f_X2_readLineEnd_41 T0 s) := by
  unfold j_X2_readLineEnd_41 f_X2_readLineEnd_41
  exact (rf_rg fun k1 => (rf_ck (k_fbl h_t0 k1) (rf_some ⟨h_t0, hs⟩)))
def j_X2_readLineEnd_36 (S : iS) : Option (Int × iS) := (j_X2_readLineEnd_41 (1 : Int) S)
theorem jr_X2_readLineEnd_36 {S : iS} {s : fS} (hs : sr S s) : rf rI (j_X2_readLineEnd_36 S) (f_X2_readLineEnd_36 s) := by
  unfold j_X2_readLineEnd_36 f_X2_readLineEnd_36
  exact (jr_X2_readLineEnd_41 li_1 hs)
def j_X2_readLineEnd_0 (S : iS) : Option (Int × iS) := ((j_X0_skipBlanks S).bind fun qx1 => (if (jI qx1 81 2) = (-1 : Int) then (j_X2_readLineEnd_36 qx1) else ((j_X0_wrong (1 : Int) (jI qx1 81 1) qx1).bind fun qx2 => (if qx2.1 = (0 : Int) then (j_X2_readLineEnd_41 (0 : Int) qx2.2) else (j_X2_readLineEnd_36 qx2.2)))))
theorem jr_X2_readLineEnd_0 {S : iS} {s : fS} (hs : sr S s) : rf rI (j_X2_readLineEnd_0 S) (f_X2_readLineEnd_0 s) := by
  unfold j_X2_readLineEnd_0 f_X2_readLineEnd_0
  exact (rf_bind (jr_X0_skipBlanks hs) fun qx1 QX1 h_qx1 => (rf_if (c_eq (sr_gI h_qx1 rfl) li_m1) (jr_X2_readLineEnd_36 h_qx1) (rf_bind (jr_X0_wrong li_1 (sr_gI h_qx1 rfl) h_qx1) fun qx2 QX2 h_qx2 => (rf_if (c_eq h_qx2.1 li_0) (jr_X2_readLineEnd_41 li_0 h_qx2.2) (jr_X2_readLineEnd_36 h_qx2.2)))))
def j_X2_readLineEnd (S : iS) : Option (Int × iS) := (j_X2_readLineEnd_0 S)
theorem jr_X2_readLineEnd {S : iS} {s : fS} (hs : sr S s) : rf rI (j_X2_readLineEnd S) (f_X2_readLineEnd s) := by
  unfold j_X2_readLineEnd f_X2_readLineEnd
  exact (jr_X2_readLineEnd_0 hs)
def j_X2_readCount_0 (S : iS) : Option (Int × iS) := (if (jI S 80 4) = (0 : Int) then ((j_X0_step (kI S 80 4 (jI S 81 3))).bind fun qx1 => ((j_X2_readGap qx1).bind fun qx2 => (if ¬ qx2.1 = (0 : Int) then ((j_X0_placeOf (jI qx2.2 81 1) qx2.2).bind fun qx3 => ((j_X2_readNumber (kI qx3.2 80 5 qx3.1)).bind fun qx4 => (if ¬ qx4.1 = (0 : Int) then ((j_X2_readGap (kI qx4.2 (gadr (jP2 qx4.2)) 13 (jI qx4.2 80 7))).bind fun qx5 => (if ¬ qx5.1 = (0 : Int) then ((j_X0_placeOf (jI qx5.2 81 1) qx5.2).bind fun qx6 => ((j_X2_readNumber (kI qx6.2 80 6 qx6.1)).bind fun qx7 => (if ¬ qx7.1 = (0 : Int) then ((j_X3_add ((gadr (jP2 qx7.2)) + 35) (1 : Int) (kI qx7.2 (gadr (jP2 qx7.2)) 14 (jI qx7.2 80 7))).bind fun qx8 => ((j_X2_readLineEnd qx8).bind fun qx9 => (if (qx9.1 = 0 ∨ qx9.1 = 1) then (some (qx9.1, qx9.2)) else none))) else (some ((0 : Int), qx7.2))))) else (some ((0 : Int), qx5.2)))) else (some ((0 : Int), qx4.2))))) else (some ((0 : Int), qx2.2))))) else ((j_X0_wrong (4 : Int) (jI S 81 1) S).bind fun qx10 => (if (qx10.1 = 0 ∨ qx10.1 = 1) then (some (qx10.1, qx10.2)) else none)))
theorem jr_X2_readCount_0 {S : iS} {s : fS} (hs : sr S s) : rf rI (j_X2_readCount_0 S) (f_X2_readCount_0 s) := by
  unfold j_X2_readCount_0 f_X2_readCount_0
  exact (rf_if (c_eq (sr_gI hs rfl) li_0) (rf_bind (jr_X0_step (sr_I hs rfl (sr_gI hs rfl))) fun qx1 QX1 h_qx1 => (rf_bind (jr_X2_readGap h_qx1) fun qx2 QX2 h_qx2 => (rf_if (c_not (c_eq h_qx2.1 li_0)) (rf_bind (jr_X0_placeOf (sr_gI h_qx2.2 rfl) h_qx2.2) fun qx3 QX3 h_qx3 => (rf_bind (jr_X2_readNumber (sr_I h_qx3.2 rfl h_qx3.1)) fun qx4 QX4 h_qx4 => (rf_if (c_not (c_eq h_qx4.1 li_0)) (rf_bind (jr_X2_readGap (sr_I h_qx4.2 (e_gad (sr_gP2 h_qx4.2)) (sr_gI h_qx4.2 rfl))) fun qx5 QX5 h_qx5 => (rf_if (c_not (c_eq h_qx5.1 li_0)) (rf_bind (jr_X0_placeOf (sr_gI h_qx5.2 rfl) h_qx5.2) fun qx6 QX6 h_qx6 => (rf_bind (jr_X2_readNumber (sr_I h_qx6.2 rfl h_qx6.1)) fun qx7 QX7 h_qx7 => (rf_if (c_not (c_eq h_qx7.1 li_0)) (rf_bind (jr_X3_add (e_add (e_gad (sr_gP2 h_qx7.2))) li_1 (sr_I h_qx7.2 (e_gad (sr_gP2 h_qx7.2)) (sr_gI h_qx7.2 rfl))) fun qx8 QX8 h_qx8 => (rf_bind (jr_X2_readLineEnd h_qx8) fun qx9 QX9 h_qx9 => (rf_rg fun k1 => (rf_ck (k_fbl h_qx9.1 k1) (rf_some ⟨h_qx9.1, h_qx9.2⟩))))) (rf_some ⟨li_0, h_qx7.2⟩)))) (rf_some ⟨li_0, h_qx5.2⟩))) (rf_some ⟨li_0, h_qx4.2⟩)))) (rf_some ⟨li_0, h_qx2.2⟩)))) (rf_bind (jr_X0_wrong li_4 (sr_gI hs rfl) hs) fun qx10 QX10 h_qx10 => (rf_rg fun k2 => (rf_ck (k_fbl h_qx10.1 k2) (rf_some ⟨h_qx10.1, h_qx10.2⟩)))))
def j_X2_readCount (S : iS) : Option (Int × iS) := (j_X2_readCount_0 S)
theorem jr_X2_readCount {S : iS} {s : fS} (hs : sr S s) : rf rI (j_X2_readCount S) (f_X2_readCount s) := by
  unfold j_X2_readCount f_X2_readCount
  exact (jr_X2_readCount_0 hs)
def j_X2_kindOfLetter_0 (l0 : Int) (S : iS) : Option (Int × iS) := (if l0 = (100 : Int) then (some ((1 : Int), S)) else (if l0 = (103 : Int) then (some ((3 : Int), S)) else (if l0 = (116 : Int) then (some ((2 : Int), S)) else (if l0 = (119 : Int) then (some ((0 : Int), S)) else (some ((-1 : Int), S))))))
theorem jr_X2_kindOfLetter_0 {l0 : Int} {L0 : Int32} (h_l0 : L0.toInt = l0) {S : iS} {s : fS} (hs : sr S s) : rf rI (j_X2_kindOfLetter_0 l0 S) (f_X2_kindOfLetter_0 L0 s) := by
  unfold j_X2_kindOfLetter_0 f_X2_kindOfLetter_0
  exact (rf_if (c_ti h_l0) (rf_some ⟨li_1, hs⟩) (rf_if (c_ti h_l0) (rf_some ⟨li_3, hs⟩) (rf_if (c_ti h_l0) (rf_some ⟨li_2, hs⟩) (rf_if (c_ti h_l0) (rf_some ⟨li_0, hs⟩) (rf_some ⟨li_m1, hs⟩)))))
def j_X2_kindOfLetter (l0 : Int) (S : iS) : Option (Int × iS) := (j_X2_kindOfLetter_0 l0 S)
theorem jr_X2_kindOfLetter {l0 : Int} {L0 : Int32} (h_l0 : L0.toInt = l0) {S : iS} {s : fS} (hs : sr S s) : rf rI (j_X2_kindOfLetter l0 S) (f_X2_kindOfLetter L0 s) := by
  unfold j_X2_kindOfLetter f_X2_kindOfLetter
  exact (jr_X2_kindOfLetter_0 h_l0 hs)
def j_X6_isPlain_35 (l0 : Int) (t0 : Int) (S : iS) : Option (Int × iS) := (if (t0 = 0 ∨ t0 = 1) then (some (t0, S)) else none)
theorem jr_X6_isPlain_35 {l0 : Int} {L0 : Int32} (h_l0 : L0.toInt = l0) {t0 : Int} {T0 : Int32} (h_t0 : T0.toInt = t0) {S : iS} {s : fS} (hs : sr S s) : rf rI (j_X6_isPlain_35 l0 t0 S) (f_X6_isPlain_35 L0 T0 s) := by
  unfold j_X6_isPlain_35 f_X6_isPlain_35
  exact (rf_rg fun k1 => (rf_ck (k_fbl h_t0 k1) (rf_some ⟨h_t0, hs⟩)))
def j_X6_isPlain_30 (l0 : Int) (S : iS) : Option (Int × iS) := (j_X6_isPlain_35 l0 (1 : Int) S)
theorem jr_X6_isPlain_30 {l0 : Int} {L0 : Int32} (h_l0 : L0.toInt = l0) {S : iS} {s : fS} (hs : sr S s) : rf rI (j_X6_isPlain_30 l0 S) (f_X6_isPlain_30 L0 s) := by
  unfold j_X6_isPlain_30 f_X6_isPlain_30
  exact (jr_X6_isPlain_35 h_l0 li_1 hs)
def j_X6_isPlain_24 (l0 : Int) (S : iS) : Option (Int × iS) := (if ¬ l0 = (95 : Int) then (j_X6_isPlain_35 l0 (0 : Int) S) else (j_X6_isPlain_30 l0 S))
theorem jr_X6_isPlain_24 {l0 : Int} {L0 : Int32} (h_l0 : L0.toInt = l0) {S : iS} {s : fS} (hs : sr S s) : rf rI (j_X6_isPlain_24 l0 S) (f_X6_isPlain_24 L0 s) := by
  unfold j_X6_isPlain_24 f_X6_isPlain_24
  exact (rf_if (c_not (c_eq h_l0 li_95)) (jr_X6_isPlain_35 h_l0 li_0 hs) (jr_X6_isPlain_30 h_l0 hs))
def j_X6_isPlain_12 (l0 : Int) (S : iS) : Option (Int × iS) := (if l0 < (48 : Int) then (j_X6_isPlain_24 l0 S) else (if l0 ≤ (57 : Int) then (j_X6_isPlain_30 l0 S) else (j_X6_isPlain_24 l0 S)))
theorem jr_X6_isPlain_12 {l0 : Int} {L0 : Int32} (h_l0 : L0.toInt = l0) {S : iS} {s : fS} (hs : sr S s) : rf rI (j_X6_isPlain_12 l0 S) (f_X6_isPlain_12 L0 s) := by
  unfold j_X6_isPlain_12 f_X6_isPlain_12
  exact (rf_if (c_lt h_l0 li_48) (jr_X6_isPlain_24 h_l0 hs) (rf_if (c_le h_l0 li_57) (jr_X6_isPlain_30 h_l0 hs) (jr_X6_isPlain_24 h_l0 hs)))
def j_X6_isPlain_0 (l0 : Int) (S : iS) : Option (Int × iS) := (if l0 < (97 : Int) then (j_X6_isPlain_12 l0 S) else (if l0 ≤ (122 : Int) then (j_X6_isPlain_30 l0 S) else (j_X6_isPlain_12 l0 S)))
theorem jr_X6_isPlain_0 {l0 : Int} {L0 : Int32} (h_l0 : L0.toInt = l0) {S : iS} {s : fS} (hs : sr S s) : rf rI (j_X6_isPlain_0 l0 S) (f_X6_isPlain_0 L0 s) := by
  unfold j_X6_isPlain_0 f_X6_isPlain_0
  exact (rf_if (c_lt h_l0 li_97) (jr_X6_isPlain_12 h_l0 hs) (rf_if (c_le h_l0 li_122) (jr_X6_isPlain_30 h_l0 hs) (jr_X6_isPlain_12 h_l0 hs)))
def j_X6_isPlain (l0 : Int) (S : iS) : Option (Int × iS) := (j_X6_isPlain_0 l0 S)
theorem jr_X6_isPlain {l0 : Int} {L0 : Int32} (h_l0 : L0.toInt = l0) {S : iS} {s : fS} (hs : sr S s) : rf rI (j_X6_isPlain l0 S) (f_X6_isPlain L0 s) := by
  unfold j_X6_isPlain f_X6_isPlain
  exact (jr_X6_isPlain_0 h_l0 hs)
def j_X2_readPlain_102 (l1 : Int) (S : iS) : Option (Int × iS) := (some ((1 : Int), S))
theorem jr_X2_readPlain_102 {l1 : Int} {L1 : Int32} (h_l1 : L1.toInt = l1) {S : iS} {s : fS} (hs : sr S s) : rf rI (j_X2_readPlain_102 l1 S) (f_X2_readPlain_102 L1 s) := by
  unfold j_X2_readPlain_102 f_X2_readPlain_102
  exact (rf_some ⟨li_1, hs⟩)
def j_X2_readPlain_31  : Nat → Int → iS → Option (Int × iS)
  | 0, _, _ => none
  | n + 1, l1, S => (if (8 : Int) < l1 then (j_X2_readPlain_102 l1 S) else ((j_X6_isPlain (jI S 81 2) S).bind fun qx1 => (if qx1.1 = (0 : Int) then (j_X2_readPlain_102 l1 qx1.2) else (if ¬ l1 = (8 : Int) then ((j_X3_add ((gadr (jP2 qx1.2)) + 1) (jI qx1.2 81 2) qx1.2).bind fun qx2 => ((j_X0_step qx2).bind fun qx3 => (if rg (l1 + (1 : Int)) then (j_X2_readPlain_31 n (l1 + (1 : Int)) qx3) else none))) else ((j_X0_wrong (2 : Int) (jI qx1.2 81 1) qx1.2).bind fun qx4 => (if (qx4.1 = 0 ∨ qx4.1 = 1) then (some (qx4.1, qx4.2)) else none))))))
theorem jr_X2_readPlain_31  (n : Nat) : ∀ {l1 : Int} {L1 : Int32} (h_l1 : L1.toInt = l1) {S : iS} {s : fS} (hs : sr S s), rf rI (j_X2_readPlain_31 n l1 S) (f_X2_readPlain_31 n L1 s) := by
  induction n with
  | zero => intros; exact rf_none
  | succ n ih =>
    intro l1 L1 h_l1 S s hs
    rw [j_X2_readPlain_31, f_X2_readPlain_31]
    exact (rf_if (c_lt li_8 h_l1) (jr_X2_readPlain_102 h_l1 hs) (rf_bind (jr_X6_isPlain (sr_gI hs rfl) hs) fun qx1 QX1 h_qx1 => (rf_if (c_eq h_qx1.1 li_0) (jr_X2_readPlain_102 h_l1 h_qx1.2) (rf_if (c_not (c_eq h_l1 li_8)) (rf_bind (jr_X3_add (e_add (e_gad (sr_gP2 h_qx1.2))) (sr_gI h_qx1.2 rfl) h_qx1.2) fun qx2 QX2 h_qx2 => (rf_bind (jr_X0_step h_qx2) fun qx3 QX3 h_qx3 => (rf_rg fun k1 => (ih (i_add h_l1 lo_1 k1) h_qx3)))) (rf_bind (jr_X0_wrong li_2 (sr_gI h_qx1.2 rfl) h_qx1.2) fun qx4 QX4 h_qx4 => (rf_rg fun k2 => (rf_ck (k_fbl h_qx4.1 k2) (rf_some ⟨h_qx4.1, h_qx4.2⟩))))))))
def j_X2_readPlain_0 (S : iS) : Option (Int × iS) := ((j_X6_isPlain (jI S 81 2) S).bind fun qx1 => (if ¬ qx1.1 = (0 : Int) then (j_X2_readPlain_31 fuel (0 : Int) qx1.2) else ((j_X0_wrong (1 : Int) (jI qx1.2 81 1) qx1.2).bind fun qx2 => (if (qx2.1 = 0 ∨ qx2.1 = 1) then (some (qx2.1, qx2.2)) else none))))
theorem jr_X2_readPlain_0 {S : iS} {s : fS} (hs : sr S s) : rf rI (j_X2_readPlain_0 S) (f_X2_readPlain_0 s) := by
  unfold j_X2_readPlain_0 f_X2_readPlain_0
  exact (rf_bind (jr_X6_isPlain (sr_gI hs rfl) hs) fun qx1 QX1 h_qx1 => (rf_if (c_not (c_eq h_qx1.1 li_0)) (jr_X2_readPlain_31 fuel li_0 h_qx1.2) (rf_bind (jr_X0_wrong li_1 (sr_gI h_qx1.2 rfl) h_qx1.2) fun qx2 QX2 h_qx2 => (rf_rg fun k1 => (rf_ck (k_fbl h_qx2.1 k1) (rf_some ⟨h_qx2.1, h_qx2.2⟩))))))
def j_X2_readPlain (S : iS) : Option (Int × iS) := (j_X2_readPlain_0 S)
theorem jr_X2_readPlain {S : iS} {s : fS} (hs : sr S s) : rf rI (j_X2_readPlain S) (f_X2_readPlain s) := by
  unfold j_X2_readPlain f_X2_readPlain
  exact (jr_X2_readPlain_0 hs)
def j_X2_readQuoted_195 (l1 : Int) (S : iS) : Option (Int × iS) := ((j_X0_step S).bind fun qx1 => (some ((1 : Int), qx1)))
theorem jr_X2_readQuoted_195 {l1 : Int} {L1 : Int32} (h_l1 : L1.toInt = l1) {S : iS} {s : fS} (hs : sr S s) : rf rI (j_X2_readQuoted_195 l1 S) (f_X2_readQuoted_195 L1 s) := by
  unfold j_X2_readQuoted_195 f_X2_readQuoted_195
  exact (rf_bind (jr_X0_step hs) fun qx1 QX1 h_qx1 => (rf_some ⟨li_1, h_qx1⟩))
def j_X2_readQuoted_165 (r37 : Int → iS → Option (Int × iS)) (l1 : Int) (S : iS) : Option (Int × iS) := ((j_X3_add ((gadr (jP2 S)) + 1) (jI S 81 2) S).bind fun qx1 => ((j_X0_step qx1).bind fun qx2 => (if rg (l1 + (1 : Int)) then (r37 (l1 + (1 : Int)) qx2) else none)))
theorem jr_X2_readQuoted_165 {r37 : Int → iS → Option (Int × iS)} {R37 : Int32 → fS → Option (Int32 × fS)} (h_r37 : ∀ {y0 : Int} {Y0 : Int32} (h_y0 : Y0.toInt = y0) {S : iS} {s : fS} (hs : sr S s), rf rI (r37 y0 S) (R37 Y0 s)) {l1 : Int} {L1 : Int32} (h_l1 : L1.toInt = l1) {S : iS} {s : fS} (hs : sr S s) : rf rI (j_X2_readQuoted_165 r37 l1 S) (f_X2_readQuoted_165 R37 L1 s) := by
  unfold j_X2_readQuoted_165 f_X2_readQuoted_165
  exact (rf_bind (jr_X3_add (e_add (e_gad (sr_gP2 hs))) (sr_gI hs rfl) hs) fun qx1 QX1 h_qx1 => (rf_bind (jr_X0_step h_qx1) fun qx2 QX2 h_qx2 => (rf_rg fun k1 => (h_r37 (i_add h_l1 lo_1 k1) h_qx2))))
def j_X2_readQuoted_37  : Nat → Int → iS → Option (Int × iS)
  | 0, _, _ => none
  | n + 1, l1, S => (if (8 : Int) < l1 then (j_X2_readQuoted_195 l1 S) else (if (jI S 81 2) = (34 : Int) then (j_X2_readQuoted_195 l1 S) else ((j_X6_isPrintable (jI S 81 2) S).bind fun qx1 => (if ¬ qx1.1 = (0 : Int) then (if ¬ l1 = (8 : Int) then (if ¬ (jI qx1.2 81 2) = (92 : Int) then (j_X2_readQuoted_165 (fun l1' S' => j_X2_readQuoted_37 n l1' S') l1 qx1.2) else ((j_X0_step qx1.2).bind fun qx2 => (if (jI qx2 81 2) = (34 : Int) then (j_X2_readQuoted_165 (fun l1' S' => j_X2_readQuoted_37 n l1' S') l1 qx2) else (if (jI qx2 81 2) = (92 : Int) then (j_X2_readQuoted_165 (fun l1' S' => j_X2_readQuoted_37 n l1' S') l1 qx2) else ((j_X0_wrong (1 : Int) (jI qx2 81 1) qx2).bind fun qx3 => (if (qx3.1 = 0 ∨ qx3.1 = 1) then (some (qx3.1, qx3.2)) else none)))))) else ((j_X0_wrong (2 : Int) (jI qx1.2 81 1) qx1.2).bind fun qx4 => (if (qx4.1 = 0 ∨ qx4.1 = 1) then (some (qx4.1, qx4.2)) else none))) else ((j_X0_wrong (1 : Int) (jI qx1.2 81 1) qx1.2).bind fun qx5 => (if (qx5.1 = 0 ∨ qx5.1 = 1) then (some (qx5.1, qx5.2)) else none))))))
theorem jr_X2_readQuoted_37  (n : Nat) : ∀ {l1 : Int} {L1 : Int32} (h_l1 : L1.toInt = l1) {S : iS} {s : fS} (hs : sr S s), rf rI (j_X2_readQuoted_37 n l1 S) (f_X2_readQuoted_37 n L1 s) := by
  induction n with
  | zero => intros; exact rf_none
  | succ n ih =>
    intro l1 L1 h_l1 S s hs
    rw [j_X2_readQuoted_37, f_X2_readQuoted_37]
    exact (rf_if (c_lt li_8 h_l1) (jr_X2_readQuoted_195 h_l1 hs) (rf_if (c_eq (sr_gI hs rfl) li_34) (jr_X2_readQuoted_195 h_l1 hs) (rf_bind (jr_X6_isPrintable (sr_gI hs rfl) hs) fun qx1 QX1 h_qx1 => (rf_if (c_not (c_eq h_qx1.1 li_0)) (rf_if (c_not (c_eq h_l1 li_8)) (rf_if (c_not (c_eq (sr_gI h_qx1.2 rfl) li_92)) (jr_X2_readQuoted_165 (@fun _ _ h_l1' _ _ hs' => (ih h_l1' hs')) h_l1 h_qx1.2) (rf_bind (jr_X0_step h_qx1.2) fun qx2 QX2 h_qx2 => (rf_if (c_eq (sr_gI h_qx2 rfl) li_34) (jr_X2_readQuoted_165 (@fun _ _ h_l1' _ _ hs' => (ih h_l1' hs')) h_l1 h_qx2) (rf_if (c_eq (sr_gI h_qx2 rfl) li_92) (jr_X2_readQuoted_165 (@fun _ _ h_l1' _ _ hs' => (ih h_l1' hs')) h_l1 h_qx2) (rf_bind (jr_X0_wrong li_1 (sr_gI h_qx2 rfl) h_qx2) fun qx3 QX3 h_qx3 => (rf_rg fun k1 => (rf_ck (k_fbl h_qx3.1 k1) (rf_some ⟨h_qx3.1, h_qx3.2⟩)))))))) (rf_bind (jr_X0_wrong li_2 (sr_gI h_qx1.2 rfl) h_qx1.2) fun qx4 QX4 h_qx4 => (rf_rg fun k2 => (rf_ck (k_fbl h_qx4.1 k2) (rf_some ⟨h_qx4.1, h_qx4.2⟩))))) (rf_bind (jr_X0_wrong li_1 (sr_gI h_qx1.2 rfl) h_qx1.2) fun qx5 QX5 h_qx5 => (rf_rg fun k3 => (rf_ck (k_fbl h_qx5.1 k3) (rf_some ⟨h_qx5.1, h_qx5.2⟩))))))))
def j_X2_readQuoted_0 (S : iS) : Option (Int × iS) := ((j_X0_step S).bind fun qx1 => (if ¬ (jI qx1 81 2) = (34 : Int) then (j_X2_readQuoted_37 fuel (0 : Int) qx1) else ((j_X0_wrong (1 : Int) (jI qx1 81 1) qx1).bind fun qx2 => (if (qx2.1 = 0 ∨ qx2.1 = 1) then (some (qx2.1, qx2.2)) else none))))
theorem jr_X2_readQuoted_0 {S : iS} {s : fS} (hs : sr S s) : rf rI (j_X2_readQuoted_0 S) (f_X2_readQuoted_0 s) := by
  unfold j_X2_readQuoted_0 f_X2_readQuoted_0
  exact (rf_bind (jr_X0_step hs) fun qx1 QX1 h_qx1 => (rf_if (c_not (c_eq (sr_gI h_qx1 rfl) li_34)) (jr_X2_readQuoted_37 fuel li_0 h_qx1) (rf_bind (jr_X0_wrong li_1 (sr_gI h_qx1 rfl) h_qx1) fun qx2 QX2 h_qx2 => (rf_rg fun k1 => (rf_ck (k_fbl h_qx2.1 k1) (rf_some ⟨h_qx2.1, h_qx2.2⟩))))))
def j_X2_readQuoted (S : iS) : Option (Int × iS) := (j_X2_readQuoted_0 S)
theorem jr_X2_readQuoted {S : iS} {s : fS} (hs : sr S s) : rf rI (j_X2_readQuoted S) (f_X2_readQuoted s) := by
  unfold j_X2_readQuoted f_X2_readQuoted
  exact (jr_X2_readQuoted_0 hs)
def j_X2_readName_48 (t0 : Int) (S : iS) : Option (Int × iS) := (if (t0 = 0 ∨ t0 = 1) then (some (t0, S)) else none)
theorem jr_X2_readName_48 {t0 : Int} {T0 : Int32} (h_t0 : T0.toInt = t0) {S : iS} {s : fS} (hs : sr S s) : rf rI (j_X2_readName_48 t0 S) (f_X2_readName_48 T0 s) := by
  unfold j_X2_readName_48 f_X2_readName_48
  exact (rf_rg fun k1 => (rf_ck (k_fbl h_t0 k1) (rf_some ⟨h_t0, hs⟩)))
def j_X2_readName_0 (S : iS) : Option (Int × iS) := (if ¬ (jI S 81 2) = (34 : Int) then ((j_X2_readPlain (kI (kI S 80 8 (jI S 81 1)) 80 9 (jI S ((gadr (jP2 S)) + 1) 1))).bind fun qx1 => (j_X2_readName_48 qx1.1 qx1.2)) else ((j_X2_readQuoted (kI (kI S 80 8 (jI S 81 1)) 80 9 (jI S ((gadr (jP2 S)) + 1) 1))).bind fun qx2 => (j_X2_readName_48 qx2.1 qx2.2)))
theorem jr_X2_readName_0 {S : iS} {s : fS} (hs : sr S s) : rf rI (j_X2_readName_0 S) (f_X2_readName_0 s) := by
  unfold j_X2_readName_0 f_X2_readName_0
  exact (rf_if (c_not (c_eq (sr_gI hs rfl) li_34)) (rf_bind (jr_X2_readPlain (sr_I (sr_I hs rfl (sr_gI hs rfl)) rfl (sr_gI hs (e_add (e_gad (sr_gP2 hs)))))) fun qx1 QX1 h_qx1 => (jr_X2_readName_48 h_qx1.1 h_qx1.2)) (rf_bind (jr_X2_readQuoted (sr_I (sr_I hs rfl (sr_gI hs rfl)) rfl (sr_gI hs (e_add (e_gad (sr_gP2 hs)))))) fun qx2 QX2 h_qx2 => (jr_X2_readName_48 h_qx2.1 h_qx2.2)))
def j_X2_readName (S : iS) : Option (Int × iS) := (j_X2_readName_0 S)
theorem jr_X2_readName {S : iS} {s : fS} (hs : sr S s) : rf rI (j_X2_readName S) (f_X2_readName s) := by
  unfold j_X2_readName f_X2_readName
  exact (jr_X2_readName_0 hs)
def j_X4_isSame_28 (a0 : Nat) (a2 : Nat) : Nat → Int → Int → Int → Int → Int → iS → Option (Int × iS)
  | 0, _, _, _, _, _, _ => none
  | n + 1, l1, l3, l4, l5, l6, S => (if l4 ≤ l6 then (some ((1 : Int), S)) else (if rg (l5 + l6) then ((j_X3_at (sgn a0) (l5 + l6) S).bind fun qx1 => (if rg (l3 + l6) then ((j_X3_at a2 (l3 + l6) qx1.2).bind fun qx2 => (if qx1.1 = qx2.1 then (if rg (l6 + (1 : Int)) then (j_X4_isSame_28 a0 a2 n l1 l3 l4 l5 (l6 + (1 : Int)) qx2.2) else none) else (some ((0 : Int), qx2.2)))) else none)) else none))
theorem jr_X4_isSame_28 {a0 A0 : Nat} (h_a0 : A0 = a0) {a2 A2 : Nat} (h_a2 : A2 = a2) (n : Nat) : ∀ {l1 : Int} {L1 : Int32} (h_l1 : L1.toInt = l1) {l3 : Int} {L3 : Int32} (h_l3 : L3.toInt = l3) {l4 : Int} {L4 : Int32} (h_l4 : L4.toInt = l4) {l5 : Int} {L5 : Int32} (h_l5 : L5.toInt = l5) {l6 : Int} {L6 : Int32} (h_l6 : L6.toInt = l6) {S : iS} {s : fS} (hs : sr S s), rf rI (j_X4_isSame_28 a0 a2 n l1 l3 l4 l5 l6 S) (f_X4_isSame_28 A0 A2 n L1 L3 L4 L5 L6 s) := by
  induction n with
  | zero => intros; exact rf_none
  | succ n ih =>
    intro l1 L1 h_l1 l3 L3 h_l3 l4 L4 h_l4 l5 L5 h_l5 l6 L6 h_l6 S s hs
    rw [j_X4_isSame_28, f_X4_isSame_28]
    exact (rf_if (c_le h_l4 h_l6) (rf_some ⟨li_1, hs⟩) (rf_rg fun k1 => (rf_bind (jr_X3_at (e_sgn h_a0) (i_add h_l5 h_l6 k1) hs) fun qx1 QX1 h_qx1 => (rf_rg fun k2 => (rf_bind (jr_X3_at h_a2 (i_add h_l3 h_l6 k2) h_qx1.2) fun qx2 QX2 h_qx2 => (rf_if (c_eq h_qx1.1 h_qx2.1) (rf_rg fun k3 => (ih h_l1 h_l3 h_l4 h_l5 (i_add h_l6 lo_1 k3) h_qx2.2)) (rf_some ⟨li_0, h_qx2.2⟩)))))))
def j_X4_isSame_0 (a0 : Nat) (a2 : Nat) (l1 : Int) (l3 : Int) (l4 : Int) (S : iS) : Option (Int × iS) := ((j_X3_at (a0 + 3) l1 S).bind fun qx1 => (if qx1.1 = l4 then ((j_X3_at (a0 + 1) l1 qx1.2).bind fun qx2 => (j_X4_isSame_28 a0 a2 fuel l1 l3 l4 qx2.1 (0 : Int) qx2.2)) else (some ((0 : Int), qx1.2))))
theorem jr_X4_isSame_0 {a0 A0 : Nat} (h_a0 : A0 = a0) {a2 A2 : Nat} (h_a2 : A2 = a2) {l1 : Int} {L1 : Int32} (h_l1 : L1.toInt = l1) {l3 : Int} {L3 : Int32} (h_l3 : L3.toInt = l3) {l4 : Int} {L4 : Int32} (h_l4 : L4.toInt = l4) {S : iS} {s : fS} (hs : sr S s) : rf rI (j_X4_isSame_0 a0 a2 l1 l3 l4 S) (f_X4_isSame_0 A0 A2 L1 L3 L4 s) := by
  unfold j_X4_isSame_0 f_X4_isSame_0
  exact (rf_bind (jr_X3_at (e_add h_a0) h_l1 hs) fun qx1 QX1 h_qx1 => (rf_if (c_eq h_qx1.1 h_l4) (rf_bind (jr_X3_at (e_add h_a0) h_l1 h_qx1.2) fun qx2 QX2 h_qx2 => (jr_X4_isSame_28 h_a0 h_a2 fuel h_l1 h_l3 h_l4 h_qx2.1 li_0 h_qx2.2)) (rf_some ⟨li_0, h_qx1.2⟩)))
def j_X4_isSame (a0 : Nat) (l1 : Int) (a2 : Nat) (l3 : Int) (l4 : Int) (S : iS) : Option (Int × iS) := (j_X4_isSame_0 a0 a2 l1 l3 l4 S)
theorem jr_X4_isSame {a0 A0 : Nat} (h_a0 : A0 = a0) {l1 : Int} {L1 : Int32} (h_l1 : L1.toInt = l1) {a2 A2 : Nat} (h_a2 : A2 = a2) {l3 : Int} {L3 : Int32} (h_l3 : L3.toInt = l3) {l4 : Int} {L4 : Int32} (h_l4 : L4.toInt = l4) {S : iS} {s : fS} (hs : sr S s) : rf rI (j_X4_isSame a0 l1 a2 l3 l4 S) (f_X4_isSame A0 L1 A2 L3 L4 s) := by
  unfold j_X4_isSame f_X4_isSame
  exact (jr_X4_isSame_0 h_a0 h_a2 h_l1 h_l3 h_l4 hs)
def j_X4_indexOf_3 (a0 : Nat) (a1 : Nat) : Nat → Int → Int → Int → iS → Option (Int × iS)
  | 0, _, _, _, _ => none
  | n + 1, l2, l3, l4, S => (if (jI S a0 3) ≤ l4 then (some ((-1 : Int), S)) else ((j_X4_isSame a0 l4 a1 l2 l3 S).bind fun qx1 => (if qx1.1 = (0 : Int) then (if rg (l4 + (1 : Int)) then (j_X4_indexOf_3 a0 a1 n l2 l3 (l4 + (1 : Int)) qx1.2) else none) else (some (l4, qx1.2)))))
theorem jr_X4_indexOf_3 {a0 A0 : Nat} (h_a0 : A0 = a0) {a1 A1 : Nat} (h_a1 : A1 = a1) (n : Nat) : ∀ {l2 : Int} {L2 : Int32} (h_l2 : L2.toInt = l2) {l3 : Int} {L3 : Int32} (h_l3 : L3.toInt = l3) {l4 : Int} {L4 : Int32} (h_l4 : L4.toInt = l4) {S : iS} {s : fS} (hs : sr S s), rf rI (j_X4_indexOf_3 a0 a1 n l2 l3 l4 S) (f_X4_indexOf_3 A0 A1 n L2 L3 L4 s) := by
  induction n with
  | zero => intros; exact rf_none
  | succ n ih =>
    intro l2 L2 h_l2 l3 L3 h_l3 l4 L4 h_l4 S s hs
    rw [j_X4_indexOf_3, f_X4_indexOf_3]
    exact (rf_if (c_le (sr_gI hs h_a0) h_l4) (rf_some ⟨li_m1, hs⟩) (rf_bind (jr_X4_isSame h_a0 h_l4 h_a1 h_l2 h_l3 hs) fun qx1 QX1 h_qx1 => (rf_if (c_eq h_qx1.1 li_0) (rf_rg fun k1 => (ih h_l2 h_l3 (i_add h_l4 lo_1 k1) h_qx1.2)) (rf_some ⟨h_l4, h_qx1.2⟩))))
def j_X4_indexOf_0 (a0 : Nat) (a1 : Nat) (l2 : Int) (l3 : Int) (S : iS) : Option (Int × iS) := (j_X4_indexOf_3 a0 a1 fuel l2 l3 (0 : Int) S)
theorem jr_X4_indexOf_0 {a0 A0 : Nat} (h_a0 : A0 = a0) {a1 A1 : Nat} (h_a1 : A1 = a1) {l2 : Int} {L2 : Int32} (h_l2 : L2.toInt = l2) {l3 : Int} {L3 : Int32} (h_l3 : L3.toInt = l3) {S : iS} {s : fS} (hs : sr S s) : rf rI (j_X4_indexOf_0 a0 a1 l2 l3 S) (f_X4_indexOf_0 A0 A1 L2 L3 s) := by
  unfold j_X4_indexOf_0 f_X4_indexOf_0
  exact (jr_X4_indexOf_3 h_a0 h_a1 fuel h_l2 h_l3 li_0 hs)
def j_X4_indexOf (a0 : Nat) (a1 : Nat) (l2 : Int) (l3 : Int) (S : iS) : Option (Int × iS) := (j_X4_indexOf_0 a0 a1 l2 l3 S)
theorem jr_X4_indexOf {a0 A0 : Nat} (h_a0 : A0 = a0) {a1 A1 : Nat} (h_a1 : A1 = a1) {l2 : Int} {L2 : Int32} (h_l2 : L2.toInt = l2) {l3 : Int} {L3 : Int32} (h_l3 : L3.toInt = l3) {S : iS} {s : fS} (hs : sr S s) : rf rI (j_X4_indexOf a0 a1 l2 l3 S) (f_X4_indexOf A0 A1 L2 L3 s) := by
  unfold j_X4_indexOf f_X4_indexOf
  exact (jr_X4_indexOf_0 h_a0 h_a1 h_l2 h_l3 hs)
def j_X2_readHead_21 (S : iS) : Option (Int × iS) := ((j_X0_wrong (4 : Int) (jI S 81 1) S).bind fun qx1 => (if (qx1.1 = 0 ∨ qx1.1 = 1) then (some (qx1.1, qx1.2)) else none))
theorem jr_X2_readHead_21 {S : iS} {s : fS} (hs : sr S s) : rf rI (j_X2_readHead_21 S) (f_X2_readHead_21 s) := by
  unfold j_X2_readHead_21 f_X2_readHead_21
  exact (rf_bind (jr_X0_wrong li_4 (sr_gI hs rfl) hs) fun qx1 QX1 h_qx1 => (rf_rg fun k1 => (rf_ck (k_fbl h_qx1.1 k1) (rf_some ⟨h_qx1.1, h_qx1.2⟩))))
def j_X2_readHead_58 (S : iS) : Option (Int × iS) := (some ((0 : Int), S))
theorem jr_X2_readHead_58 {S : iS} {s : fS} (hs : sr S s) : rf rI (j_X2_readHead_58 S) (f_X2_readHead_58 s) := by
  unfold j_X2_readHead_58 f_X2_readHead_58
  exact (rf_some ⟨li_0, hs⟩)
def j_X2_readHead_0 (S : iS) : Option (Int × iS) := (if ¬ (jI S 80 3) = (0 : Int) then (j_X2_readHead_21 S) else (if (jI S ((gadr (jP2 S)) + 8) 3) < (3 : Int) then ((j_X0_step S).bind fun qx1 => ((j_X2_readGap qx1).bind fun qx2 => (if qx2.1 = (0 : Int) then (j_X2_readHead_58 qx2.2) else ((j_X2_readName qx2.2).bind fun qx3 => (if ¬ qx3.1 = (0 : Int) then (if rg ((jI qx3.2 ((gadr (jP2 qx3.2)) + 1) 1) - (jI qx3.2 80 9)) then ((j_X4_indexOf ((gadr (jP2 qx3.2)) + 8) ((gadr (jP2 qx3.2)) + 1) (jI qx3.2 80 9) ((jI qx3.2 ((gadr (jP2 qx3.2)) + 1) 1) - (jI qx3.2 80 9)) qx3.2).bind fun qx4 => (if qx4.1 = (-1 : Int) then ((j_X4_add ((gadr (jP2 qx4.2)) + 8) (jI qx4.2 80 9) ((jI qx3.2 ((gadr (jP2 qx3.2)) + 1) 1) - (jI qx3.2 80 9)) qx4.2).bind fun qx5 => ((j_X2_readGap qx5).bind fun qx6 => (if ¬ qx6.1 = (0 : Int) then ((j_X2_kindOfLetter (jI qx6.2 81 2) qx6.2).bind fun qx7 => (if ¬ qx7.1 = (-1 : Int) then ((j_X3_add ((gadr (jP2 qx7.2)) + 18) qx7.1 qx7.2).bind fun qx8 => ((j_X3_add ((gadr (jP2 qx8)) + 35) (2 : Int) qx8).bind fun qx9 => ((j_X0_step qx9).bind fun qx10 => ((j_X2_readLineEnd qx10).bind fun qx11 => (if (qx11.1 = 0 ∨ qx11.1 = 1) then (some (qx11.1, qx11.2)) else none))))) else ((j_X0_wrong (1 : Int) (jI qx7.2 81 1) qx7.2).bind fun qx12 => (if (qx12.1 = 0 ∨ qx12.1 = 1) then (some (qx12.1, qx12.2)) else none)))) else (some ((0 : Int), qx6.2))))) else ((j_X0_wrong (4 : Int) (jI qx4.2 80 8) qx4.2).bind fun qx13 => (if (qx13.1 = 0 ∨ qx13.1 = 1) then (some (qx13.1, qx13.2)) else none)))) else none) else (j_X2_readHead_58 qx3.2)))))) else (j_X2_readHead_21 S)))
theorem jr_X2_readHead_0 {S : iS} {s : fS} (hs : sr S s) : rf rI (j_X2_readHead_0 S) (f_X2_readHead_0 s) := by
  unfold j_X2_readHead_0 f_X2_readHead_0
  exact (rf_if (c_not (c_eq (sr_gI hs rfl) li_0)) (jr_X2_readHead_21 hs) (rf_if (c_lt (sr_gI hs (e_add (e_gad (sr_gP2 hs)))) li_3) (rf_bind (jr_X0_step hs) fun qx1 QX1 h_qx1 => (rf_bind (jr_X2_readGap h_qx1) fun qx2 QX2 h_qx2 => (rf_if (c_eq h_qx2.1 li_0) (jr_X2_readHead_58 h_qx2.2) (rf_bind (jr_X2_readName h_qx2.2) fun qx3 QX3 h_qx3 => (rf_if (c_not (c_eq h_qx3.1 li_0)) (rf_rg fun k1 => (rf_bind (jr_X4_indexOf (e_add (e_gad (sr_gP2 h_qx3.2))) (e_add (e_gad (sr_gP2 h_qx3.2))) (sr_gI h_qx3.2 rfl) (i_sub (sr_gI h_qx3.2 (e_add (e_gad (sr_gP2 h_qx3.2)))) (sr_gI h_qx3.2 rfl) k1) h_qx3.2) fun qx4 QX4 h_qx4 => (rf_if (c_eq h_qx4.1 li_m1) (rf_bind (jr_X4_add (e_add (e_gad (sr_gP2 h_qx4.2))) (sr_gI h_qx4.2 rfl) (i_sub (sr_gI h_qx3.2 (e_add (e_gad (sr_gP2 h_qx3.2)))) (sr_gI h_qx3.2 rfl) k1) h_qx4.2) fun qx5 QX5 h_qx5 => (rf_bind (jr_X2_readGap h_qx5) fun qx6 QX6 h_qx6 => (rf_if (c_not (c_eq h_qx6.1 li_0)) (rf_bind (jr_X2_kindOfLetter (sr_gI h_qx6.2 rfl) h_qx6.2) fun qx7 QX7 h_qx7 => (rf_if (c_not (c_eq h_qx7.1 li_m1)) (rf_bind (jr_X3_add (e_add (e_gad (sr_gP2 h_qx7.2))) h_qx7.1 h_qx7.2) fun qx8 QX8 h_qx8 => (rf_bind (jr_X3_add (e_add (e_gad (sr_gP2 h_qx8))) li_2 h_qx8) fun qx9 QX9 h_qx9 => (rf_bind (jr_X0_step h_qx9) fun qx10 QX10 h_qx10 => (rf_bind (jr_X2_readLineEnd h_qx10) fun qx11 QX11 h_qx11 => (rf_rg fun k2 => (rf_ck (k_fbl h_qx11.1 k2) (rf_some ⟨h_qx11.1, h_qx11.2⟩))))))) (rf_bind (jr_X0_wrong li_1 (sr_gI h_qx7.2 rfl) h_qx7.2) fun qx12 QX12 h_qx12 => (rf_rg fun k3 => (rf_ck (k_fbl h_qx12.1 k3) (rf_some ⟨h_qx12.1, h_qx12.2⟩)))))) (rf_some ⟨li_0, h_qx6.2⟩)))) (rf_bind (jr_X0_wrong li_4 (sr_gI h_qx4.2 rfl) h_qx4.2) fun qx13 QX13 h_qx13 => (rf_rg fun k4 => (rf_ck (k_fbl h_qx13.1 k4) (rf_some ⟨h_qx13.1, h_qx13.2⟩))))))) (jr_X2_readHead_58 h_qx3.2)))))) (jr_X2_readHead_21 hs)))
def j_X2_readHead (S : iS) : Option (Int × iS) := (j_X2_readHead_0 S)
theorem jr_X2_readHead {S : iS} {s : fS} (hs : sr S s) : rf rI (j_X2_readHead S) (f_X2_readHead s) := by
  unfold j_X2_readHead f_X2_readHead
  exact (jr_X2_readHead_0 hs)
def j_X2_takeNode_0 (S : iS) : Option (Int × iS) := (if rg ((jI S ((gadr (jP2 S)) + 1) 1) - (jI S 80 9)) then ((j_X4_indexOf ((gadr (jP2 S)) + 3) ((gadr (jP2 S)) + 1) (jI S 80 9) ((jI S ((gadr (jP2 S)) + 1) 1) - (jI S 80 9)) S).bind fun qx1 => (if qx1.1 = (-1 : Int) then (if (jI qx1.2 ((gadr (jP2 qx1.2)) + 3) 3) < (30 : Int) then ((j_X4_add ((gadr (jP2 qx1.2)) + 3) (jI qx1.2 80 9) ((jI S ((gadr (jP2 S)) + 1) 1) - (jI S 80 9)) qx1.2).bind fun qx2 => (if rg ((jI qx2 ((gadr (jP2 qx2)) + 3) 3) - (1 : Int)) then (some (((jI qx2 ((gadr (jP2 qx2)) + 3) 3) - (1 : Int)), qx2)) else none)) else ((j_X0_wrong (6 : Int) (jI qx1.2 80 8) qx1.2).bind fun qx3 => (some ((-1 : Int), qx3.2)))) else (some (qx1.1, qx1.2)))) else none)
theorem jr_X2_takeNode_0 {S : iS} {s : fS} (hs : sr S s) : rf rI (j_X2_takeNode_0 S) (f_X2_takeNode_0 s) := by
  unfold j_X2_takeNode_0 f_X2_takeNode_0
  exact (rf_rg fun k1 => (rf_bind (jr_X4_indexOf (e_add (e_gad (sr_gP2 hs))) (e_add (e_gad (sr_gP2 hs))) (sr_gI hs rfl) (i_sub (sr_gI hs (e_add (e_gad (sr_gP2 hs)))) (sr_gI hs rfl) k1) hs) fun qx1 QX1 h_qx1 => (rf_if (c_eq h_qx1.1 li_m1) (rf_if (c_lt (sr_gI h_qx1.2 (e_add (e_gad (sr_gP2 h_qx1.2)))) li_30) (rf_bind (jr_X4_add (e_add (e_gad (sr_gP2 h_qx1.2))) (sr_gI h_qx1.2 rfl) (i_sub (sr_gI hs (e_add (e_gad (sr_gP2 hs)))) (sr_gI hs rfl) k1) h_qx1.2) fun qx2 QX2 h_qx2 => (rf_rg fun k2 => (rf_some ⟨(i_sub (sr_gI h_qx2 (e_add (e_gad (sr_gP2 h_qx2)))) li_1 k2), h_qx2⟩))) (rf_bind (jr_X0_wrong li_6 (sr_gI h_qx1.2 rfl) h_qx1.2) fun qx3 QX3 h_qx3 => (rf_some ⟨li_m1, h_qx3.2⟩))) (rf_some ⟨h_qx1.1, h_qx1.2⟩))))
def j_X2_takeNode (S : iS) : Option (Int × iS) := (j_X2_takeNode_0 S)
theorem jr_X2_takeNode {S : iS} {s : fS} (hs : sr S s) : rf rI (j_X2_takeNode S) (f_X2_takeNode s) := by
  unfold j_X2_takeNode f_X2_takeNode
  exact (jr_X2_takeNode_0 hs)
def j_X2_readEnds_50 (S : iS) : Option (Int × iS) := (some ((0 : Int), S))
theorem jr_X2_readEnds_50 {S : iS} {s : fS} (hs : sr S s) : rf rI (j_X2_readEnds_50 S) (f_X2_readEnds_50 s) := by
  unfold j_X2_readEnds_50 f_X2_readEnds_50
  exact (rf_some ⟨li_0, hs⟩)
def j_X2_readEnds_117 (S : iS) : Option (Int × iS) := (some ((1 : Int), S))
theorem jr_X2_readEnds_117 {S : iS} {s : fS} (hs : sr S s) : rf rI (j_X2_readEnds_117 S) (f_X2_readEnds_117 s) := by
  unfold j_X2_readEnds_117 f_X2_readEnds_117
  exact (rf_some ⟨li_1, hs⟩)
def j_X2_readEnds_0 (S : iS) : Option (Int × iS) := ((j_X2_readName (kI S 80 12 (jI S 81 1))).bind fun qx1 => (if ¬ qx1.1 = (0 : Int) then ((j_X2_takeNode qx1.2).bind fun qx2 => (if qx2.1 = (-1 : Int) then (j_X2_readEnds_50 (kI qx2.2 80 13 qx2.1)) else ((j_X2_readGap (kI qx2.2 80 13 qx2.1)).bind fun qx3 => (if qx3.1 = (0 : Int) then (j_X2_readEnds_50 qx3.2) else ((j_X2_readName qx3.2).bind fun qx4 => (if ¬ qx4.1 = (0 : Int) then ((j_X2_takeNode qx4.2).bind fun qx5 => (if ¬ qx5.1 = (-1 : Int) then ((j_X1_hasArc (jP2 qx5.2) (jI qx5.2 80 13) qx5.1 (kI qx5.2 80 14 qx5.1)).bind fun qx6 => (if (qx6.1 = 0 ∨ qx6.1 = 1) then (if qx6.1 = (0 : Int) then (j_X2_readEnds_117 (kI qx6.2 80 15 qx6.1)) else (if ¬ (jI qx6.2 80 2) = (2 : Int) then (j_X2_readEnds_117 (kI qx6.2 80 15 qx6.1)) else ((j_X0_wrong (5 : Int) (jI qx6.2 80 8) (kI qx6.2 80 15 qx6.1)).bind fun qx7 => (if (qx7.1 = 0 ∨ qx7.1 = 1) then (some (qx7.1, qx7.2)) else none)))) else none)) else (some ((0 : Int), (kI qx5.2 80 14 qx5.1))))) else (j_X2_readEnds_50 qx4.2))))))) else (some ((0 : Int), qx1.2))))
theorem jr_X2_readEnds_0 {S : iS} {s : fS} (hs : sr S s) : rf rI (j_X2_readEnds_0 S) (f_X2_readEnds_0 s) := by
  unfold j_X2_readEnds_0 f_X2_readEnds_0
  exact (rf_bind (jr_X2_readName (sr_I hs rfl (sr_gI hs rfl))) fun qx1 QX1 h_qx1 => (rf_if (c_not (c_eq h_qx1.1 li_0)) (rf_bind (jr_X2_takeNode h_qx1.2) fun qx2 QX2 h_qx2 => (rf_if (c_eq h_qx2.1 li_m1) (jr_X2_readEnds_50 (sr_I h_qx2.2 rfl h_qx2.1)) (rf_bind (jr_X2_readGap (sr_I h_qx2.2 rfl h_qx2.1)) fun qx3 QX3 h_qx3 => (rf_if (c_eq h_qx3.1 li_0) (jr_X2_readEnds_50 h_qx3.2) (rf_bind (jr_X2_readName h_qx3.2) fun qx4 QX4 h_qx4 => (rf_if (c_not (c_eq h_qx4.1 li_0)) (rf_bind (jr_X2_takeNode h_qx4.2) fun qx5 QX5 h_qx5 => (rf_if (c_not (c_eq h_qx5.1 li_m1)) (rf_bind (jr_X1_hasArc (sr_gP2 h_qx5.2) (sr_gI h_qx5.2 rfl) h_qx5.1 (sr_I h_qx5.2 rfl h_qx5.1)) fun qx6 QX6 h_qx6 => (rf_rg fun k1 => (rf_ck (k_fit h_qx6.1 k1) (rf_if (c_eq h_qx6.1 li_0) (jr_X2_readEnds_117 (sr_I h_qx6.2 rfl h_qx6.1)) (rf_if (c_not (c_eq (sr_gI h_qx6.2 rfl) li_2)) (jr_X2_readEnds_117 (sr_I h_qx6.2 rfl h_qx6.1)) (rf_bind (jr_X0_wrong li_5 (sr_gI h_qx6.2 rfl) (sr_I h_qx6.2 rfl h_qx6.1)) fun qx7 QX7 h_qx7 => (rf_rg fun k2 => (rf_ck (k_fbl h_qx7.1 k2) (rf_some ⟨h_qx7.1, h_qx7.2⟩))))))))) (rf_some ⟨li_0, (sr_I h_qx5.2 rfl h_qx5.1)⟩))) (jr_X2_readEnds_50 h_qx4.2))))))) (rf_some ⟨li_0, h_qx1.2⟩)))
def j_X2_readEnds (S : iS) : Option (Int × iS) := (j_X2_readEnds_0 S)
theorem jr_X2_readEnds {S : iS} {s : fS} (hs : sr S s) : rf rI (j_X2_readEnds S) (f_X2_readEnds s) := by
  unfold j_X2_readEnds f_X2_readEnds
  exact (jr_X2_readEnds_0 hs)
def j_X2_endArc_38 (S : iS) : Option (Int × iS) := ((j_X1_arcCount (jP2 S) S).bind fun qx1 => (if qx1.1 < (40 : Int) then ((j_X1_addArc (jP2 qx1.2) (jI qx1.2 80 13) (jI qx1.2 80 14) (jI qx1.2 81 3) qx1.2).bind fun qx2 => (some ((1 : Int), qx2))) else ((j_X0_wrong (6 : Int) (jI qx1.2 80 12) qx1.2).bind fun qx3 => (if (qx3.1 = 0 ∨ qx3.1 = 1) then (some (qx3.1, qx3.2)) else none))))
theorem jr_X2_endArc_38 {S : iS} {s : fS} (hs : sr S s) : rf rI (j_X2_endArc_38 S) (f_X2_endArc_38 s) := by
  unfold j_X2_endArc_38 f_X2_endArc_38
  exact (rf_bind (jr_X1_arcCount (sr_gP2 hs) hs) fun qx1 QX1 h_qx1 => (rf_if (c_lt h_qx1.1 li_40) (rf_bind (jr_X1_addArc (sr_gP2 h_qx1.2) (sr_gI h_qx1.2 rfl) (sr_gI h_qx1.2 rfl) (sr_gI h_qx1.2 rfl) h_qx1.2) fun qx2 QX2 h_qx2 => (rf_some ⟨li_1, h_qx2⟩)) (rf_bind (jr_X0_wrong li_6 (sr_gI h_qx1.2 rfl) h_qx1.2) fun qx3 QX3 h_qx3 => (rf_rg fun k1 => (rf_ck (k_fbl h_qx3.1 k1) (rf_some ⟨h_qx3.1, h_qx3.2⟩))))))
def j_X2_endArc_0 (S : iS) : Option (Int × iS) := ((j_X2_readLineEnd S).bind fun qx1 => (if ¬ qx1.1 = (0 : Int) then (if (jI qx1.2 80 15) = (0 : Int) then (j_X2_endArc_38 (kI qx1.2 80 3 (1 : Int))) else (if ¬ (jI qx1.2 80 2) = (1 : Int) then (j_X2_endArc_38 (kI qx1.2 80 3 (1 : Int))) else ((j_X1_leaveArcOut (jP2 qx1.2) (kI qx1.2 80 3 (1 : Int))).bind fun qx2 => (some ((1 : Int), qx2))))) else (some ((0 : Int), qx1.2))))
theorem jr_X2_endArc_0 {S : iS} {s : fS} (hs : sr S s) : rf rI (j_X2_endArc_0 S) (f_X2_endArc_0 s) := by
  unfold j_X2_endArc_0 f_X2_endArc_0
  exact (rf_bind (jr_X2_readLineEnd hs) fun qx1 QX1 h_qx1 => (rf_if (c_not (c_eq h_qx1.1 li_0)) (rf_if (c_eq (sr_gI h_qx1.2 rfl) li_0) (jr_X2_endArc_38 (sr_I h_qx1.2 rfl li_1)) (rf_if (c_not (c_eq (sr_gI h_qx1.2 rfl) li_1)) (jr_X2_endArc_38 (sr_I h_qx1.2 rfl li_1)) (rf_bind (jr_X1_leaveArcOut (sr_gP2 h_qx1.2) (sr_I h_qx1.2 rfl li_1)) fun qx2 QX2 h_qx2 => (rf_some ⟨li_1, h_qx2⟩)))) (rf_some ⟨li_0, h_qx1.2⟩)))
def j_X2_endArc (S : iS) : Option (Int × iS) := (j_X2_endArc_0 S)
theorem jr_X2_endArc {S : iS} {s : fS} (hs : sr S s) : rf rI (j_X2_endArc S) (f_X2_endArc s) := by
  unfold j_X2_endArc f_X2_endArc
  exact (jr_X2_endArc_0 hs)
def j_X2_readFraction_154 (l1 : Int) (l2 : Int) (S : iS) : Option (Int × iS) := (some ((1 : Int), S))
theorem jr_X2_readFraction_154 {l1 : Int} {L1 : Int32} (h_l1 : L1.toInt = l1) {l2 : Int} {L2 : Int32} (h_l2 : L2.toInt = l2) {S : iS} {s : fS} (hs : sr S s) : rf rI (j_X2_readFraction_154 l1 l2 S) (f_X2_readFraction_154 L1 L2 s) := by
  unfold j_X2_readFraction_154 f_X2_readFraction_154
  exact (rf_some ⟨li_1, hs⟩)
def j_X2_readFraction_85  : Nat → Int → Int → iS → Option (Int × iS)
  | 0, _, _, _ => none
  | n + 1, l1, l2, S => (if (3 : Int) < l2 then (j_X2_readFraction_154 l1 l2 S) else ((j_X6_isFigure (jI S 81 2) S).bind fun qx1 => (if qx1.1 = (0 : Int) then (j_X2_readFraction_154 l1 l2 qx1.2) else (if ¬ l2 = (3 : Int) then ((j_X3_add ((gadr (jP2 qx1.2)) + 1) (jI qx1.2 81 2) qx1.2).bind fun qx2 => ((j_X0_step qx2).bind fun qx3 => (if rg (l2 + (1 : Int)) then (j_X2_readFraction_85 n l1 (l2 + (1 : Int)) qx3) else none))) else ((j_X0_wrong (2 : Int) (jI qx1.2 81 1) qx1.2).bind fun qx4 => (if (qx4.1 = 0 ∨ qx4.1 = 1) then (some (qx4.1, qx4.2)) else none))))))
theorem jr_X2_readFraction_85  (n : Nat) : ∀ {l1 : Int} {L1 : Int32} (h_l1 : L1.toInt = l1) {l2 : Int} {L2 : Int32} (h_l2 : L2.toInt = l2) {S : iS} {s : fS} (hs : sr S s), rf rI (j_X2_readFraction_85 n l1 l2 S) (f_X2_readFraction_85 n L1 L2 s) := by
  induction n with
  | zero => intros; exact rf_none
  | succ n ih =>
    intro l1 L1 h_l1 l2 L2 h_l2 S s hs
    rw [j_X2_readFraction_85, f_X2_readFraction_85]
    exact (rf_if (c_lt li_3 h_l2) (jr_X2_readFraction_154 h_l1 h_l2 hs) (rf_bind (jr_X6_isFigure (sr_gI hs rfl) hs) fun qx1 QX1 h_qx1 => (rf_if (c_eq h_qx1.1 li_0) (jr_X2_readFraction_154 h_l1 h_l2 h_qx1.2) (rf_if (c_not (c_eq h_l2 li_3)) (rf_bind (jr_X3_add (e_add (e_gad (sr_gP2 h_qx1.2))) (sr_gI h_qx1.2 rfl) h_qx1.2) fun qx2 QX2 h_qx2 => (rf_bind (jr_X0_step h_qx2) fun qx3 QX3 h_qx3 => (rf_rg fun k1 => (ih h_l1 (i_add h_l2 lo_1 k1) h_qx3)))) (rf_bind (jr_X0_wrong li_2 (sr_gI h_qx1.2 rfl) h_qx1.2) fun qx4 QX4 h_qx4 => (rf_rg fun k2 => (rf_ck (k_fbl h_qx4.1 k2) (rf_some ⟨h_qx4.1, h_qx4.2⟩))))))))
def j_X2_readFraction_0 (l1 : Int) (S : iS) : Option (Int × iS) := (if rg ((jI S 81 1) - l1) then (if ((jI S 81 1) - l1) ≤ (3 : Int) then ((j_X3_add ((gadr (jP2 S)) + 1) (jI S 81 2) (kI S 80 10 (2 : Int))).bind fun qx1 => ((j_X0_step qx1).bind fun qx2 => ((j_X6_isFigure (jI qx2 81 2) qx2).bind fun qx3 => (if ¬ qx3.1 = (0 : Int) then (j_X2_readFraction_85 fuel l1 (0 : Int) qx3.2) else ((j_X0_wrong (1 : Int) (jI qx3.2 81 1) qx3.2).bind fun qx4 => (if (qx4.1 = 0 ∨ qx4.1 = 1) then (some (qx4.1, qx4.2)) else none)))))) else (if rg (l1 + (3 : Int)) then ((j_X0_wrong (2 : Int) (l1 + (3 : Int)) S).bind fun qx5 => (if (qx5.1 = 0 ∨ qx5.1 = 1) then (some (qx5.1, qx5.2)) else none)) else none)) else none)
theorem jr_X2_readFraction_0 {l1 : Int} {L1 : Int32} (h_l1 : L1.toInt = l1) {S : iS} {s : fS} (hs : sr S s) : rf rI (j_X2_readFraction_0 l1 S) (f_X2_readFraction_0 L1 s) := by
  unfold j_X2_readFraction_0 f_X2_readFraction_0
  exact (rf_rg fun k1 => (rf_if (c_le (i_sub (sr_gI hs rfl) h_l1 k1) li_3) (rf_bind (jr_X3_add (e_add (e_gad (sr_gP2 hs))) (sr_gI hs rfl) (sr_I hs rfl li_2)) fun qx1 QX1 h_qx1 => (rf_bind (jr_X0_step h_qx1) fun qx2 QX2 h_qx2 => (rf_bind (jr_X6_isFigure (sr_gI h_qx2 rfl) h_qx2) fun qx3 QX3 h_qx3 => (rf_if (c_not (c_eq h_qx3.1 li_0)) (jr_X2_readFraction_85 fuel h_l1 li_0 h_qx3.2) (rf_bind (jr_X0_wrong li_1 (sr_gI h_qx3.2 rfl) h_qx3.2) fun qx4 QX4 h_qx4 => (rf_rg fun k2 => (rf_ck (k_fbl h_qx4.1 k2) (rf_some ⟨h_qx4.1, h_qx4.2⟩)))))))) (rf_rg fun k3 => (rf_bind (jr_X0_wrong li_2 (i_add h_l1 li_3 k3) hs) fun qx5 QX5 h_qx5 => (rf_rg fun k4 => (rf_ck (k_fbl h_qx5.1 k4) (rf_some ⟨h_qx5.1, h_qx5.2⟩)))))))
def j_X2_readFraction (l1 : Int) (S : iS) : Option (Int × iS) := (j_X2_readFraction_0 l1 S)
theorem jr_X2_readFraction {l1 : Int} {L1 : Int32} (h_l1 : L1.toInt = l1) {S : iS} {s : fS} (hs : sr S s) : rf rI (j_X2_readFraction l1 S) (f_X2_readFraction L1 s) := by
  unfold j_X2_readFraction f_X2_readFraction
  exact (jr_X2_readFraction_0 h_l1 hs)
def j_X2_readFigures_199 (l1 : Int) (l2 : Int) (l3 : Int) (l4 : Int) (l5 : Int) (S : iS) : Option (Int × iS) := (some ((1 : Int), (kI S 80 10 (1 : Int))))
theorem jr_X2_readFigures_199 {l1 : Int} {L1 : Int32} (h_l1 : L1.toInt = l1) {l2 : Int} {L2 : Int32} (h_l2 : L2.toInt = l2) {l3 : Int} {L3 : Int32} (h_l3 : L3.toInt = l3) {l4 : Int} {L4 : Int32} (h_l4 : L4.toInt = l4) {l5 : Int} {L5 : Int32} (h_l5 : L5.toInt = l5) {S : iS} {s : fS} (hs : sr S s) : rf rI (j_X2_readFigures_199 l1 l2 l3 l4 l5 S) (f_X2_readFigures_199 L1 L2 L3 L4 L5 s) := by
  unfold j_X2_readFigures_199 f_X2_readFigures_199
  exact (rf_some ⟨li_1, (sr_I hs rfl li_1)⟩)
