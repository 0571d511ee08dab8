def j_X2_readFigures_180 (l1 : Int) (l2 : Int) (l3 : Int) (l4 : Int) (l5 : Int) (S : iS) : Option (Int × iS) := (if l4 = (0 : Int) then (j_X2_readFigures_199 l1 l2 l3 l4 l5 S) else (if l2 = (0 : Int) then (j_X2_readFigures_199 l1 l2 l3 l4 l5 S) else ((j_X0_wrong (1 : Int) l3 S).bind fun qx1 => (if (qx1.1 = 0 ∨ qx1.1 = 1) then (some (qx1.1, qx1.2)) else none))))
theorem jr_X2_readFigures_180 {l1 : Int} {L1 : Int32} (h_l1 : L1.toInt = l1) {l2 : Int} {L2 : Int32} (h_l2 : L2.toInt = l2) {l3 : Int} {L3 : Int32} (h_l3 : L3.toInt = l3) {l4 : Int} {L4 : Int32} (h_l4 : L4.toInt = l4) {l5 : Int} {L5 : Int32} (h_l5 : L5.toInt = l5) {S : iS} {s : fS} (hs : sr S s) : rf rI (j_X2_readFigures_180 l1 l2 l3 l4 l5 S) (f_X2_readFigures_180 L1 L2 L3 L4 L5 s) := by
  unfold j_X2_readFigures_180 f_X2_readFigures_180
  exact (rf_if (c_eq h_l4 li_0) (jr_X2_readFigures_199 h_l1 h_l2 h_l3 h_l4 h_l5 hs) (rf_if (c_eq h_l2 li_0) (jr_X2_readFigures_199 h_l1 h_l2 h_l3 h_l4 h_l5 hs) (rf_bind (jr_X0_wrong li_1 h_l3 hs) fun qx1 QX1 h_qx1 => (rf_rg fun k1 => (rf_ck (k_fbl h_qx1.1 k1) (rf_some ⟨h_qx1.1, h_qx1.2⟩))))))
def j_X2_readFigures_158 (l1 : Int) (l2 : Int) (l3 : Int) (l4 : Int) (l5 : Int) (S : iS) : Option (Int × iS) := (if ¬ (jI S 81 2) = (46 : Int) then (j_X2_readFigures_180 l1 l2 l3 l4 l5 S) else (if l1 = (0 : Int) then (j_X2_readFigures_180 l1 l2 l3 l4 l5 S) else ((j_X2_readFraction l3 S).bind fun qx1 => (if (qx1.1 = 0 ∨ qx1.1 = 1) then (some (qx1.1, qx1.2)) else none))))
theorem jr_X2_readFigures_158 {l1 : Int} {L1 : Int32} (h_l1 : L1.toInt = l1) {l2 : Int} {L2 : Int32} (h_l2 : L2.toInt = l2) {l3 : Int} {L3 : Int32} (h_l3 : L3.toInt = l3) {l4 : Int} {L4 : Int32} (h_l4 : L4.toInt = l4) {l5 : Int} {L5 : Int32} (h_l5 : L5.toInt = l5) {S : iS} {s : fS} (hs : sr S s) : rf rI (j_X2_readFigures_158 l1 l2 l3 l4 l5 S) (f_X2_readFigures_158 L1 L2 L3 L4 L5 s) := by
  unfold j_X2_readFigures_158 f_X2_readFigures_158
  exact (rf_if (c_not (c_eq (sr_gI hs rfl) li_46)) (jr_X2_readFigures_180 h_l1 h_l2 h_l3 h_l4 h_l5 hs) (rf_if (c_eq h_l1 li_0) (jr_X2_readFigures_180 h_l1 h_l2 h_l3 h_l4 h_l5 hs) (rf_bind (jr_X2_readFraction h_l3 hs) fun qx1 QX1 h_qx1 => (rf_rg fun k1 => (rf_ck (k_fbl h_qx1.1 k1) (rf_some ⟨h_qx1.1, h_qx1.2⟩))))))
def j_X2_readFigures_105 (r59 : Int → Int → Int → Int → Int → iS → Option (Int × iS)) (l1 : Int) (l2 : Int) (l3 : Int) (l4 : Int) (l5 : Int) (S : iS) : Option (Int × iS) := (if ¬ l5 = (6 : Int) then ((j_X3_add ((gadr (jP2 S)) + 1) (jI S 81 2) S).bind fun qx1 => ((j_X0_step qx1).bind fun qx2 => (if rg (l5 + (1 : Int)) then (r59 l1 l2 l3 l4 (l5 + (1 : Int)) qx2) else none))) else ((j_X0_wrong (2 : Int) (jI S 81 1) S).bind fun qx3 => (if (qx3.1 = 0 ∨ qx3.1 = 1) then (some (qx3.1, qx3.2)) else none)))
theorem jr_X2_readFigures_105 {r59 : Int → Int → Int → Int → Int → iS → Option (Int × iS)} {R59 : Int32 → Int32 → Int32 → Int32 → Int32 → fS → Option (Int32 × fS)} (h_r59 : ∀ {y0 : Int} {Y0 : Int32} (h_y0 : Y0.toInt = y0) {y1 : Int} {Y1 : Int32} (h_y1 : Y1.toInt = y1) {y2 : Int} {Y2 : Int32} (h_y2 : Y2.toInt = y2) {y3 : Int} {Y3 : Int32} (h_y3 : Y3.toInt = y3) {y4 : Int} {Y4 : Int32} (h_y4 : Y4.toInt = y4) {S : iS} {s : fS} (hs : sr S s), rf rI (r59 y0 y1 y2 y3 y4 S) (R59 Y0 Y1 Y2 Y3 Y4 s)) {l1 : Int} {L1 : Int32} (h_l1 : L1.toInt = l1) {l2 : Int} {L2 : Int32} (h_l2 : L2.toInt = l2) {l3 : Int} {L3 : Int32} (h_l3 : L3.toInt = l3) {l4 : Int} {L4 : Int32} (h_l4 : L4.toInt = l4) {l5 : Int} {L5 : Int32} (h_l5 : L5.toInt = l5) {S : iS} {s : fS} (hs : sr S s) : rf rI (j_X2_readFigures_105 r59 l1 l2 l3 l4 l5 S) (f_X2_readFigures_105 R59 L1 L2 L3 L4 L5 s) := by
  unfold j_X2_readFigures_105 f_X2_readFigures_105
  exact (rf_if (c_not (c_eq h_l5 li_6)) (rf_bind (jr_X3_add (e_add (e_gad (sr_gP2 hs))) (sr_gI hs rfl) hs) fun qx1 QX1 h_qx1 => (rf_bind (jr_X0_step h_qx1) fun qx2 QX2 h_qx2 => (rf_rg fun k1 => (h_r59 h_l1 h_l2 h_l3 h_l4 (i_add h_l5 lo_1 k1) h_qx2)))) (rf_bind (jr_X0_wrong li_2 (sr_gI hs rfl) hs) fun qx3 QX3 h_qx3 => (rf_rg fun k2 => (rf_ck (k_fbl h_qx3.1 k2) (rf_some ⟨h_qx3.1, h_qx3.2⟩)))))
def j_X2_readFigures_59  : Nat → Int → Int → Int → Int → Int → iS → Option (Int × iS)
  | 0, _, _, _, _, _, _ => none
  | n + 1, l1, l2, l3, l4, l5, S => (if (6 : Int) < l5 then (j_X2_readFigures_158 l1 l2 l3 l4 l5 S) else ((j_X6_isFigure (jI S 81 2) S).bind fun qx1 => (if qx1.1 = (0 : Int) then (j_X2_readFigures_158 l1 l2 l3 l4 l5 qx1.2) else (if l4 = (0 : Int) then (j_X2_readFigures_105 (fun l1' l2' l3' l4' l5' S' => j_X2_readFigures_59 n l1' l2' l3' l4' l5' S') l1 l2 l3 l4 l5 qx1.2) else (if l5 ≤ (0 : Int) then (j_X2_readFigures_105 (fun l1' l2' l3' l4' l5' S' => j_X2_readFigures_59 n l1' l2' l3' l4' l5' S') l1 l2 l3 l4 l5 qx1.2) else ((j_X0_wrong (1 : Int) (jI qx1.2 81 1) qx1.2).bind fun qx2 => (if (qx2.1 = 0 ∨ qx2.1 = 1) then (some (qx2.1, qx2.2)) else none)))))))
theorem jr_X2_readFigures_59  (n : Nat) : ∀ {l1 : Int} {L1 : Int32} (h_l1 : L1.toInt = l1) {l2 : Int} {L2 : Int32} (h_l2 : L2.toInt = l2) {l3 : Int} {L3 : Int32} (h_l3 : L3.toInt = l3) {l4 : Int} {L4 : Int32} (h_l4 : L4.toInt = l4) {l5 : Int} {L5 : Int32} (h_l5 : L5.toInt = l5) {S : iS} {s : fS} (hs : sr S s), rf rI (j_X2_readFigures_59 n l1 l2 l3 l4 l5 S) (f_X2_readFigures_59 n L1 L2 L3 L4 L5 s) := by
  induction n with
  | zero => intros; exact rf_none
  | succ n ih =>
    intro l1 L1 h_l1 l2 L2 h_l2 l3 L3 h_l3 l4 L4 h_l4 l5 L5 h_l5 S s hs
    rw [j_X2_readFigures_59, f_X2_readFigures_59]
    exact (rf_if (c_lt li_6 h_l5) (jr_X2_readFigures_158 h_l1 h_l2 h_l3 h_l4 h_l5 hs) (rf_bind (jr_X6_isFigure (sr_gI hs rfl) hs) fun qx1 QX1 h_qx1 => (rf_if (c_eq h_qx1.1 li_0) (jr_X2_readFigures_158 h_l1 h_l2 h_l3 h_l4 h_l5 h_qx1.2) (rf_if (c_eq h_l4 li_0) (jr_X2_readFigures_105 (@fun _ _ h_l1' _ _ h_l2' _ _ h_l3' _ _ h_l4' _ _ h_l5' _ _ hs' => (ih h_l1' h_l2' h_l3' h_l4' h_l5' hs')) h_l1 h_l2 h_l3 h_l4 h_l5 h_qx1.2) (rf_if (c_le h_l5 li_0) (jr_X2_readFigures_105 (@fun _ _ h_l1' _ _ h_l2' _ _ h_l3' _ _ h_l4' _ _ h_l5' _ _ hs' => (ih h_l1' h_l2' h_l3' h_l4' h_l5' hs')) h_l1 h_l2 h_l3 h_l4 h_l5 h_qx1.2) (rf_bind (jr_X0_wrong li_1 (sr_gI h_qx1.2 rfl) h_qx1.2) fun qx2 QX2 h_qx2 => (rf_rg fun k1 => (rf_ck (k_fbl h_qx2.1 k1) (rf_some ⟨h_qx2.1, h_qx2.2⟩)))))))))
def j_X2_readFigures_56 (l1 : Int) (l2 : Int) (l3 : Int) (l4 : Int) (S : iS) : Option (Int × iS) := (j_X2_readFigures_59 fuel l1 l2 l3 l4 (0 : Int) S)
theorem jr_X2_readFigures_56 {l1 : Int} {L1 : Int32} (h_l1 : L1.toInt = l1) {l2 : Int} {L2 : Int32} (h_l2 : L2.toInt = l2) {l3 : Int} {L3 : Int32} (h_l3 : L3.toInt = l3) {l4 : Int} {L4 : Int32} (h_l4 : L4.toInt = l4) {S : iS} {s : fS} (hs : sr S s) : rf rI (j_X2_readFigures_56 l1 l2 l3 l4 S) (f_X2_readFigures_56 L1 L2 L3 L4 s) := by
  unfold j_X2_readFigures_56 f_X2_readFigures_56
  exact (jr_X2_readFigures_59 fuel h_l1 h_l2 h_l3 h_l4 li_0 hs)
def j_X2_readFigures_25 (l1 : Int) (l2 : Int) (l3 : Int) (t0 : Int) (S : iS) : Option (Int × iS) := (if t0 = (0 : Int) then (j_X2_readFigures_56 l1 l2 l3 t0 S) else (if l2 = (0 : Int) then (j_X2_readFigures_56 l1 l2 l3 t0 S) else (if ¬ l1 = (0 : Int) then (j_X2_readFigures_56 l1 l2 l3 t0 S) else ((j_X0_wrong (1 : Int) (jI S 81 1) S).bind fun qx1 => (if (qx1.1 = 0 ∨ qx1.1 = 1) then (some (qx1.1, qx1.2)) else none)))))
theorem jr_X2_readFigures_25 {l1 : Int} {L1 : Int32} (h_l1 : L1.toInt = l1) {l2 : Int} {L2 : Int32} (h_l2 : L2.toInt = l2) {l3 : Int} {L3 : Int32} (h_l3 : L3.toInt = l3) {t0 : Int} {T0 : Int32} (h_t0 : T0.toInt = t0) {S : iS} {s : fS} (hs : sr S s) : rf rI (j_X2_readFigures_25 l1 l2 l3 t0 S) (f_X2_readFigures_25 L1 L2 L3 T0 s) := by
  unfold j_X2_readFigures_25 f_X2_readFigures_25
  exact (rf_if (c_eq h_t0 li_0) (jr_X2_readFigures_56 h_l1 h_l2 h_l3 h_t0 hs) (rf_if (c_eq h_l2 li_0) (jr_X2_readFigures_56 h_l1 h_l2 h_l3 h_t0 hs) (rf_if (c_not (c_eq h_l1 li_0)) (jr_X2_readFigures_56 h_l1 h_l2 h_l3 h_t0 hs) (rf_bind (jr_X0_wrong li_1 (sr_gI hs rfl) hs) fun qx1 QX1 h_qx1 => (rf_rg fun k1 => (rf_ck (k_fbl h_qx1.1 k1) (rf_some ⟨h_qx1.1, h_qx1.2⟩)))))))
def j_X2_readFigures_0 (l1 : Int) (l2 : Int) (S : iS) : Option (Int × iS) := (if ¬ (jI S 81 2) = (48 : Int) then (j_X2_readFigures_25 l1 l2 (jI S 81 1) (0 : Int) S) else (j_X2_readFigures_25 l1 l2 (jI S 81 1) (1 : Int) S))
theorem jr_X2_readFigures_0 {l1 : Int} {L1 : Int32} (h_l1 : L1.toInt = l1) {l2 : Int} {L2 : Int32} (h_l2 : L2.toInt = l2) {S : iS} {s : fS} (hs : sr S s) : rf rI (j_X2_readFigures_0 l1 l2 S) (f_X2_readFigures_0 L1 L2 s) := by
  unfold j_X2_readFigures_0 f_X2_readFigures_0
  exact (rf_if (c_not (c_eq (sr_gI hs rfl) li_48)) (jr_X2_readFigures_25 h_l1 h_l2 (sr_gI hs rfl) li_0 hs) (jr_X2_readFigures_25 h_l1 h_l2 (sr_gI hs rfl) li_1 hs))
def j_X2_readFigures (l1 : Int) (l2 : Int) (S : iS) : Option (Int × iS) := (j_X2_readFigures_0 l1 l2 S)
theorem jr_X2_readFigures {l1 : Int} {L1 : Int32} (h_l1 : L1.toInt = l1) {l2 : Int} {L2 : Int32} (h_l2 : L2.toInt = l2) {S : iS} {s : fS} (hs : sr S s) : rf rI (j_X2_readFigures l1 l2 S) (f_X2_readFigures L1 L2 s) := by
  unfold j_X2_readFigures f_X2_readFigures
  exact (jr_X2_readFigures_0 h_l1 h_l2 hs)
def j_X2_figuresOnly_2  : Nat → Int → Int → iS → Option (Int × iS)
  | 0, _, _, _ => none
  | n + 1, l1, l2, S => (if (jI S ((gadr (jP2 S)) + 1) 1) ≤ l2 then (some ((1 : Int), S)) else ((j_X3_at ((gadr (jP2 S)) + 1) l2 S).bind fun qx1 => ((j_X6_isFigure qx1.1 qx1.2).bind fun qx2 => (if ¬ qx2.1 = (0 : Int) then (if rg (l2 + (1 : Int)) then (j_X2_figuresOnly_2 n l1 (l2 + (1 : Int)) qx2.2) else none) else (some ((0 : Int), qx2.2))))))
theorem jr_X2_figuresOnly_2  (n : Nat) : ∀ {l1 : Int} {L1 : Int32} (h_l1 : L1.toInt = l1) {l2 : Int} {L2 : Int32} (h_l2 : L2.toInt = l2) {S : iS} {s : fS} (hs : sr S s), rf rI (j_X2_figuresOnly_2 n l1 l2 S) (f_X2_figuresOnly_2 n L1 L2 s) := by
  induction n with
  | zero => intros; exact rf_none
  | succ n ih =>
    intro l1 L1 h_l1 l2 L2 h_l2 S s hs
    rw [j_X2_figuresOnly_2, f_X2_figuresOnly_2]
    exact (rf_if (c_le (sr_gI hs (e_add (e_gad (sr_gP2 hs)))) h_l2) (rf_some ⟨li_1, hs⟩) (rf_bind (jr_X3_at (e_add (e_gad (sr_gP2 hs))) h_l2 hs) fun qx1 QX1 h_qx1 => (rf_bind (jr_X6_isFigure h_qx1.1 h_qx1.2) fun qx2 QX2 h_qx2 => (rf_if (c_not (c_eq h_qx2.1 li_0)) (rf_rg fun k1 => (ih h_l1 (i_add h_l2 lo_1 k1) h_qx2.2)) (rf_some ⟨li_0, h_qx2.2⟩)))))
def j_X2_figuresOnly_0 (l1 : Int) (S : iS) : Option (Int × iS) := (j_X2_figuresOnly_2 fuel l1 l1 S)
theorem jr_X2_figuresOnly_0 {l1 : Int} {L1 : Int32} (h_l1 : L1.toInt = l1) {S : iS} {s : fS} (hs : sr S s) : rf rI (j_X2_figuresOnly_0 l1 S) (f_X2_figuresOnly_0 L1 s) := by
  unfold j_X2_figuresOnly_0 f_X2_figuresOnly_0
  exact (jr_X2_figuresOnly_2 fuel h_l1 h_l1 hs)
def j_X2_figuresOnly (l1 : Int) (S : iS) : Option (Int × iS) := (j_X2_figuresOnly_0 l1 S)
theorem jr_X2_figuresOnly {l1 : Int} {L1 : Int32} (h_l1 : L1.toInt = l1) {S : iS} {s : fS} (hs : sr S s) : rf rI (j_X2_figuresOnly l1 S) (f_X2_figuresOnly L1 s) := by
  unfold j_X2_figuresOnly f_X2_figuresOnly
  exact (jr_X2_figuresOnly_0 h_l1 hs)
def j_X2_readGuessed_135 (l1 : Int) (l2 : Int) (l3 : Int) (l4 : Int) (t0 : Int) (S : iS) : Option (Int × iS) := (some ((1 : Int), (kI S 80 10 t0)))
theorem jr_X2_readGuessed_135 {l1 : Int} {L1 : Int32} (h_l1 : L1.toInt = l1) {l2 : Int} {L2 : Int32} (h_l2 : L2.toInt = l2) {l3 : Int} {L3 : Int32} (h_l3 : L3.toInt = l3) {l4 : Int} {L4 : Int32} (h_l4 : L4.toInt = l4) {t0 : Int} {T0 : Int32} (h_t0 : T0.toInt = t0) {S : iS} {s : fS} (hs : sr S s) : rf rI (j_X2_readGuessed_135 l1 l2 l3 l4 t0 S) (f_X2_readGuessed_135 L1 L2 L3 L4 T0 s) := by
  unfold j_X2_readGuessed_135 f_X2_readGuessed_135
  exact (rf_some ⟨li_1, (sr_I hs rfl h_t0)⟩)
def j_X2_readGuessed_134 (l1 : Int) (l2 : Int) (l3 : Int) (l4 : Int) (S : iS) : Option (Int × iS) := (j_X2_readGuessed_135 l1 l2 l3 l4 (3 : Int) S)
theorem jr_X2_readGuessed_134 {l1 : Int} {L1 : Int32} (h_l1 : L1.toInt = l1) {l2 : Int} {L2 : Int32} (h_l2 : L2.toInt = l2) {l3 : Int} {L3 : Int32} (h_l3 : L3.toInt = l3) {l4 : Int} {L4 : Int32} (h_l4 : L4.toInt = l4) {S : iS} {s : fS} (hs : sr S s) : rf rI (j_X2_readGuessed_134 l1 l2 l3 l4 S) (f_X2_readGuessed_134 L1 L2 L3 L4 s) := by
  unfold j_X2_readGuessed_134 f_X2_readGuessed_134
  exact (jr_X2_readGuessed_135 h_l1 h_l2 h_l3 h_l4 li_3 hs)
def j_X2_readGuessed_114 (l1 : Int) (l2 : Int) (l3 : Int) (l4 : Int) (S : iS) : Option (Int × iS) := (if l4 = (0 : Int) then (j_X2_readGuessed_134 l1 l2 l3 l4 S) else (if ¬ l3 = (0 : Int) then (j_X2_readGuessed_134 l1 l2 l3 l4 S) else (if (6 : Int) < l2 then (j_X2_readGuessed_134 l1 l2 l3 l4 S) else (j_X2_readGuessed_135 l1 l2 l3 l4 (1 : Int) S))))
theorem jr_X2_readGuessed_114 {l1 : Int} {L1 : Int32} (h_l1 : L1.toInt = l1) {l2 : Int} {L2 : Int32} (h_l2 : L2.toInt = l2) {l3 : Int} {L3 : Int32} (h_l3 : L3.toInt = l3) {l4 : Int} {L4 : Int32} (h_l4 : L4.toInt = l4) {S : iS} {s : fS} (hs : sr S s) : rf rI (j_X2_readGuessed_114 l1 l2 l3 l4 S) (f_X2_readGuessed_114 L1 L2 L3 L4 s) := by
  unfold j_X2_readGuessed_114 f_X2_readGuessed_114
  exact (rf_if (c_eq h_l4 li_0) (jr_X2_readGuessed_134 h_l1 h_l2 h_l3 h_l4 hs) (rf_if (c_not (c_eq h_l3 li_0)) (jr_X2_readGuessed_134 h_l1 h_l2 h_l3 h_l4 hs) (rf_if (c_lt li_6 h_l2) (jr_X2_readGuessed_134 h_l1 h_l2 h_l3 h_l4 hs) (jr_X2_readGuessed_135 h_l1 h_l2 h_l3 h_l4 li_1 hs))))
def j_X2_readGuessed_113 (l1 : Int) (l2 : Int) (l3 : Int) (l4 : Int) (t0 : Int) (S : iS) : Option (Int × iS) := (if (t0 = 0 ∨ t0 = 1) then (some (t0, S)) else none)
theorem jr_X2_readGuessed_113 {l1 : Int} {L1 : Int32} (h_l1 : L1.toInt = l1) {l2 : Int} {L2 : Int32} (h_l2 : L2.toInt = l2) {l3 : Int} {L3 : Int32} (h_l3 : L3.toInt = l3) {l4 : Int} {L4 : Int32} (h_l4 : L4.toInt = l4) {t0 : Int} {T0 : Int32} (h_t0 : T0.toInt = t0) {S : iS} {s : fS} (hs : sr S s) : rf rI (j_X2_readGuessed_113 l1 l2 l3 l4 t0 S) (f_X2_readGuessed_113 L1 L2 L3 L4 T0 s) := by
  unfold j_X2_readGuessed_113 f_X2_readGuessed_113
  exact (rf_rg fun k1 => (rf_ck (k_fbl h_t0 k1) (rf_some ⟨h_t0, hs⟩)))
def j_X2_readGuessed_62 (l1 : Int) (l2 : Int) (t0 : Int) (S : iS) : Option (Int × iS) := ((j_X2_figuresOnly (jI S 80 11) S).bind fun qx1 => (if qx1.1 = (0 : Int) then (j_X2_readGuessed_114 l1 l2 t0 qx1.1 qx1.2) else (if ¬ (jI qx1.2 81 2) = (46 : Int) then (j_X2_readGuessed_114 l1 l2 t0 qx1.1 qx1.2) else (if t0 = (0 : Int) then ((j_X2_readFraction l1 qx1.2).bind fun qx2 => (j_X2_readGuessed_113 l1 l2 t0 qx1.1 qx2.1 qx2.2)) else (if rg (l1 + (1 : Int)) then ((j_X0_wrong (1 : Int) (l1 + (1 : Int)) qx1.2).bind fun qx3 => (j_X2_readGuessed_113 l1 l2 t0 qx1.1 qx3.1 qx3.2)) else none)))))
theorem jr_X2_readGuessed_62 {l1 : Int} {L1 : Int32} (h_l1 : L1.toInt = l1) {l2 : Int} {L2 : Int32} (h_l2 : L2.toInt = l2) {t0 : Int} {T0 : Int32} (h_t0 : T0.toInt = t0) {S : iS} {s : fS} (hs : sr S s) : rf rI (j_X2_readGuessed_62 l1 l2 t0 S) (f_X2_readGuessed_62 L1 L2 T0 s) := by
  unfold j_X2_readGuessed_62 f_X2_readGuessed_62
  exact (rf_bind (jr_X2_figuresOnly (sr_gI hs rfl) hs) fun qx1 QX1 h_qx1 => (rf_if (c_eq h_qx1.1 li_0) (jr_X2_readGuessed_114 h_l1 h_l2 h_t0 h_qx1.1 h_qx1.2) (rf_if (c_not (c_eq (sr_gI h_qx1.2 rfl) li_46)) (jr_X2_readGuessed_114 h_l1 h_l2 h_t0 h_qx1.1 h_qx1.2) (rf_if (c_eq h_t0 li_0) (rf_bind (jr_X2_readFraction h_l1 h_qx1.2) fun qx2 QX2 h_qx2 => (jr_X2_readGuessed_113 h_l1 h_l2 h_t0 h_qx1.1 h_qx2.1 h_qx2.2)) (rf_rg fun k1 => (rf_bind (jr_X0_wrong li_1 (i_add h_l1 li_1 k1) h_qx1.2) fun qx3 QX3 h_qx3 => (jr_X2_readGuessed_113 h_l1 h_l2 h_t0 h_qx1.1 h_qx3.1 h_qx3.2)))))))
def j_X2_readGuessed_61 (l1 : Int) (l2 : Int) (S : iS) : Option (Int × iS) := (j_X2_readGuessed_62 l1 l2 (0 : Int) S)
theorem jr_X2_readGuessed_61 {l1 : Int} {L1 : Int32} (h_l1 : L1.toInt = l1) {l2 : Int} {L2 : Int32} (h_l2 : L2.toInt = l2) {S : iS} {s : fS} (hs : sr S s) : rf rI (j_X2_readGuessed_61 l1 l2 S) (f_X2_readGuessed_61 L1 L2 s) := by
  unfold j_X2_readGuessed_61 f_X2_readGuessed_61
  exact (jr_X2_readGuessed_62 h_l1 h_l2 li_0 hs)
def j_X2_readGuessed_0 (S : iS) : Option (Int × iS) := ((j_X2_readPlain S).bind fun qx1 => (if ¬ qx1.1 = (0 : Int) then (if rg ((jI qx1.2 ((gadr (jP2 qx1.2)) + 1) 1) - (jI qx1.2 80 11)) then (if ((jI qx1.2 ((gadr (jP2 qx1.2)) + 1) 1) - (jI qx1.2 80 11)) ≤ (1 : Int) then (j_X2_readGuessed_61 (jI S 81 1) ((jI qx1.2 ((gadr (jP2 qx1.2)) + 1) 1) - (jI qx1.2 80 11)) qx1.2) else ((j_X3_at ((gadr (jP2 qx1.2)) + 1) (jI qx1.2 80 11) qx1.2).bind fun qx2 => (if ¬ qx2.1 = (48 : Int) then (j_X2_readGuessed_61 (jI S 81 1) ((jI qx1.2 ((gadr (jP2 qx1.2)) + 1) 1) - (jI qx1.2 80 11)) qx2.2) else (j_X2_readGuessed_62 (jI S 81 1) ((jI qx1.2 ((gadr (jP2 qx1.2)) + 1) 1) - (jI qx1.2 80 11)) (1 : Int) qx2.2)))) else none) else (some ((0 : Int), qx1.2))))
theorem jr_X2_readGuessed_0 {S : iS} {s : fS} (hs : sr S s) : rf rI (j_X2_readGuessed_0 S) (f_X2_readGuessed_0 s) := by
  unfold j_X2_readGuessed_0 f_X2_readGuessed_0
  exact (rf_bind (jr_X2_readPlain hs) fun qx1 QX1 h_qx1 => (rf_if (c_not (c_eq h_qx1.1 li_0)) (rf_rg fun k1 => (rf_if (c_le (i_sub (sr_gI h_qx1.2 (e_add (e_gad (sr_gP2 h_qx1.2)))) (sr_gI h_qx1.2 rfl) k1) li_1) (jr_X2_readGuessed_61 (sr_gI hs rfl) (i_sub (sr_gI h_qx1.2 (e_add (e_gad (sr_gP2 h_qx1.2)))) (sr_gI h_qx1.2 rfl) k1) h_qx1.2) (rf_bind (jr_X3_at (e_add (e_gad (sr_gP2 h_qx1.2))) (sr_gI h_qx1.2 rfl) h_qx1.2) fun qx2 QX2 h_qx2 => (rf_if (c_not (c_eq h_qx2.1 li_48)) (jr_X2_readGuessed_61 (sr_gI hs rfl) (i_sub (sr_gI h_qx1.2 (e_add (e_gad (sr_gP2 h_qx1.2)))) (sr_gI h_qx1.2 rfl) k1) h_qx2.2) (jr_X2_readGuessed_62 (sr_gI hs rfl) (i_sub (sr_gI h_qx1.2 (e_add (e_gad (sr_gP2 h_qx1.2)))) (sr_gI h_qx1.2 rfl) k1) li_1 h_qx2.2))))) (rf_some ⟨li_0, h_qx1.2⟩)))
def j_X2_readGuessed (S : iS) : Option (Int × iS) := (j_X2_readGuessed_0 S)
theorem jr_X2_readGuessed {S : iS} {s : fS} (hs : sr S s) : rf rI (j_X2_readGuessed S) (f_X2_readGuessed s) := by
  unfold j_X2_readGuessed f_X2_readGuessed
  exact (jr_X2_readGuessed_0 hs)
def j_X2_readValue_203 (l1 : Int) (l2 : Int) (S : iS) : Option (Int × iS) := ((j_X0_wrong (1 : Int) (jI S 81 1) S).bind fun qx1 => (if (qx1.1 = 0 ∨ qx1.1 = 1) then (some (qx1.1, qx1.2)) else none))
theorem jr_X2_readValue_203 {l1 : Int} {L1 : Int32} (h_l1 : L1.toInt = l1) {l2 : Int} {L2 : Int32} (h_l2 : L2.toInt = l2) {S : iS} {s : fS} (hs : sr S s) : rf rI (j_X2_readValue_203 l1 l2 S) (f_X2_readValue_203 L1 L2 s) := by
  unfold j_X2_readValue_203 f_X2_readValue_203
  exact (rf_bind (jr_X0_wrong li_1 (sr_gI hs rfl) hs) fun qx1 QX1 h_qx1 => (rf_rg fun k1 => (rf_ck (k_fbl h_qx1.1 k1) (rf_some ⟨h_qx1.1, h_qx1.2⟩))))
def j_X2_readValue_185 (l1 : Int) (l2 : Int) (S : iS) : Option (Int × iS) := (if l1 = (2 : Int) then (j_X2_readValue_203 l1 l2 S) else ((j_X6_isFigure (jI S 81 2) S).bind fun qx1 => (if ¬ qx1.1 = (0 : Int) then ((j_X2_readFigures l1 l2 qx1.2).bind fun qx2 => (if (qx2.1 = 0 ∨ qx2.1 = 1) then (some (qx2.1, qx2.2)) else none)) else (j_X2_readValue_203 l1 l2 qx1.2))))
theorem jr_X2_readValue_185 {l1 : Int} {L1 : Int32} (h_l1 : L1.toInt = l1) {l2 : Int} {L2 : Int32} (h_l2 : L2.toInt = l2) {S : iS} {s : fS} (hs : sr S s) : rf rI (j_X2_readValue_185 l1 l2 S) (f_X2_readValue_185 L1 L2 s) := by
  unfold j_X2_readValue_185 f_X2_readValue_185
  exact (rf_if (c_eq h_l1 li_2) (jr_X2_readValue_203 h_l1 h_l2 hs) (rf_bind (jr_X6_isFigure (sr_gI hs rfl) hs) fun qx1 QX1 h_qx1 => (rf_if (c_not (c_eq h_qx1.1 li_0)) (rf_bind (jr_X2_readFigures h_l1 h_l2 h_qx1.2) fun qx2 QX2 h_qx2 => (rf_rg fun k1 => (rf_ck (k_fbl h_qx2.1 k1) (rf_some ⟨h_qx2.1, h_qx2.2⟩)))) (jr_X2_readValue_203 h_l1 h_l2 h_qx1.2))))
def j_X2_readValue_169 (l1 : Int) (l2 : Int) (S : iS) : Option (Int × iS) := ((j_X0_wrong (3 : Int) (jI S 81 1) S).bind fun qx1 => (if (qx1.1 = 0 ∨ qx1.1 = 1) then (some (qx1.1, qx1.2)) else none))
theorem jr_X2_readValue_169 {l1 : Int} {L1 : Int32} (h_l1 : L1.toInt = l1) {l2 : Int} {L2 : Int32} (h_l2 : L2.toInt = l2) {S : iS} {s : fS} (hs : sr S s) : rf rI (j_X2_readValue_169 l1 l2 S) (f_X2_readValue_169 L1 L2 s) := by
  unfold j_X2_readValue_169 f_X2_readValue_169
  exact (rf_bind (jr_X0_wrong li_3 (sr_gI hs rfl) hs) fun qx1 QX1 h_qx1 => (rf_rg fun k1 => (rf_ck (k_fbl h_qx1.1 k1) (rf_some ⟨h_qx1.1, h_qx1.2⟩))))
def j_X2_readValue_127 (l1 : Int) (l2 : Int) (S : iS) : Option (Int × iS) := (if ¬ l2 = (0 : Int) then (j_X2_readValue_185 l1 l2 S) else (if (jI S 81 2) = (34 : Int) then (j_X2_readValue_169 l1 l2 S) else ((j_X6_isPlain (jI S 81 2) S).bind fun qx1 => (if qx1.1 = (0 : Int) then (j_X2_readValue_185 l1 l2 qx1.2) else ((j_X6_isFigure (jI qx1.2 81 2) qx1.2).bind fun qx2 => (if ¬ qx2.1 = (0 : Int) then (j_X2_readValue_185 l1 l2 qx2.2) else (j_X2_readValue_169 l1 l2 qx2.2)))))))
theorem jr_X2_readValue_127 {l1 : Int} {L1 : Int32} (h_l1 : L1.toInt = l1) {l2 : Int} {L2 : Int32} (h_l2 : L2.toInt = l2) {S : iS} {s : fS} (hs : sr S s) : rf rI (j_X2_readValue_127 l1 l2 S) (f_X2_readValue_127 L1 L2 s) := by
  unfold j_X2_readValue_127 f_X2_readValue_127
  exact (rf_if (c_not (c_eq h_l2 li_0)) (jr_X2_readValue_185 h_l1 h_l2 hs) (rf_if (c_eq (sr_gI hs rfl) li_34) (jr_X2_readValue_169 h_l1 h_l2 hs) (rf_bind (jr_X6_isPlain (sr_gI hs rfl) hs) fun qx1 QX1 h_qx1 => (rf_if (c_eq h_qx1.1 li_0) (jr_X2_readValue_185 h_l1 h_l2 h_qx1.2) (rf_bind (jr_X6_isFigure (sr_gI h_qx1.2 rfl) h_qx1.2) fun qx2 QX2 h_qx2 => (rf_if (c_not (c_eq h_qx2.1 li_0)) (jr_X2_readValue_185 h_l1 h_l2 h_qx2.2) (jr_X2_readValue_169 h_l1 h_l2 h_qx2.2)))))))
def j_X2_readValue_113 (l1 : Int) (l2 : Int) (S : iS) : Option (Int × iS) := (if ¬ l2 = (0 : Int) then (j_X2_readValue_127 l1 l2 S) else (if ¬ l1 = (3 : Int) then (j_X2_readValue_127 l1 l2 S) else ((j_X2_readGuessed S).bind fun qx1 => (if (qx1.1 = 0 ∨ qx1.1 = 1) then (some (qx1.1, qx1.2)) else none))))
theorem jr_X2_readValue_113 {l1 : Int} {L1 : Int32} (h_l1 : L1.toInt = l1) {l2 : Int} {L2 : Int32} (h_l2 : L2.toInt = l2) {S : iS} {s : fS} (hs : sr S s) : rf rI (j_X2_readValue_113 l1 l2 S) (f_X2_readValue_113 L1 L2 s) := by
  unfold j_X2_readValue_113 f_X2_readValue_113
  exact (rf_if (c_not (c_eq h_l2 li_0)) (jr_X2_readValue_127 h_l1 h_l2 hs) (rf_if (c_not (c_eq h_l1 li_3)) (jr_X2_readValue_127 h_l1 h_l2 hs) (rf_bind (jr_X2_readGuessed hs) fun qx1 QX1 h_qx1 => (rf_rg fun k1 => (rf_ck (k_fbl h_qx1.1 k1) (rf_some ⟨h_qx1.1, h_qx1.2⟩))))))
def j_X2_readValue_103 (l1 : Int) (l2 : Int) (S : iS) : Option (Int × iS) := ((j_X2_readName (kI S 80 10 (3 : Int))).bind fun qx1 => (if (qx1.1 = 0 ∨ qx1.1 = 1) then (some (qx1.1, qx1.2)) else none))
theorem jr_X2_readValue_103 {l1 : Int} {L1 : Int32} (h_l1 : L1.toInt = l1) {l2 : Int} {L2 : Int32} (h_l2 : L2.toInt = l2) {S : iS} {s : fS} (hs : sr S s) : rf rI (j_X2_readValue_103 l1 l2 S) (f_X2_readValue_103 L1 L2 s) := by
  unfold j_X2_readValue_103 f_X2_readValue_103
  exact (rf_bind (jr_X2_readName (sr_I hs rfl li_3)) fun qx1 QX1 h_qx1 => (rf_rg fun k1 => (rf_ck (k_fbl h_qx1.1 k1) (rf_some ⟨h_qx1.1, h_qx1.2⟩))))
def j_X2_readValue_77 (l1 : Int) (l2 : Int) (S : iS) : Option (Int × iS) := (if ¬ l2 = (0 : Int) then (j_X2_readValue_113 l1 l2 S) else (if l1 = (2 : Int) then (j_X2_readValue_103 l1 l2 S) else (if ¬ l1 = (3 : Int) then (j_X2_readValue_113 l1 l2 S) else (if ¬ (jI S 81 2) = (34 : Int) then (j_X2_readValue_113 l1 l2 S) else (j_X2_readValue_103 l1 l2 S)))))
theorem jr_X2_readValue_77 {l1 : Int} {L1 : Int32} (h_l1 : L1.toInt = l1) {l2 : Int} {L2 : Int32} (h_l2 : L2.toInt = l2) {S : iS} {s : fS} (hs : sr S s) : rf rI (j_X2_readValue_77 l1 l2 S) (f_X2_readValue_77 L1 L2 s) := by
  unfold j_X2_readValue_77 f_X2_readValue_77
  exact (rf_if (c_not (c_eq h_l2 li_0)) (jr_X2_readValue_113 h_l1 h_l2 hs) (rf_if (c_eq h_l1 li_2) (jr_X2_readValue_103 h_l1 h_l2 hs) (rf_if (c_not (c_eq h_l1 li_3)) (jr_X2_readValue_113 h_l1 h_l2 hs) (rf_if (c_not (c_eq (sr_gI hs rfl) li_34)) (jr_X2_readValue_113 h_l1 h_l2 hs) (jr_X2_readValue_103 h_l1 h_l2 hs)))))
def j_X2_readValue_31 (l1 : Int) (t0 : Int) (S : iS) : Option (Int × iS) := (if t0 = (0 : Int) then (j_X2_readValue_77 l1 t0 S) else ((j_X3_add ((gadr (jP2 S)) + 1) (jI S 81 2) S).bind fun qx1 => ((j_X0_step qx1).bind fun qx2 => ((j_X0_isWordEnd qx2).bind fun qx3 => (if qx3.1 = (0 : Int) then (j_X2_readValue_77 l1 t0 qx3.2) else (some ((1 : Int), (kI qx3.2 80 10 (0 : Int)))))))))
theorem jr_X2_readValue_31 {l1 : Int} {L1 : Int32} (h_l1 : L1.toInt = l1) {t0 : Int} {T0 : Int32} (h_t0 : T0.toInt = t0) {S : iS} {s : fS} (hs : sr S s) : rf rI (j_X2_readValue_31 l1 t0 S) (f_X2_readValue_31 L1 T0 s) := by
  unfold j_X2_readValue_31 f_X2_readValue_31
  exact (rf_if (c_eq h_t0 li_0) (jr_X2_readValue_77 h_l1 h_t0 hs) (rf_bind (jr_X3_add (e_add (e_gad (sr_gP2 hs))) (sr_gI hs rfl) hs) fun qx1 QX1 h_qx1 => (rf_bind (jr_X0_step h_qx1) fun qx2 QX2 h_qx2 => (rf_bind (jr_X0_isWordEnd h_qx2) fun qx3 QX3 h_qx3 => (rf_if (c_eq h_qx3.1 li_0) (jr_X2_readValue_77 h_l1 h_t0 h_qx3.2) (rf_some ⟨li_1, (sr_I h_qx3.2 rfl li_0)⟩))))))
def j_X2_readValue_0 (l1 : Int) (S : iS) : Option (Int × iS) := (if ¬ (jI S 81 2) = (45 : Int) then (j_X2_readValue_31 l1 (0 : Int) (kI S 80 11 (jI S ((gadr (jP2 S)) + 1) 1))) else (j_X2_readValue_31 l1 (1 : Int) (kI S 80 11 (jI S ((gadr (jP2 S)) + 1) 1))))
theorem jr_X2_readValue_0 {l1 : Int} {L1 : Int32} (h_l1 : L1.toInt = l1) {S : iS} {s : fS} (hs : sr S s) : rf rI (j_X2_readValue_0 l1 S) (f_X2_readValue_0 L1 s) := by
  unfold j_X2_readValue_0 f_X2_readValue_0
  exact (rf_if (c_not (c_eq (sr_gI hs rfl) li_45)) (jr_X2_readValue_31 h_l1 li_0 (sr_I hs rfl (sr_gI hs (e_add (e_gad (sr_gP2 hs)))))) (jr_X2_readValue_31 h_l1 li_1 (sr_I hs rfl (sr_gI hs (e_add (e_gad (sr_gP2 hs)))))))
def j_X2_readValue (l1 : Int) (S : iS) : Option (Int × iS) := (j_X2_readValue_0 l1 S)
theorem jr_X2_readValue {l1 : Int} {L1 : Int32} (h_l1 : L1.toInt = l1) {S : iS} {s : fS} (hs : sr S s) : rf rI (j_X2_readValue l1 S) (f_X2_readValue L1 s) := by
  unfold j_X2_readValue f_X2_readValue
  exact (jr_X2_readValue_0 h_l1 hs)
def j_X2_thousandthsRead_135 (l1 : Int) (l2 : Int) (l3 : Int) (l4 : Int) (t0 : Int) (S : iS) : Option (Int × iS) := (some (t0, S))
theorem jr_X2_thousandthsRead_135 {l1 : Int} {L1 : Int32} (h_l1 : L1.toInt = l1) {l2 : Int} {L2 : Int32} (h_l2 : L2.toInt = l2) {l3 : Int} {L3 : Int32} (h_l3 : L3.toInt = l3) {l4 : Int} {L4 : Int32} (h_l4 : L4.toInt = l4) {t0 : Int} {T0 : Int32} (h_t0 : T0.toInt = t0) {S : iS} {s : fS} (hs : sr S s) : rf rI (j_X2_thousandthsRead_135 l1 l2 l3 l4 t0 S) (f_X2_thousandthsRead_135 L1 L2 L3 L4 T0 s) := by
  unfold j_X2_thousandthsRead_135 f_X2_thousandthsRead_135
  exact (rf_some ⟨h_t0, hs⟩)
def j_X2_thousandthsRead_93  : Nat → Int → Int → Int → Int → iS → Option (Int × iS)
  | 0, _, _, _, _, _ => none
  | n + 1, l1, l2, l3, l4, S => (if (3 : Int) ≤ l4 then ((j_X3_at ((gadr (jP2 S)) + 1) (jI S 80 11) S).bind fun qx1 => (if ¬ qx1.1 = (45 : Int) then (j_X2_thousandthsRead_135 l1 l2 l3 l4 l1 qx1.2) else (if rg (-l1) then (j_X2_thousandthsRead_135 l1 l2 l3 l4 (-l1) qx1.2) else none))) else (if rg (l1 * (10 : Int)) then (if rg (l4 + (1 : Int)) then (j_X2_thousandthsRead_93 n (l1 * (10 : Int)) l2 l3 (l4 + (1 : Int)) S) else none) else none))
theorem jr_X2_thousandthsRead_93  (n : Nat) : ∀ {l1 : Int} {L1 : Int32} (h_l1 : L1.toInt = l1) {l2 : Int} {L2 : Int32} (h_l2 : L2.toInt = l2) {l3 : Int} {L3 : Int32} (h_l3 : L3.toInt = l3) {l4 : Int} {L4 : Int32} (h_l4 : L4.toInt = l4) {S : iS} {s : fS} (hs : sr S s), rf rI (j_X2_thousandthsRead_93 n l1 l2 l3 l4 S) (f_X2_thousandthsRead_93 n L1 L2 L3 L4 s) := by
  induction n with
  | zero => intros; exact rf_none
  | succ n ih =>
    intro l1 L1 h_l1 l2 L2 h_l2 l3 L3 h_l3 l4 L4 h_l4 S s hs
    rw [j_X2_thousandthsRead_93, f_X2_thousandthsRead_93]
    exact (rf_if (c_le li_3 h_l4) (rf_bind (jr_X3_at (e_add (e_gad (sr_gP2 hs))) (sr_gI hs rfl) hs) fun qx1 QX1 h_qx1 => (rf_if (c_not (c_eq h_qx1.1 li_45)) (jr_X2_thousandthsRead_135 h_l1 h_l2 h_l3 h_l4 h_l1 h_qx1.2) (rf_rg fun k1 => (jr_X2_thousandthsRead_135 h_l1 h_l2 h_l3 h_l4 (i_neg h_l1 k1) h_qx1.2)))) (rf_rg fun k2 => (rf_rg fun k3 => (ih (i_mul h_l1 li_10 k2) h_l2 h_l3 (i_add h_l4 lo_1 k3) hs))))
def j_X2_thousandthsRead_84 (r12 : Int → Int → Int → Int → iS → Option (Int × iS)) (l1 : Int) (l2 : Int) (l3 : Int) (l4 : Int) (l5 : Int) (S : iS) : Option (Int × iS) := (if rg (l4 + (1 : Int)) then (r12 l1 l2 l3 (l4 + (1 : Int)) S) else none)
theorem jr_X2_thousandthsRead_84 {r12 : Int → Int → Int → Int → iS → Option (Int × iS)} {R12 : Int32 → Int32 → Int32 → Int32 → fS → Option (Int32 × fS)} (h_r12 : ∀ {y0 : Int} {Y0 : Int32} (h_y0 : Y0.toInt = y0) {y1 : Int} {Y1 : Int32} (h_y1 : Y1.toInt = y1) {y2 : Int} {Y2 : Int32} (h_y2 : Y2.toInt = y2) {y3 : Int} {Y3 : Int32} (h_y3 : Y3.toInt = y3) {S : iS} {s : fS} (hs : sr S s), rf rI (r12 y0 y1 y2 y3 S) (R12 Y0 Y1 Y2 Y3 s)) {l1 : Int} {L1 : Int32} (h_l1 : L1.toInt = l1) {l2 : Int} {L2 : Int32} (h_l2 : L2.toInt = l2) {l3 : Int} {L3 : Int32} (h_l3 : L3.toInt = l3) {l4 : Int} {L4 : Int32} (h_l4 : L4.toInt = l4) {l5 : Int} {L5 : Int32} (h_l5 : L5.toInt = l5) {S : iS} {s : fS} (hs : sr S s) : rf rI (j_X2_thousandthsRead_84 r12 l1 l2 l3 l4 l5 S) (f_X2_thousandthsRead_84 R12 L1 L2 L3 L4 L5 s) := by
  unfold j_X2_thousandthsRead_84 f_X2_thousandthsRead_84
  exact (rf_rg fun k1 => (h_r12 h_l1 h_l2 h_l3 (i_add h_l4 lo_1 k1) hs))
def j_X2_thousandthsRead_83 (r12 : Int → Int → Int → Int → iS → Option (Int × iS)) (l1 : Int) (l2 : Int) (l3 : Int) (l4 : Int) (l5 : Int) (t0 : Int) (S : iS) : Option (Int × iS) := (j_X2_thousandthsRead_84 r12 l1 t0 l3 l4 l5 S)
theorem jr_X2_thousandthsRead_83 {r12 : Int → Int → Int → Int → iS → Option (Int × iS)} {R12 : Int32 → Int32 → Int32 → Int32 → fS → Option (Int32 × fS)} (h_r12 : ∀ {y0 : Int} {Y0 : Int32} (h_y0 : Y0.toInt = y0) {y1 : Int} {Y1 : Int32} (h_y1 : Y1.toInt = y1) {y2 : Int} {Y2 : Int32} (h_y2 : Y2.toInt = y2) {y3 : Int} {Y3 : Int32} (h_y3 : Y3.toInt = y3) {S : iS} {s : fS} (hs : sr S s), rf rI (r12 y0 y1 y2 y3 S) (R12 Y0 Y1 Y2 Y3 s)) {l1 : Int} {L1 : Int32} (h_l1 : L1.toInt = l1) {l2 : Int} {L2 : Int32} (h_l2 : L2.toInt = l2) {l3 : Int} {L3 : Int32} (h_l3 : L3.toInt = l3) {l4 : Int} {L4 : Int32} (h_l4 : L4.toInt = l4) {l5 : Int} {L5 : Int32} (h_l5 : L5.toInt = l5) {t0 : Int} {T0 : Int32} (h_t0 : T0.toInt = t0) {S : iS} {s : fS} (hs : sr S s) : rf rI (j_X2_thousandthsRead_83 r12 l1 l2 l3 l4 l5 t0 S) (f_X2_thousandthsRead_83 R12 L1 L2 L3 L4 L5 T0 s) := by
  unfold j_X2_thousandthsRead_83 f_X2_thousandthsRead_83
  exact (jr_X2_thousandthsRead_84 h_r12 h_l1 h_t0 h_l3 h_l4 h_l5 hs)
def j_X2_thousandthsRead_12  : Nat → Int → Int → Int → Int → iS → Option (Int × iS)
  | 0, _, _, _, _, _ => none
  | n + 1, l1, l2, l3, l4, S => (if (jI S ((gadr (jP2 S)) + 1) 1) ≤ l4 then (j_X2_thousandthsRead_93 fuel l1 l2 l3 l2 S) else ((j_X3_at ((gadr (jP2 S)) + 1) l4 S).bind fun qx1 => (if ¬ qx1.1 = (46 : Int) then ((j_X6_isFigure qx1.1 qx1.2).bind fun qx2 => (if qx2.1 = (0 : Int) then (j_X2_thousandthsRead_84 (fun l1' l2' l3' l4' S' => j_X2_thousandthsRead_12 n l1' l2' l3' l4' S') l1 l2 l3 l4 qx1.1 qx2.2) else (if l3 = (0 : Int) then (if rg (l1 * (10 : Int)) then (if rg (qx1.1 - (48 : Int)) then (if rg ((l1 * (10 : Int)) + (qx1.1 - (48 : Int))) then (j_X2_thousandthsRead_83 (fun l1' l2' l3' l4' S' => j_X2_thousandthsRead_12 n l1' l2' l3' l4' S') ((l1 * (10 : Int)) + (qx1.1 - (48 : Int))) l2 l3 l4 qx1.1 (0 : Int) qx2.2) else none) else none) else none) else (if rg (l1 * (10 : Int)) then (if rg (qx1.1 - (48 : Int)) then (if rg ((l1 * (10 : Int)) + (qx1.1 - (48 : Int))) then (if rg (l2 + (1 : Int)) then (j_X2_thousandthsRead_83 (fun l1' l2' l3' l4' S' => j_X2_thousandthsRead_12 n l1' l2' l3' l4' S') ((l1 * (10 : Int)) + (qx1.1 - (48 : Int))) l2 l3 l4 qx1.1 (l2 + (1 : Int)) qx2.2) else none) else none) else none) else none)))) else (j_X2_thousandthsRead_84 (fun l1' l2' l3' l4' S' => j_X2_thousandthsRead_12 n l1' l2' l3' l4' S') l1 l2 (1 : Int) l4 qx1.1 qx1.2))))
theorem jr_X2_thousandthsRead_12  (n : Nat) : ∀ {l1 : Int} {L1 : Int32} (h_l1 : L1.toInt = l1) {l2 : Int} {L2 : Int32} (h_l2 : L2.toInt = l2) {l3 : Int} {L3 : Int32} (h_l3 : L3.toInt = l3) {l4 : Int} {L4 : Int32} (h_l4 : L4.toInt = l4) {S : iS} {s : fS} (hs : sr S s), rf rI (j_X2_thousandthsRead_12 n l1 l2 l3 l4 S) (f_X2_thousandthsRead_12 n L1 L2 L3 L4 s) := by
  induction n with
  | zero => intros; exact rf_none
  | succ n ih =>
    intro l1 L1 h_l1 l2 L2 h_l2 l3 L3 h_l3 l4 L4 h_l4 S s hs
    rw [j_X2_thousandthsRead_12, f_X2_thousandthsRead_12]
    exact (rf_if (c_le (sr_gI hs (e_add (e_gad (sr_gP2 hs)))) h_l4) (jr_X2_thousandthsRead_93 fuel h_l1 h_l2 h_l3 h_l2 hs) (rf_bind (jr_X3_at (e_add (e_gad (sr_gP2 hs))) h_l4 hs) fun qx1 QX1 h_qx1 => (rf_if (c_not (c_eq h_qx1.1 li_46)) (rf_bind (jr_X6_isFigure h_qx1.1 h_qx1.2) fun qx2 QX2 h_qx2 => (rf_if (c_eq h_qx2.1 li_0) (jr_X2_thousandthsRead_84 (@fun _ _ h_l1' _ _ h_l2' _ _ h_l3' _ _ h_l4' _ _ hs' => (ih h_l1' h_l2' h_l3' h_l4' hs')) h_l1 h_l2 h_l3 h_l4 h_qx1.1 h_qx2.2) (rf_if (c_eq h_l3 li_0) (rf_rg fun k1 => (rf_rg fun k2 => (rf_rg fun k3 => (jr_X2_thousandthsRead_83 (@fun _ _ h_l1' _ _ h_l2' _ _ h_l3' _ _ h_l4' _ _ hs' => (ih h_l1' h_l2' h_l3' h_l4' hs')) (i_add (i_mul h_l1 li_10 k1) (i_sub h_qx1.1 li_48 k2) k3) h_l2 h_l3 h_l4 h_qx1.1 li_0 h_qx2.2)))) (rf_rg fun k4 => (rf_rg fun k5 => (rf_rg fun k6 => (rf_rg fun k7 => (jr_X2_thousandthsRead_83 (@fun _ _ h_l1' _ _ h_l2' _ _ h_l3' _ _ h_l4' _ _ hs' => (ih h_l1' h_l2' h_l3' h_l4' hs')) (i_add (i_mul h_l1 li_10 k4) (i_sub h_qx1.1 li_48 k5) k6) h_l2 h_l3 h_l4 h_qx1.1 (i_add h_l2 li_1 k7) h_qx2.2)))))))) (jr_X2_thousandthsRead_84 (@fun _ _ h_l1' _ _ h_l2' _ _ h_l3' _ _ h_l4' _ _ hs' => (ih h_l1' h_l2' h_l3' h_l4' hs')) h_l1 h_l2 li_1 h_l4 h_qx1.1 h_qx1.2))))
def j_X2_thousandthsRead_0 (S : iS) : Option (Int × iS) := (j_X2_thousandthsRead_12 fuel (0 : Int) (0 : Int) (0 : Int) (jI S 80 11) S)
theorem jr_X2_thousandthsRead_0 {S : iS} {s : fS} (hs : sr S s) : rf rI (j_X2_thousandthsRead_0 S) (f_X2_thousandthsRead_0 s) := by
  unfold j_X2_thousandthsRead_0 f_X2_thousandthsRead_0
  exact (jr_X2_thousandthsRead_12 fuel li_0 li_0 li_0 (sr_gI hs rfl) hs)
def j_X2_thousandthsRead (S : iS) : Option (Int × iS) := (j_X2_thousandthsRead_0 S)
theorem jr_X2_thousandthsRead {S : iS} {s : fS} (hs : sr S s) : rf rI (j_X2_thousandthsRead S) (f_X2_thousandthsRead s) := by
  unfold j_X2_thousandthsRead f_X2_thousandthsRead
  exact (jr_X2_thousandthsRead_0 hs)
def j_X2_readValues_41 (l1 : Int) (S : iS) : Option (Int × iS) := (some ((0 : Int), S))
theorem jr_X2_readValues_41 {l1 : Int} {L1 : Int32} (h_l1 : L1.toInt = l1) {S : iS} {s : fS} (hs : sr S s) : rf rI (j_X2_readValues_41 l1 S) (f_X2_readValues_41 L1 s) := by
  unfold j_X2_readValues_41 f_X2_readValues_41
  exact (rf_some ⟨li_0, hs⟩)
def j_X2_readValues_67 (r2 : Int → iS → Option (Int × iS)) (l1 : Int) (t0 : Int) (S : iS) : Option (Int × iS) := ((j_X1_addValue (jP2 S) (jI S 80 10) t0 (jI S 80 11) S).bind fun qx1 => (if rg (l1 + (1 : Int)) then (r2 (l1 + (1 : Int)) qx1) else none))
theorem jr_X2_readValues_67 {r2 : Int → iS → Option (Int × iS)} {R2 : Int32 → fS → Option (Int32 × fS)} (h_r2 : ∀ {y0 : Int} {Y0 : Int32} (h_y0 : Y0.toInt = y0) {S : iS} {s : fS} (hs : sr S s), rf rI (r2 y0 S) (R2 Y0 s)) {l1 : Int} {L1 : Int32} (h_l1 : L1.toInt = l1) {t0 : Int} {T0 : Int32} (h_t0 : T0.toInt = t0) {S : iS} {s : fS} (hs : sr S s) : rf rI (j_X2_readValues_67 r2 l1 t0 S) (f_X2_readValues_67 R2 L1 T0 s) := by
  unfold j_X2_readValues_67 f_X2_readValues_67
  exact (rf_bind (jr_X1_addValue (sr_gP2 hs) (sr_gI hs rfl) h_t0 (sr_gI hs rfl) hs) fun qx1 QX1 h_qx1 => (rf_rg fun k1 => (h_r2 (i_add h_l1 lo_1 k1) h_qx1)))
def j_X2_readValues_59 (r2 : Int → iS → Option (Int × iS)) (l1 : Int) (S : iS) : Option (Int × iS) := ((j_X2_thousandthsRead S).bind fun qx1 => (j_X2_readValues_67 r2 l1 qx1.1 qx1.2))
theorem jr_X2_readValues_59 {r2 : Int → iS → Option (Int × iS)} {R2 : Int32 → fS → Option (Int32 × fS)} (h_r2 : ∀ {y0 : Int} {Y0 : Int32} (h_y0 : Y0.toInt = y0) {S : iS} {s : fS} (hs : sr S s), rf rI (r2 y0 S) (R2 Y0 s)) {l1 : Int} {L1 : Int32} (h_l1 : L1.toInt = l1) {S : iS} {s : fS} (hs : sr S s) : rf rI (j_X2_readValues_59 r2 l1 S) (f_X2_readValues_59 R2 L1 s) := by
  unfold j_X2_readValues_59 f_X2_readValues_59
  exact (rf_bind (jr_X2_thousandthsRead hs) fun qx1 QX1 h_qx1 => (jr_X2_readValues_67 h_r2 h_l1 h_qx1.1 h_qx1.2))
def j_X2_readValues_2  : Nat → Int → iS → Option (Int × iS)
  | 0, _, _ => none
  | n + 1, l1, S => (if (jI S ((gadr (jP2 S)) + 18) 1) ≤ l1 then (some ((1 : Int), S)) else ((j_X2_readGap S).bind fun qx1 => (if qx1.1 = (0 : Int) then (j_X2_readValues_41 l1 qx1.2) else ((j_X3_at ((gadr (jP2 qx1.2)) + 18) l1 qx1.2).bind fun qx2 => ((j_X2_readValue qx2.1 qx2.2).bind fun qx3 => (if ¬ qx3.1 = (0 : Int) then (if (jI qx3.2 80 10) = (1 : Int) then (j_X2_readValues_59 (fun l1' S' => j_X2_readValues_2 n l1' S') l1 qx3.2) else (if ¬ (jI qx3.2 80 10) = (2 : Int) then (j_X2_readValues_67 (fun l1' S' => j_X2_readValues_2 n l1' S') l1 (0 : Int) qx3.2) else (j_X2_readValues_59 (fun l1' S' => j_X2_readValues_2 n l1' S') l1 qx3.2))) else (j_X2_readValues_41 l1 qx3.2)))))))
theorem jr_X2_readValues_2  (n : Nat) : ∀ {l1 : Int} {L1 : Int32} (h_l1 : L1.toInt = l1) {S : iS} {s : fS} (hs : sr S s), rf rI (j_X2_readValues_2 n l1 S) (f_X2_readValues_2 n L1 s) := by
  induction n with
  | zero => intros; exact rf_none
  | succ n ih =>
    intro l1 L1 h_l1 S s hs
    rw [j_X2_readValues_2, f_X2_readValues_2]
    exact (rf_if (c_le (sr_gI hs (e_add (e_gad (sr_gP2 hs)))) h_l1) (rf_some ⟨li_1, hs⟩) (rf_bind (jr_X2_readGap hs) fun qx1 QX1 h_qx1 => (rf_if (c_eq h_qx1.1 li_0) (jr_X2_readValues_41 h_l1 h_qx1.2) (rf_bind (jr_X3_at (e_add (e_gad (sr_gP2 h_qx1.2))) h_l1 h_qx1.2) fun qx2 QX2 h_qx2 => (rf_bind (jr_X2_readValue h_qx2.1 h_qx2.2) fun qx3 QX3 h_qx3 => (rf_if (c_not (c_eq h_qx3.1 li_0)) (rf_if (c_eq (sr_gI h_qx3.2 rfl) li_1) (jr_X2_readValues_59 (@fun _ _ h_l1' _ _ hs' => (ih h_l1' hs')) h_l1 h_qx3.2) (rf_if (c_not (c_eq (sr_gI h_qx3.2 rfl) li_2)) (jr_X2_readValues_67 (@fun _ _ h_l1' _ _ hs' => (ih h_l1' hs')) h_l1 li_0 h_qx3.2) (jr_X2_readValues_59 (@fun _ _ h_l1' _ _ hs' => (ih h_l1' hs')) h_l1 h_qx3.2))) (jr_X2_readValues_41 h_l1 h_qx3.2)))))))
def j_X2_readValues_0 (S : iS) : Option (Int × iS) := (j_X2_readValues_2 fuel (0 : Int) S)
theorem jr_X2_readValues_0 {S : iS} {s : fS} (hs : sr S s) : rf rI (j_X2_readValues_0 S) (f_X2_readValues_0 s) := by
  unfold j_X2_readValues_0 f_X2_readValues_0
  exact (jr_X2_readValues_2 fuel li_0 hs)
def j_X2_readValues (S : iS) : Option (Int × iS) := (j_X2_readValues_0 S)
theorem jr_X2_readValues {S : iS} {s : fS} (hs : sr S s) : rf rI (j_X2_readValues S) (f_X2_readValues s) := by
  unfold j_X2_readValues f_X2_readValues
  exact (jr_X2_readValues_0 hs)
def j_X2_readLine_99 (t0 : Int) (S : iS) : Option (Int × iS) := (if (t0 = 0 ∨ t0 = 1) then (some (t0, S)) else none)
theorem jr_X2_readLine_99 {t0 : Int} {T0 : Int32} (h_t0 : T0.toInt = t0) {S : iS} {s : fS} (hs : sr S s) : rf rI (j_X2_readLine_99 t0 S) (f_X2_readLine_99 T0 s) := by
  unfold j_X2_readLine_99 f_X2_readLine_99
  exact (rf_rg fun k1 => (rf_ck (k_fbl h_t0 k1) (rf_some ⟨h_t0, hs⟩)))
def j_X2_readLine_98 (S : iS) : Option (Int × iS) := (j_X2_readLine_99 (0 : Int) S)
theorem jr_X2_readLine_98 {S : iS} {s : fS} (hs : sr S s) : rf rI (j_X2_readLine_98 S) (f_X2_readLine_98 s) := by
  unfold j_X2_readLine_98 f_X2_readLine_98
  exact (jr_X2_readLine_99 li_0 hs)
def j_X2_readLine_0 (S : iS) : Option (Int × iS) := ((j_X0_skipBlanks S).bind fun qx1 => (if (jI qx1 81 2) = (-1 : Int) then (some ((1 : Int), qx1)) else (if (jI qx1 81 2) = (33 : Int) then ((j_X2_readCount qx1).bind fun qx2 => (if (qx2.1 = 0 ∨ qx2.1 = 1) then (some (qx2.1, qx2.2)) else none)) else (if (jI qx1 81 2) = (35 : Int) then ((j_X2_readComment qx1).bind fun qx3 => (if (qx3.1 = 0 ∨ qx3.1 = 1) then (some (qx3.1, qx3.2)) else none)) else (if (jI qx1 81 2) = (37 : Int) then ((j_X2_readHead qx1).bind fun qx4 => (if (qx4.1 = 0 ∨ qx4.1 = 1) then (some (qx4.1, qx4.2)) else none)) else ((j_X2_readEnds qx1).bind fun qx5 => (if qx5.1 = (0 : Int) then (j_X2_readLine_98 qx5.2) else ((j_X2_readValues qx5.2).bind fun qx6 => (if qx6.1 = (0 : Int) then (j_X2_readLine_98 qx6.2) else ((j_X2_endArc qx6.2).bind fun qx7 => (if qx7.1 = (0 : Int) then (j_X2_readLine_98 qx7.2) else (j_X2_readLine_99 (1 : Int) qx7.2))))))))))))
theorem jr_X2_readLine_0 {S : iS} {s : fS} (hs : sr S s) : rf rI (j_X2_readLine_0 S) (f_X2_readLine_0 s) := by
  unfold j_X2_readLine_0 f_X2_readLine_0
  exact (rf_bind (jr_X0_skipBlanks hs) fun qx1 QX1 h_qx1 => (rf_if (c_ti (sr_gI h_qx1 rfl)) (rf_some ⟨li_1, h_qx1⟩) (rf_if (c_ti (sr_gI h_qx1 rfl)) (rf_bind (jr_X2_readCount h_qx1) fun qx2 QX2 h_qx2 => (rf_rg fun k1 => (rf_ck (k_fbl h_qx2.1 k1) (rf_some ⟨h_qx2.1, h_qx2.2⟩)))) (rf_if (c_ti (sr_gI h_qx1 rfl)) (rf_bind (jr_X2_readComment h_qx1) fun qx3 QX3 h_qx3 => (rf_rg fun k2 => (rf_ck (k_fbl h_qx3.1 k2) (rf_some ⟨h_qx3.1, h_qx3.2⟩)))) (rf_if (c_ti (sr_gI h_qx1 rfl)) (rf_bind (jr_X2_readHead h_qx1) fun qx4 QX4 h_qx4 => (rf_rg fun k3 => (rf_ck (k_fbl h_qx4.1 k3) (rf_some ⟨h_qx4.1, h_qx4.2⟩)))) (rf_bind (jr_X2_readEnds h_qx1) fun qx5 QX5 h_qx5 => (rf_if (c_eq h_qx5.1 li_0) (jr_X2_readLine_98 h_qx5.2) (rf_bind (jr_X2_readValues h_qx5.2) fun qx6 QX6 h_qx6 => (rf_if (c_eq h_qx6.1 li_0) (jr_X2_readLine_98 h_qx6.2) (rf_bind (jr_X2_endArc h_qx6.2) fun qx7 QX7 h_qx7 => (rf_if (c_eq h_qx7.1 li_0) (jr_X2_readLine_98 h_qx7.2) (jr_X2_readLine_99 li_1 h_qx7.2))))))))))))
def j_X2_readLine (S : iS) : Option (Int × iS) := (j_X2_readLine_0 S)
theorem jr_X2_readLine {S : iS} {s : fS} (hs : sr S s) : rf rI (j_X2_readLine S) (f_X2_readLine s) := by
  unfold j_X2_readLine f_X2_readLine
  exact (jr_X2_readLine_0 hs)
def j_X2_readText_78 (b2 : Bool) (l3 : Int) (l4 : Int) (S : iS) : Option (Int × iS) := ((j_X1_settleKinds (jP2 S) S).bind fun qx1 => ((j_X2_countIsTrue qx1).bind fun qx2 => (if (qx2.1 = 0 ∨ qx2.1 = 1) then (some (qx2.1, qx2.2)) else none)))
theorem jr_X2_readText_78 {b2 B2 : Bool} (h_b2 : B2 = b2) {l3 : Int} {L3 : Int32} (h_l3 : L3.toInt = l3) {l4 : Int} {L4 : Int32} (h_l4 : L4.toInt = l4) {S : iS} {s : fS} (hs : sr S s) : rf rI (j_X2_readText_78 b2 l3 l4 S) (f_X2_readText_78 B2 L3 L4 s) := by
  unfold j_X2_readText_78 f_X2_readText_78
  exact (rf_bind (jr_X1_settleKinds (sr_gP2 hs) hs) fun qx1 QX1 h_qx1 => (rf_bind (jr_X2_countIsTrue h_qx1) fun qx2 QX2 h_qx2 => (rf_rg fun k1 => (rf_ck (k_fbl h_qx2.1 k1) (rf_some ⟨h_qx2.1, h_qx2.2⟩)))))
def j_X2_readText_38 (b2 : Bool) : Nat → Int → Int → iS → Option (Int × iS)
  | 0, _, _, _ => none
  | n + 1, l3, l4, S => (if (600 : Int) ≤ l4 then (j_X2_readText_78 b2 l3 l4 S) else ((j_X0_hasLine S).bind fun qx1 => (if qx1.1 = (0 : Int) then (j_X2_readText_78 b2 l3 l4 qx1.2) else ((j_X2_readLine qx1.2).bind fun qx2 => (if ¬ qx2.1 = (0 : Int) then ((j_X0_nextLine qx2.2).bind fun qx3 => (if rg (l4 + (1 : Int)) then (j_X2_readText_38 b2 n l3 (l4 + (1 : Int)) qx3) else none)) else (some ((0 : Int), qx2.2)))))))
theorem jr_X2_readText_38 {b2 B2 : Bool} (h_b2 : B2 = b2) (n : Nat) : ∀ {l3 : Int} {L3 : Int32} (h_l3 : L3.toInt = l3) {l4 : Int} {L4 : Int32} (h_l4 : L4.toInt = l4) {S : iS} {s : fS} (hs : sr S s), rf rI (j_X2_readText_38 b2 n l3 l4 S) (f_X2_readText_38 B2 n L3 L4 s) := by
  induction n with
  | zero => intros; exact rf_none
  | succ n ih =>
    intro l3 L3 h_l3 l4 L4 h_l4 S s hs
    rw [j_X2_readText_38, f_X2_readText_38]
    exact (rf_if (c_le li_600 h_l4) (jr_X2_readText_78 h_b2 h_l3 h_l4 hs) (rf_bind (jr_X0_hasLine hs) fun qx1 QX1 h_qx1 => (rf_if (c_eq h_qx1.1 li_0) (jr_X2_readText_78 h_b2 h_l3 h_l4 h_qx1.2) (rf_bind (jr_X2_readLine h_qx1.2) fun qx2 QX2 h_qx2 => (rf_if (c_not (c_eq h_qx2.1 li_0)) (rf_bind (jr_X0_nextLine h_qx2.2) fun qx3 QX3 h_qx3 => (rf_rg fun k1 => (ih h_l3 (i_add h_l4 lo_1 k1) h_qx3))) (rf_some ⟨li_0, h_qx2.2⟩))))))
def j_X2_readText_0 (b2 : Bool) (l3 : Int) (S : iS) : Option (Int × iS) := ((j_X0_start S).bind fun qx1 => ((j_X1_clear b2 (kP2 qx1 b2)).bind fun qx2 => (j_X2_readText_38 b2 fuel l3 (0 : Int) (kI (kI (kI qx2 80 2 l3) 80 3 (0 : Int)) 80 4 (0 : Int)))))
theorem jr_X2_readText_0 {b2 B2 : Bool} (h_b2 : B2 = b2) {l3 : Int} {L3 : Int32} (h_l3 : L3.toInt = l3) {S : iS} {s : fS} (hs : sr S s) : rf rI (j_X2_readText_0 b2 l3 S) (f_X2_readText_0 B2 L3 s) := by
  unfold j_X2_readText_0 f_X2_readText_0
  exact (rf_bind (jr_X0_start hs) fun qx1 QX1 h_qx1 => (rf_bind (jr_X1_clear h_b2 (sr_P2 h_qx1 h_b2)) fun qx2 QX2 h_qx2 => (jr_X2_readText_38 h_b2 fuel h_l3 li_0 (sr_I (sr_I (sr_I h_qx2 rfl h_l3) rfl li_0) rfl li_0))))
def j_X2_readText (b2 : Bool) (l3 : Int) (S : iS) : Option (Int × iS) := (j_X2_readText_0 b2 l3 S)
theorem jr_X2_readText {b2 B2 : Bool} (h_b2 : B2 = b2) {l3 : Int} {L3 : Int32} (h_l3 : L3.toInt = l3) {S : iS} {s : fS} (hs : sr S s) : rf rI (j_X2_readText b2 l3 S) (f_X2_readText B2 L3 s) := by
  unfold j_X2_readText f_X2_readText
  exact (jr_X2_readText_0 h_b2 h_l3 hs)
def j_X4_lengthOf_0 (a0 : Nat) (l1 : Int) (S : iS) : Option (Int × iS) := ((j_X3_at (a0 + 3) l1 S).bind fun qx1 => (some (qx1.1, qx1.2)))
theorem jr_X4_lengthOf_0 {a0 A0 : Nat} (h_a0 : A0 = a0) {l1 : Int} {L1 : Int32} (h_l1 : L1.toInt = l1) {S : iS} {s : fS} (hs : sr S s) : rf rI (j_X4_lengthOf_0 a0 l1 S) (f_X4_lengthOf_0 A0 L1 s) := by
  unfold j_X4_lengthOf_0 f_X4_lengthOf_0
  exact (rf_bind (jr_X3_at (e_add h_a0) h_l1 hs) fun qx1 QX1 h_qx1 => (rf_some ⟨h_qx1.1, h_qx1.2⟩))
def j_X4_lengthOf (a0 : Nat) (l1 : Int) (S : iS) : Option (Int × iS) := (j_X4_lengthOf_0 a0 l1 S)
theorem jr_X4_lengthOf {a0 A0 : Nat} (h_a0 : A0 = a0) {l1 : Int} {L1 : Int32} (h_l1 : L1.toInt = l1) {S : iS} {s : fS} (hs : sr S s) : rf rI (j_X4_lengthOf a0 l1 S) (f_X4_lengthOf A0 L1 s) := by
  unfold j_X4_lengthOf f_X4_lengthOf
  exact (jr_X4_lengthOf_0 h_a0 h_l1 hs)
def j_X4_signAt_37 (a0 : Nat) (l1 : Int) (l2 : Int) (t0 : Int) (S : iS) : Option (Int × iS) := (some (t0, S))
theorem jr_X4_signAt_37 {a0 A0 : Nat} (h_a0 : A0 = a0) {l1 : Int} {L1 : Int32} (h_l1 : L1.toInt = l1) {l2 : Int} {L2 : Int32} (h_l2 : L2.toInt = l2) {t0 : Int} {T0 : Int32} (h_t0 : T0.toInt = t0) {S : iS} {s : fS} (hs : sr S s) : rf rI (j_X4_signAt_37 a0 l1 l2 t0 S) (f_X4_signAt_37 A0 L1 L2 T0 s) := by
  unfold j_X4_signAt_37 f_X4_signAt_37
  exact (rf_some ⟨h_t0, hs⟩)
def j_X4_signAt_36 (a0 : Nat) (l1 : Int) (l2 : Int) (S : iS) : Option (Int × iS) := (j_X4_signAt_37 a0 l1 l2 (-1 : Int) S)
theorem jr_X4_signAt_36 {a0 A0 : Nat} (h_a0 : A0 = a0) {l1 : Int} {L1 : Int32} (h_l1 : L1.toInt = l1) {l2 : Int} {L2 : Int32} (h_l2 : L2.toInt = l2) {S : iS} {s : fS} (hs : sr S s) : rf rI (j_X4_signAt_36 a0 l1 l2 S) (f_X4_signAt_36 A0 L1 L2 s) := by
  unfold j_X4_signAt_36 f_X4_signAt_36
  exact (jr_X4_signAt_37 h_a0 h_l1 h_l2 li_m1 hs)
def j_X4_signAt_0 (a0 : Nat) (l1 : Int) (l2 : Int) (S : iS) : Option (Int × iS) := (if l2 < (0 : Int) then (j_X4_signAt_36 a0 l1 l2 S) else ((j_X3_at (a0 + 3) l1 S).bind fun qx1 => (if qx1.1 ≤ l2 then (j_X4_signAt_36 a0 l1 l2 qx1.2) else ((j_X3_at (a0 + 1) l1 qx1.2).bind fun qx2 => (if rg (qx2.1 + l2) then ((j_X3_at (sgn a0) (qx2.1 + l2) qx2.2).bind fun qx3 => (j_X4_signAt_37 a0 l1 l2 qx3.1 qx3.2)) else none)))))
theorem jr_X4_signAt_0 {a0 A0 : Nat} (h_a0 : A0 = a0) {l1 : Int} {L1 : Int32} (h_l1 : L1.toInt = l1) {l2 : Int} {L2 : Int32} (h_l2 : L2.toInt = l2) {S : iS} {s : fS} (hs : sr S s) : rf rI (j_X4_signAt_0 a0 l1 l2 S) (f_X4_signAt_0 A0 L1 L2 s) := by
  unfold j_X4_signAt_0 f_X4_signAt_0
  exact (rf_if (c_lt h_l2 li_0) (jr_X4_signAt_36 h_a0 h_l1 h_l2 hs) (rf_bind (jr_X3_at (e_add h_a0) h_l1 hs) fun qx1 QX1 h_qx1 => (rf_if (c_le h_qx1.1 h_l2) (jr_X4_signAt_36 h_a0 h_l1 h_l2 h_qx1.2) (rf_bind (jr_X3_at (e_add h_a0) h_l1 h_qx1.2) fun qx2 QX2 h_qx2 => (rf_rg fun k1 => (rf_bind (jr_X3_at (e_sgn h_a0) (i_add h_qx2.1 h_l2 k1) h_qx2.2) fun qx3 QX3 h_qx3 => (jr_X4_signAt_37 h_a0 h_l1 h_l2 h_qx3.1 h_qx3.2)))))))
def j_X4_signAt (a0 : Nat) (l1 : Int) (l2 : Int) (S : iS) : Option (Int × iS) := (j_X4_signAt_0 a0 l1 l2 S)
theorem jr_X4_signAt {a0 A0 : Nat} (h_a0 : A0 = a0) {l1 : Int} {L1 : Int32} (h_l1 : L1.toInt = l1) {l2 : Int} {L2 : Int32} (h_l2 : L2.toInt = l2) {S : iS} {s : fS} (hs : sr S s) : rf rI (j_X4_signAt a0 l1 l2 S) (f_X4_signAt A0 L1 L2 s) := by
  unfold j_X4_signAt f_X4_signAt
  exact (jr_X4_signAt_0 h_a0 h_l1 h_l2 hs)
def j_X4_isPlainName_2 (a0 : Nat) : Nat → Int → Int → iS → Option (Int × iS)
  | 0, _, _, _ => none
  | n + 1, l1, l2, S => ((j_X4_lengthOf a0 l1 S).bind fun qx1 => (if qx1.1 ≤ l2 then (some ((1 : Int), qx1.2)) else ((j_X4_signAt a0 l1 l2 qx1.2).bind fun qx2 => ((j_X6_isPlain qx2.1 qx2.2).bind fun qx3 => (if ¬ qx3.1 = (0 : Int) then (if rg (l2 + (1 : Int)) then (j_X4_isPlainName_2 a0 n l1 (l2 + (1 : Int)) qx3.2) else none) else (some ((0 : Int), qx3.2)))))))
theorem jr_X4_isPlainName_2 {a0 A0 : Nat} (h_a0 : A0 = a0) (n : Nat) : ∀ {l1 : Int} {L1 : Int32} (h_l1 : L1.toInt = l1) {l2 : Int} {L2 : Int32} (h_l2 : L2.toInt = l2) {S : iS} {s : fS} (hs : sr S s), rf rI (j_X4_isPlainName_2 a0 n l1 l2 S) (f_X4_isPlainName_2 A0 n L1 L2 s) := by
  induction n with
  | zero => intros; exact rf_none
  | succ n ih =>
    intro l1 L1 h_l1 l2 L2 h_l2 S s hs
    rw [j_X4_isPlainName_2, f_X4_isPlainName_2]
    exact (rf_bind (jr_X4_lengthOf h_a0 h_l1 hs) fun qx1 QX1 h_qx1 => (rf_if (c_le h_qx1.1 h_l2) (rf_some ⟨li_1, h_qx1.2⟩) (rf_bind (jr_X4_signAt h_a0 h_l1 h_l2 h_qx1.2) fun qx2 QX2 h_qx2 => (rf_bind (jr_X6_isPlain h_qx2.1 h_qx2.2) fun qx3 QX3 h_qx3 => (rf_if (c_not (c_eq h_qx3.1 li_0)) (rf_rg fun k1 => (ih h_l1 (i_add h_l2 lo_1 k1) h_qx3.2)) (rf_some ⟨li_0, h_qx3.2⟩))))))
def j_X4_isPlainName_0 (a0 : Nat) (l1 : Int) (S : iS) : Option (Int × iS) := (j_X4_isPlainName_2 a0 fuel l1 (0 : Int) S)
theorem jr_X4_isPlainName_0 {a0 A0 : Nat} (h_a0 : A0 = a0) {l1 : Int} {L1 : Int32} (h_l1 : L1.toInt = l1) {S : iS} {s : fS} (hs : sr S s) : rf rI (j_X4_isPlainName_0 a0 l1 S) (f_X4_isPlainName_0 A0 L1 s) := by
  unfold j_X4_isPlainName_0 f_X4_isPlainName_0
  exact (jr_X4_isPlainName_2 h_a0 fuel h_l1 li_0 hs)
def j_X4_isPlainName (a0 : Nat) (l1 : Int) (S : iS) : Option (Int × iS) := (j_X4_isPlainName_0 a0 l1 S)
theorem jr_X4_isPlainName {a0 A0 : Nat} (h_a0 : A0 = a0) {l1 : Int} {L1 : Int32} (h_l1 : L1.toInt = l1) {S : iS} {s : fS} (hs : sr S s) : rf rI (j_X4_isPlainName a0 l1 S) (f_X4_isPlainName A0 L1 s) := by
  unfold j_X4_isPlainName f_X4_isPlainName
  exact (jr_X4_isPlainName_0 h_a0 h_l1 hs)
def j_X5_writeComment_11 (b1 : Bool) : Nat → Int → Int → iS → Option iS
  | 0, _, _, _ => none
  | n + 1, l2, l3, S => ((j_X4_lengthOf ((gadr b1) + 13) l2 S).bind fun qx1 => (if qx1.1 ≤ l3 then (some qx1.2) else ((j_X4_signAt ((gadr b1) + 13) l2 l3 qx1.2).bind fun qx2 => ((j_X3_add 3 qx2.1 qx2.2).bind fun qx3 => (if rg (l3 + (1 : Int)) then (j_X5_writeComment_11 b1 n l2 (l3 + (1 : Int)) qx3) else none)))))
theorem jr_X5_writeComment_11 {b1 B1 : Bool} (h_b1 : B1 = b1) (n : Nat) : ∀ {l2 : Int} {L2 : Int32} (h_l2 : L2.toInt = l2) {l3 : Int} {L3 : Int32} (h_l3 : L3.toInt = l3) {S : iS} {s : fS} (hs : sr S s), rf rV (j_X5_writeComment_11 b1 n l2 l3 S) (f_X5_writeComment_11 B1 n L2 L3 s) := by
  induction n with
  | zero => intros; exact rf_none
  | succ n ih =>
    intro l2 L2 h_l2 l3 L3 h_l3 S s hs
    rw [j_X5_writeComment_11, f_X5_writeComment_11]
    exact (rf_bind (jr_X4_lengthOf (e_add (e_gad h_b1)) h_l2 hs) fun qx1 QX1 h_qx1 => (rf_if (c_le h_qx1.1 h_l3) (rf_some h_qx1.2) (rf_bind (jr_X4_signAt (e_add (e_gad h_b1)) h_l2 h_l3 h_qx1.2) fun qx2 QX2 h_qx2 => (rf_bind (jr_X3_add rfl h_qx2.1 h_qx2.2) fun qx3 QX3 h_qx3 => (rf_rg fun k1 => (ih h_l2 (i_add h_l3 lo_1 k1) h_qx3))))))
