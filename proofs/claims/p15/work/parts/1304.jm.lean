def j_X5_writeComment_0 (b1 : Bool) (l2 : Int) (S : iS) : Option iS := ((j_X3_add 3 (35 : Int) S).bind fun qx1 => (j_X5_writeComment_11 b1 fuel l2 (0 : Int) qx1))
theorem jr_X5_writeComment_0 {b1 B1 : Bool} (h_b1 : B1 = b1) {l2 : Int} {L2 : Int32} (h_l2 : L2.toInt = l2) {S : iS} {s : fS} (hs : sr S s) : rf rV (j_X5_writeComment_0 b1 l2 S) (f_X5_writeComment_0 B1 L2 s) := by
  unfold j_X5_writeComment_0 f_X5_writeComment_0
  exact (rf_bind (jr_X3_add rfl li_35 hs) fun qx1 QX1 h_qx1 => (jr_X5_writeComment_11 h_b1 fuel h_l2 li_0 h_qx1))
def j_X5_writeComment (b1 : Bool) (l2 : Int) (S : iS) : Option iS := (j_X5_writeComment_0 b1 l2 S)
theorem jr_X5_writeComment {b1 B1 : Bool} (h_b1 : B1 = b1) {l2 : Int} {L2 : Int32} (h_l2 : L2.toInt = l2) {S : iS} {s : fS} (hs : sr S s) : rf rV (j_X5_writeComment b1 l2 S) (f_X5_writeComment B1 L2 s) := by
  unfold j_X5_writeComment f_X5_writeComment
  exact (jr_X5_writeComment_0 h_b1 h_l2 hs)
def j_X5_writeWhole_33 (r3 : Int → Int → iS → Option iS) (l1 : Int) (l2 : Int) (S : iS) : Option iS := (if (0 ≤ l2 ∧ 0 < (10 : Int)) then (r3 l1 (l2 / (10 : Int)) S) else none)
theorem jr_X5_writeWhole_33 {r3 : Int → Int → iS → Option iS} {R3 : Int32 → Int32 → fS → Option fS} (h_r3 : ∀ {y0 : Int} {Y0 : Int32} (h_y0 : Y0.toInt = y0) {y1 : Int} {Y1 : Int32} (h_y1 : Y1.toInt = y1) {S : iS} {s : fS} (hs : sr S s), rf rV (r3 y0 y1 S) (R3 Y0 Y1 s)) {l1 : Int} {L1 : Int32} (h_l1 : L1.toInt = l1) {l2 : Int} {L2 : Int32} (h_l2 : L2.toInt = l2) {S : iS} {s : fS} (hs : sr S s) : rf rV (j_X5_writeWhole_33 r3 l1 l2 S) (f_X5_writeWhole_33 R3 L1 L2 s) := by
  unfold j_X5_writeWhole_33 f_X5_writeWhole_33
  exact (rf_rg fun k1 => (h_r3 h_l1 (i_div h_l2 li_10 k1) hs))
def j_X5_writeWhole_17 (r3 : Int → Int → iS → Option iS) (l1 : Int) (l2 : Int) (S : iS) : Option iS := (if (¬ l2 = (0 : Int)) then (if (0 ≤ l1 ∧ 0 < l2) then (if (0 ≤ (l1 / l2) ∧ 0 < (10 : Int)) then (if rg ((48 : Int) + ((l1 / l2) % (10 : Int))) then ((j_X3_add 3 ((48 : Int) + ((l1 / l2) % (10 : Int))) S).bind fun qx1 => (j_X5_writeWhole_33 r3 l1 l2 qx1)) else none) else none) else none) else none)
theorem jr_X5_writeWhole_17 {r3 : Int → Int → iS → Option iS} {R3 : Int32 → Int32 → fS → Option fS} (h_r3 : ∀ {y0 : Int} {Y0 : Int32} (h_y0 : Y0.toInt = y0) {y1 : Int} {Y1 : Int32} (h_y1 : Y1.toInt = y1) {S : iS} {s : fS} (hs : sr S s), rf rV (r3 y0 y1 S) (R3 Y0 Y1 s)) {l1 : Int} {L1 : Int32} (h_l1 : L1.toInt = l1) {l2 : Int} {L2 : Int32} (h_l2 : L2.toInt = l2) {S : iS} {s : fS} (hs : sr S s) : rf rV (j_X5_writeWhole_17 r3 l1 l2 S) (f_X5_writeWhole_17 R3 L1 L2 s) := by
  unfold j_X5_writeWhole_17 f_X5_writeWhole_17
  exact (rf_rg fun k1 => (rf_ck (k_dec (c_not (c_eq h_l2 li_0)) k1) (rf_rg fun k2 => (rf_rg fun k3 => (rf_rg fun k4 => (rf_bind (jr_X3_add rfl (i_add li_48 (i_rem (i_div h_l1 h_l2 k2) li_10 k3) k4) hs) fun qx1 QX1 h_qx1 => (jr_X5_writeWhole_33 h_r3 h_l1 h_l2 h_qx1)))))))
def j_X5_writeWhole_3  : Nat → Int → Int → iS → Option iS
  | 0, _, _, _ => none
  | n + 1, l1, l2, S => (if l2 ≤ (0 : Int) then (some S) else (if l2 ≤ l1 then (j_X5_writeWhole_17 (fun l1' l2' S' => j_X5_writeWhole_3 n l1' l2' S') l1 l2 S) else (if ¬ l2 = (1 : Int) then (j_X5_writeWhole_33 (fun l1' l2' S' => j_X5_writeWhole_3 n l1' l2' S') l1 l2 S) else (j_X5_writeWhole_17 (fun l1' l2' S' => j_X5_writeWhole_3 n l1' l2' S') l1 l2 S))))
theorem jr_X5_writeWhole_3  (n : Nat) : ∀ {l1 : Int} {L1 : Int32} (h_l1 : L1.toInt = l1) {l2 : Int} {L2 : Int32} (h_l2 : L2.toInt = l2) {S : iS} {s : fS} (hs : sr S s), rf rV (j_X5_writeWhole_3 n l1 l2 S) (f_X5_writeWhole_3 n L1 L2 s) := by
  induction n with
  | zero => intros; exact rf_none
  | succ n ih =>
    intro l1 L1 h_l1 l2 L2 h_l2 S s hs
    rw [j_X5_writeWhole_3, f_X5_writeWhole_3]
    exact (rf_if (c_le h_l2 li_0) (rf_some hs) (rf_if (c_le h_l2 h_l1) (jr_X5_writeWhole_17 (@fun _ _ h_l1' _ _ h_l2' _ _ hs' => (ih h_l1' h_l2' hs')) h_l1 h_l2 hs) (rf_if (c_not (c_eq h_l2 li_1)) (jr_X5_writeWhole_33 (@fun _ _ h_l1' _ _ h_l2' _ _ hs' => (ih h_l1' h_l2' hs')) h_l1 h_l2 hs) (jr_X5_writeWhole_17 (@fun _ _ h_l1' _ _ h_l2' _ _ hs' => (ih h_l1' h_l2' hs')) h_l1 h_l2 hs))))
def j_X5_writeWhole_0 (l1 : Int) (S : iS) : Option iS := (j_X5_writeWhole_3 fuel l1 (100000 : Int) S)
theorem jr_X5_writeWhole_0 {l1 : Int} {L1 : Int32} (h_l1 : L1.toInt = l1) {S : iS} {s : fS} (hs : sr S s) : rf rV (j_X5_writeWhole_0 l1 S) (f_X5_writeWhole_0 L1 s) := by
  unfold j_X5_writeWhole_0 f_X5_writeWhole_0
  exact (jr_X5_writeWhole_3 fuel h_l1 li_100000 hs)
def j_X5_writeWhole (l1 : Int) (S : iS) : Option iS := (j_X5_writeWhole_0 l1 S)
theorem jr_X5_writeWhole {l1 : Int} {L1 : Int32} (h_l1 : L1.toInt = l1) {S : iS} {s : fS} (hs : sr S s) : rf rV (j_X5_writeWhole l1 S) (f_X5_writeWhole L1 s) := by
  unfold j_X5_writeWhole f_X5_writeWhole
  exact (jr_X5_writeWhole_0 h_l1 hs)
def j_X5_writeCount_0 (b1 : Bool) (S : iS) : Option iS := ((j_X3_add 3 (33 : Int) S).bind fun qx1 => ((j_X3_add 3 (32 : Int) qx1).bind fun qx2 => ((j_X5_writeWhole (jI qx2 (gadr b1) 13) qx2).bind fun qx3 => ((j_X3_add 3 (32 : Int) qx3).bind fun qx4 => ((j_X5_writeWhole (jI qx4 (gadr b1) 14) qx4).bind fun qx5 => (some qx5))))))
theorem jr_X5_writeCount_0 {b1 B1 : Bool} (h_b1 : B1 = b1) {S : iS} {s : fS} (hs : sr S s) : rf rV (j_X5_writeCount_0 b1 S) (f_X5_writeCount_0 B1 s) := by
  unfold j_X5_writeCount_0 f_X5_writeCount_0
  exact (rf_bind (jr_X3_add rfl li_33 hs) fun qx1 QX1 h_qx1 => (rf_bind (jr_X3_add rfl li_32 h_qx1) fun qx2 QX2 h_qx2 => (rf_bind (jr_X5_writeWhole (sr_gI h_qx2 (e_gad h_b1)) h_qx2) fun qx3 QX3 h_qx3 => (rf_bind (jr_X3_add rfl li_32 h_qx3) fun qx4 QX4 h_qx4 => (rf_bind (jr_X5_writeWhole (sr_gI h_qx4 (e_gad h_b1)) h_qx4) fun qx5 QX5 h_qx5 => (rf_some h_qx5))))))
def j_X5_writeCount (b1 : Bool) (S : iS) : Option iS := (j_X5_writeCount_0 b1 S)
theorem jr_X5_writeCount {b1 B1 : Bool} (h_b1 : B1 = b1) {S : iS} {s : fS} (hs : sr S s) : rf rV (j_X5_writeCount b1 S) (f_X5_writeCount B1 s) := by
  unfold j_X5_writeCount f_X5_writeCount
  exact (jr_X5_writeCount_0 h_b1 hs)
def j_X5_letterOfKind_19 (l0 : Int) (t0 : Int) (S : iS) : Option (Int × iS) := (some (t0, S))
theorem jr_X5_letterOfKind_19 {l0 : Int} {L0 : Int32} (h_l0 : L0.toInt = l0) {t0 : Int} {T0 : Int32} (h_t0 : T0.toInt = t0) {S : iS} {s : fS} (hs : sr S s) : rf rI (j_X5_letterOfKind_19 l0 t0 S) (f_X5_letterOfKind_19 L0 T0 s) := by
  unfold j_X5_letterOfKind_19 f_X5_letterOfKind_19
  exact (rf_some ⟨h_t0, hs⟩)
def j_X5_letterOfKind_0 (l0 : Int) (S : iS) : Option (Int × iS) := (if ¬ l0 = (0 : Int) then (if ¬ l0 = (1 : Int) then (j_X5_letterOfKind_19 l0 (116 : Int) S) else (j_X5_letterOfKind_19 l0 (100 : Int) S)) else (some ((119 : Int), S)))
theorem jr_X5_letterOfKind_0 {l0 : Int} {L0 : Int32} (h_l0 : L0.toInt = l0) {S : iS} {s : fS} (hs : sr S s) : rf rI (j_X5_letterOfKind_0 l0 S) (f_X5_letterOfKind_0 L0 s) := by
  unfold j_X5_letterOfKind_0 f_X5_letterOfKind_0
  exact (rf_if (c_not (c_eq h_l0 li_0)) (rf_if (c_not (c_eq h_l0 li_1)) (jr_X5_letterOfKind_19 h_l0 li_116 hs) (jr_X5_letterOfKind_19 h_l0 li_100 hs)) (rf_some ⟨li_119, hs⟩))
def j_X5_letterOfKind (l0 : Int) (S : iS) : Option (Int × iS) := (j_X5_letterOfKind_0 l0 S)
theorem jr_X5_letterOfKind {l0 : Int} {L0 : Int32} (h_l0 : L0.toInt = l0) {S : iS} {s : fS} (hs : sr S s) : rf rI (j_X5_letterOfKind l0 S) (f_X5_letterOfKind L0 s) := by
  unfold j_X5_letterOfKind f_X5_letterOfKind
  exact (jr_X5_letterOfKind_0 h_l0 hs)
def j_X5_writeName_100 (a1 : Nat) (l2 : Int) (l3 : Int) (l4 : Int) (S : iS) : Option iS := (some S)
theorem jr_X5_writeName_100 {a1 A1 : Nat} (h_a1 : A1 = a1) {l2 : Int} {L2 : Int32} (h_l2 : L2.toInt = l2) {l3 : Int} {L3 : Int32} (h_l3 : L3.toInt = l3) {l4 : Int} {L4 : Int32} (h_l4 : L4.toInt = l4) {S : iS} {s : fS} (hs : sr S s) : rf rV (j_X5_writeName_100 a1 l2 l3 l4 S) (f_X5_writeName_100 A1 L2 L3 L4 s) := by
  unfold j_X5_writeName_100 f_X5_writeName_100
  exact (rf_some hs)
def j_X5_writeName_72 (a1 : Nat) (r30 : Int → Int → Int → iS → Option iS) (l2 : Int) (l3 : Int) (l4 : Int) (l5 : Int) (S : iS) : Option iS := ((j_X3_add 3 l5 S).bind fun qx1 => (if rg (l4 + (1 : Int)) then (r30 l2 l3 (l4 + (1 : Int)) qx1) else none))
theorem jr_X5_writeName_72 {a1 A1 : Nat} (h_a1 : A1 = a1) {r30 : Int → Int → Int → iS → Option iS} {R30 : Int32 → Int32 → Int32 → fS → Option fS} (h_r30 : ∀ {y0 : Int} {Y0 : Int32} (h_y0 : Y0.toInt = y0) {y1 : Int} {Y1 : Int32} (h_y1 : Y1.toInt = y1) {y2 : Int} {Y2 : Int32} (h_y2 : Y2.toInt = y2) {S : iS} {s : fS} (hs : sr S s), rf rV (r30 y0 y1 y2 S) (R30 Y0 Y1 Y2 s)) {l2 : Int} {L2 : Int32} (h_l2 : L2.toInt = l2) {l3 : Int} {L3 : Int32} (h_l3 : L3.toInt = l3) {l4 : Int} {L4 : Int32} (h_l4 : L4.toInt = l4) {l5 : Int} {L5 : Int32} (h_l5 : L5.toInt = l5) {S : iS} {s : fS} (hs : sr S s) : rf rV (j_X5_writeName_72 a1 r30 l2 l3 l4 l5 S) (f_X5_writeName_72 A1 R30 L2 L3 L4 L5 s) := by
  unfold j_X5_writeName_72 f_X5_writeName_72
  exact (rf_bind (jr_X3_add rfl h_l5 hs) fun qx1 QX1 h_qx1 => (rf_rg fun k1 => (h_r30 h_l2 h_l3 (i_add h_l4 lo_1 k1) h_qx1)))
def j_X5_writeName_63 (a1 : Nat) (r30 : Int → Int → Int → iS → Option iS) (l2 : Int) (l3 : Int) (l4 : Int) (l5 : Int) (S : iS) : Option iS := ((j_X3_add 3 (92 : Int) S).bind fun qx1 => (j_X5_writeName_72 a1 r30 l2 l3 l4 l5 qx1))
theorem jr_X5_writeName_63 {a1 A1 : Nat} (h_a1 : A1 = a1) {r30 : Int → Int → Int → iS → Option iS} {R30 : Int32 → Int32 → Int32 → fS → Option fS} (h_r30 : ∀ {y0 : Int} {Y0 : Int32} (h_y0 : Y0.toInt = y0) {y1 : Int} {Y1 : Int32} (h_y1 : Y1.toInt = y1) {y2 : Int} {Y2 : Int32} (h_y2 : Y2.toInt = y2) {S : iS} {s : fS} (hs : sr S s), rf rV (r30 y0 y1 y2 S) (R30 Y0 Y1 Y2 s)) {l2 : Int} {L2 : Int32} (h_l2 : L2.toInt = l2) {l3 : Int} {L3 : Int32} (h_l3 : L3.toInt = l3) {l4 : Int} {L4 : Int32} (h_l4 : L4.toInt = l4) {l5 : Int} {L5 : Int32} (h_l5 : L5.toInt = l5) {S : iS} {s : fS} (hs : sr S s) : rf rV (j_X5_writeName_63 a1 r30 l2 l3 l4 l5 S) (f_X5_writeName_63 A1 R30 L2 L3 L4 L5 s) := by
  unfold j_X5_writeName_63 f_X5_writeName_63
  exact (rf_bind (jr_X3_add rfl li_92 hs) fun qx1 QX1 h_qx1 => (jr_X5_writeName_72 h_a1 h_r30 h_l2 h_l3 h_l4 h_l5 h_qx1))
def j_X5_writeName_30 (a1 : Nat) : Nat → Int → Int → Int → iS → Option iS
  | 0, _, _, _, _ => none
  | n + 1, l2, l3, l4, S => ((j_X4_lengthOf a1 l2 S).bind fun qx1 => (if qx1.1 ≤ l4 then (if l3 = (0 : Int) then (j_X5_writeName_100 a1 l2 l3 l4 qx1.2) else ((j_X3_add 3 (34 : Int) qx1.2).bind fun qx2 => (j_X5_writeName_100 a1 l2 l3 l4 qx2))) else ((j_X4_signAt a1 l2 l4 qx1.2).bind fun qx3 => (if qx3.1 = (34 : Int) then (j_X5_writeName_63 a1 (fun l2' l3' l4' S' => j_X5_writeName_30 a1 n l2' l3' l4' S') l2 l3 l4 qx3.1 qx3.2) else (if ¬ qx3.1 = (92 : Int) then (j_X5_writeName_72 a1 (fun l2' l3' l4' S' => j_X5_writeName_30 a1 n l2' l3' l4' S') l2 l3 l4 qx3.1 qx3.2) else (j_X5_writeName_63 a1 (fun l2' l3' l4' S' => j_X5_writeName_30 a1 n l2' l3' l4' S') l2 l3 l4 qx3.1 qx3.2))))))
theorem jr_X5_writeName_30 {a1 A1 : Nat} (h_a1 : A1 = a1) (n : Nat) : ∀ {l2 : Int} {L2 : Int32} (h_l2 : L2.toInt = l2) {l3 : Int} {L3 : Int32} (h_l3 : L3.toInt = l3) {l4 : Int} {L4 : Int32} (h_l4 : L4.toInt = l4) {S : iS} {s : fS} (hs : sr S s), rf rV (j_X5_writeName_30 a1 n l2 l3 l4 S) (f_X5_writeName_30 A1 n L2 L3 L4 s) := by
  induction n with
  | zero => intros; exact rf_none
  | succ n ih =>
    intro l2 L2 h_l2 l3 L3 h_l3 l4 L4 h_l4 S s hs
    rw [j_X5_writeName_30, f_X5_writeName_30]
    exact (rf_bind (jr_X4_lengthOf h_a1 h_l2 hs) fun qx1 QX1 h_qx1 => (rf_if (c_le h_qx1.1 h_l4) (rf_if (c_eq h_l3 li_0) (jr_X5_writeName_100 h_a1 h_l2 h_l3 h_l4 h_qx1.2) (rf_bind (jr_X3_add rfl li_34 h_qx1.2) fun qx2 QX2 h_qx2 => (jr_X5_writeName_100 h_a1 h_l2 h_l3 h_l4 h_qx2))) (rf_bind (jr_X4_signAt h_a1 h_l2 h_l4 h_qx1.2) fun qx3 QX3 h_qx3 => (rf_if (c_eq h_qx3.1 li_34) (jr_X5_writeName_63 h_a1 (@fun _ _ h_l2' _ _ h_l3' _ _ h_l4' _ _ hs' => (ih h_l2' h_l3' h_l4' hs')) h_l2 h_l3 h_l4 h_qx3.1 h_qx3.2) (rf_if (c_not (c_eq h_qx3.1 li_92)) (jr_X5_writeName_72 h_a1 (@fun _ _ h_l2' _ _ h_l3' _ _ h_l4' _ _ hs' => (ih h_l2' h_l3' h_l4' hs')) h_l2 h_l3 h_l4 h_qx3.1 h_qx3.2) (jr_X5_writeName_63 h_a1 (@fun _ _ h_l2' _ _ h_l3' _ _ h_l4' _ _ hs' => (ih h_l2' h_l3' h_l4' hs')) h_l2 h_l3 h_l4 h_qx3.1 h_qx3.2))))))
def j_X5_writeName_27 (a1 : Nat) (l2 : Int) (l3 : Int) (S : iS) : Option iS := (j_X5_writeName_30 a1 fuel l2 l3 (0 : Int) S)
theorem jr_X5_writeName_27 {a1 A1 : Nat} (h_a1 : A1 = a1) {l2 : Int} {L2 : Int32} (h_l2 : L2.toInt = l2) {l3 : Int} {L3 : Int32} (h_l3 : L3.toInt = l3) {S : iS} {s : fS} (hs : sr S s) : rf rV (j_X5_writeName_27 a1 l2 l3 S) (f_X5_writeName_27 A1 L2 L3 s) := by
  unfold j_X5_writeName_27 f_X5_writeName_27
  exact (jr_X5_writeName_30 h_a1 fuel h_l2 h_l3 li_0 hs)
def j_X5_writeName_13 (a1 : Nat) (l2 : Int) (t0 : Int) (S : iS) : Option iS := (if t0 = (0 : Int) then (j_X5_writeName_27 a1 l2 t0 S) else ((j_X3_add 3 (34 : Int) S).bind fun qx1 => (j_X5_writeName_27 a1 l2 t0 qx1)))
theorem jr_X5_writeName_13 {a1 A1 : Nat} (h_a1 : A1 = a1) {l2 : Int} {L2 : Int32} (h_l2 : L2.toInt = l2) {t0 : Int} {T0 : Int32} (h_t0 : T0.toInt = t0) {S : iS} {s : fS} (hs : sr S s) : rf rV (j_X5_writeName_13 a1 l2 t0 S) (f_X5_writeName_13 A1 L2 T0 s) := by
  unfold j_X5_writeName_13 f_X5_writeName_13
  exact (rf_if (c_eq h_t0 li_0) (jr_X5_writeName_27 h_a1 h_l2 h_t0 hs) (rf_bind (jr_X3_add rfl li_34 hs) fun qx1 QX1 h_qx1 => (jr_X5_writeName_27 h_a1 h_l2 h_t0 h_qx1)))
def j_X5_writeName_0 (a1 : Nat) (l2 : Int) (S : iS) : Option iS := ((j_X4_isPlainName a1 l2 S).bind fun qx1 => (if ¬ qx1.1 = (0 : Int) then (j_X5_writeName_13 a1 l2 (0 : Int) qx1.2) else (j_X5_writeName_13 a1 l2 (1 : Int) qx1.2)))
theorem jr_X5_writeName_0 {a1 A1 : Nat} (h_a1 : A1 = a1) {l2 : Int} {L2 : Int32} (h_l2 : L2.toInt = l2) {S : iS} {s : fS} (hs : sr S s) : rf rV (j_X5_writeName_0 a1 l2 S) (f_X5_writeName_0 A1 L2 s) := by
  unfold j_X5_writeName_0 f_X5_writeName_0
  exact (rf_bind (jr_X4_isPlainName h_a1 h_l2 hs) fun qx1 QX1 h_qx1 => (rf_if (c_not (c_eq h_qx1.1 li_0)) (jr_X5_writeName_13 h_a1 h_l2 li_0 h_qx1.2) (jr_X5_writeName_13 h_a1 h_l2 li_1 h_qx1.2)))
def j_X5_writeName (a1 : Nat) (l2 : Int) (S : iS) : Option iS := (j_X5_writeName_0 a1 l2 S)
theorem jr_X5_writeName {a1 A1 : Nat} (h_a1 : A1 = a1) {l2 : Int} {L2 : Int32} (h_l2 : L2.toInt = l2) {S : iS} {s : fS} (hs : sr S s) : rf rV (j_X5_writeName a1 l2 S) (f_X5_writeName A1 L2 s) := by
  unfold j_X5_writeName f_X5_writeName
  exact (jr_X5_writeName_0 h_a1 h_l2 hs)
def j_X5_writeHead_0 (b1 : Bool) (l2 : Int) (S : iS) : Option iS := ((j_X3_add 3 (37 : Int) S).bind fun qx1 => ((j_X3_add 3 (32 : Int) qx1).bind fun qx2 => ((j_X5_writeName ((gadr b1) + 8) l2 qx2).bind fun qx3 => ((j_X3_add 3 (32 : Int) qx3).bind fun qx4 => ((j_X3_at ((gadr b1) + 18) l2 qx4).bind fun qx5 => ((j_X5_letterOfKind qx5.1 qx5.2).bind fun qx6 => ((j_X3_add 3 qx6.1 qx6.2).bind fun qx7 => (some qx7))))))))
theorem jr_X5_writeHead_0 {b1 B1 : Bool} (h_b1 : B1 = b1) {l2 : Int} {L2 : Int32} (h_l2 : L2.toInt = l2) {S : iS} {s : fS} (hs : sr S s) : rf rV (j_X5_writeHead_0 b1 l2 S) (f_X5_writeHead_0 B1 L2 s) := by
  unfold j_X5_writeHead_0 f_X5_writeHead_0
  exact (rf_bind (jr_X3_add rfl li_37 hs) fun qx1 QX1 h_qx1 => (rf_bind (jr_X3_add rfl li_32 h_qx1) fun qx2 QX2 h_qx2 => (rf_bind (jr_X5_writeName (e_add (e_gad h_b1)) h_l2 h_qx2) fun qx3 QX3 h_qx3 => (rf_bind (jr_X3_add rfl li_32 h_qx3) fun qx4 QX4 h_qx4 => (rf_bind (jr_X3_at (e_add (e_gad h_b1)) h_l2 h_qx4) fun qx5 QX5 h_qx5 => (rf_bind (jr_X5_letterOfKind h_qx5.1 h_qx5.2) fun qx6 QX6 h_qx6 => (rf_bind (jr_X3_add rfl h_qx6.1 h_qx6.2) fun qx7 QX7 h_qx7 => (rf_some h_qx7))))))))
def j_X5_writeHead (b1 : Bool) (l2 : Int) (S : iS) : Option iS := (j_X5_writeHead_0 b1 l2 S)
theorem jr_X5_writeHead {b1 B1 : Bool} (h_b1 : B1 = b1) {l2 : Int} {L2 : Int32} (h_l2 : L2.toInt = l2) {S : iS} {s : fS} (hs : sr S s) : rf rV (j_X5_writeHead b1 l2 S) (f_X5_writeHead B1 L2 s) := by
  unfold j_X5_writeHead f_X5_writeHead
  exact (jr_X5_writeHead_0 h_b1 h_l2 hs)
def j_X5_writeThousandths_93 (l1 : Int) (l2 : Int) (l3 : Int) (l4 : Int) (S : iS) : Option iS := (some S)
theorem jr_X5_writeThousandths_93 {l1 : Int} {L1 : Int32} (h_l1 : L1.toInt = l1) {l2 : Int} {L2 : Int32} (h_l2 : L2.toInt = l2) {l3 : Int} {L3 : Int32} (h_l3 : L3.toInt = l3) {l4 : Int} {L4 : Int32} (h_l4 : L4.toInt = l4) {S : iS} {s : fS} (hs : sr S s) : rf rV (j_X5_writeThousandths_93 l1 l2 l3 l4 S) (f_X5_writeThousandths_93 L1 L2 L3 L4 s) := by
  unfold j_X5_writeThousandths_93 f_X5_writeThousandths_93
  exact (rf_some hs)
def j_X5_writeThousandths_55  : Nat → Int → Int → Int → Int → iS → Option iS
  | 0, _, _, _, _, _ => none
  | n + 1, l1, l2, l3, l4, S => (if (3 : Int) ≤ l4 then (j_X5_writeThousandths_93 l1 l2 l3 l4 S) else (if l3 ≤ (0 : Int) then (j_X5_writeThousandths_93 l1 l2 l3 l4 S) else (if (0 ≤ l3 ∧ 0 < (100 : Int)) then (if rg ((48 : Int) + (l3 / (100 : Int))) then ((j_X3_add 3 ((48 : Int) + (l3 / (100 : Int))) S).bind fun qx1 => (if rg ((l3 % (100 : Int)) * (10 : Int)) then (if rg (l4 + (1 : Int)) then (j_X5_writeThousandths_55 n l1 l2 ((l3 % (100 : Int)) * (10 : Int)) (l4 + (1 : Int)) qx1) else none) else none)) else none) else none)))
theorem jr_X5_writeThousandths_55  (n : Nat) : ∀ {l1 : Int} {L1 : Int32} (h_l1 : L1.toInt = l1) {l2 : Int} {L2 : Int32} (h_l2 : L2.toInt = l2) {l3 : Int} {L3 : Int32} (h_l3 : L3.toInt = l3) {l4 : Int} {L4 : Int32} (h_l4 : L4.toInt = l4) {S : iS} {s : fS} (hs : sr S s), rf rV (j_X5_writeThousandths_55 n l1 l2 l3 l4 S) (f_X5_writeThousandths_55 n L1 L2 L3 L4 s) := by
  induction n with
  | zero => intros; exact rf_none
  | succ n ih =>
    intro l1 L1 h_l1 l2 L2 h_l2 l3 L3 h_l3 l4 L4 h_l4 S s hs
    rw [j_X5_writeThousandths_55, f_X5_writeThousandths_55]
    exact (rf_if (c_le li_3 h_l4) (jr_X5_writeThousandths_93 h_l1 h_l2 h_l3 h_l4 hs) (rf_if (c_le h_l3 li_0) (jr_X5_writeThousandths_93 h_l1 h_l2 h_l3 h_l4 hs) (rf_rg fun k1 => (rf_rg fun k2 => (rf_bind (jr_X3_add rfl (i_add li_48 (i_div h_l3 li_100 k1) k2) hs) fun qx1 QX1 h_qx1 => (rf_rg fun k3 => (rf_rg fun k4 => (ih h_l1 h_l2 (i_mul (i_rem h_l3 li_100 k1) li_10 k3) (i_add h_l4 lo_1 k4) h_qx1))))))))
def j_X5_writeThousandths_52 (l1 : Int) (l2 : Int) (l3 : Int) (S : iS) : Option iS := (j_X5_writeThousandths_55 fuel l1 l2 l3 (0 : Int) S)
theorem jr_X5_writeThousandths_52 {l1 : Int} {L1 : Int32} (h_l1 : L1.toInt = l1) {l2 : Int} {L2 : Int32} (h_l2 : L2.toInt = l2) {l3 : Int} {L3 : Int32} (h_l3 : L3.toInt = l3) {S : iS} {s : fS} (hs : sr S s) : rf rV (j_X5_writeThousandths_52 l1 l2 l3 S) (f_X5_writeThousandths_52 L1 L2 L3 s) := by
  unfold j_X5_writeThousandths_52 f_X5_writeThousandths_52
  exact (jr_X5_writeThousandths_55 fuel h_l1 h_l2 h_l3 li_0 hs)
def j_X5_writeThousandths_24 (l1 : Int) (l2 : Int) (S : iS) : Option iS := (if (0 ≤ l2 ∧ 0 < (1000 : Int)) then ((j_X5_writeWhole (l2 / (1000 : Int)) S).bind fun qx1 => (if (l2 % (1000 : Int)) ≤ (0 : Int) then (j_X5_writeThousandths_52 l1 l2 (l2 % (1000 : Int)) qx1) else ((j_X3_add 3 (46 : Int) qx1).bind fun qx2 => (j_X5_writeThousandths_52 l1 l2 (l2 % (1000 : Int)) qx2)))) else none)
theorem jr_X5_writeThousandths_24 {l1 : Int} {L1 : Int32} (h_l1 : L1.toInt = l1) {l2 : Int} {L2 : Int32} (h_l2 : L2.toInt = l2) {S : iS} {s : fS} (hs : sr S s) : rf rV (j_X5_writeThousandths_24 l1 l2 S) (f_X5_writeThousandths_24 L1 L2 s) := by
  unfold j_X5_writeThousandths_24 f_X5_writeThousandths_24
  exact (rf_rg fun k1 => (rf_bind (jr_X5_writeWhole (i_div h_l2 li_1000 k1) hs) fun qx1 QX1 h_qx1 => (rf_if (c_le (i_rem h_l2 li_1000 k1) li_0) (jr_X5_writeThousandths_52 h_l1 h_l2 (i_rem h_l2 li_1000 k1) h_qx1) (rf_bind (jr_X3_add rfl li_46 h_qx1) fun qx2 QX2 h_qx2 => (jr_X5_writeThousandths_52 h_l1 h_l2 (i_rem h_l2 li_1000 k1) h_qx2)))))
def j_X5_writeThousandths_10 (l1 : Int) (t0 : Int) (S : iS) : Option iS := (if (0 : Int) ≤ l1 then (j_X5_writeThousandths_24 l1 t0 S) else ((j_X3_add 3 (45 : Int) S).bind fun qx1 => (j_X5_writeThousandths_24 l1 t0 qx1)))
theorem jr_X5_writeThousandths_10 {l1 : Int} {L1 : Int32} (h_l1 : L1.toInt = l1) {t0 : Int} {T0 : Int32} (h_t0 : T0.toInt = t0) {S : iS} {s : fS} (hs : sr S s) : rf rV (j_X5_writeThousandths_10 l1 t0 S) (f_X5_writeThousandths_10 L1 T0 s) := by
  unfold j_X5_writeThousandths_10 f_X5_writeThousandths_10
  exact (rf_if (c_le li_0 h_l1) (jr_X5_writeThousandths_24 h_l1 h_t0 hs) (rf_bind (jr_X3_add rfl li_45 hs) fun qx1 QX1 h_qx1 => (jr_X5_writeThousandths_24 h_l1 h_t0 h_qx1)))
def j_X5_writeThousandths_0 (l1 : Int) (S : iS) : Option iS := (if (0 : Int) ≤ l1 then (j_X5_writeThousandths_10 l1 l1 S) else (if rg (-l1) then (j_X5_writeThousandths_10 l1 (-l1) S) else none))
theorem jr_X5_writeThousandths_0 {l1 : Int} {L1 : Int32} (h_l1 : L1.toInt = l1) {S : iS} {s : fS} (hs : sr S s) : rf rV (j_X5_writeThousandths_0 l1 S) (f_X5_writeThousandths_0 L1 s) := by
  unfold j_X5_writeThousandths_0 f_X5_writeThousandths_0
  exact (rf_if (c_le li_0 h_l1) (jr_X5_writeThousandths_10 h_l1 h_l1 hs) (rf_rg fun k1 => (jr_X5_writeThousandths_10 h_l1 (i_neg h_l1 k1) hs)))
def j_X5_writeThousandths (l1 : Int) (S : iS) : Option iS := (j_X5_writeThousandths_0 l1 S)
theorem jr_X5_writeThousandths {l1 : Int} {L1 : Int32} (h_l1 : L1.toInt = l1) {S : iS} {s : fS} (hs : sr S s) : rf rV (j_X5_writeThousandths l1 S) (f_X5_writeThousandths L1 s) := by
  unfold j_X5_writeThousandths f_X5_writeThousandths
  exact (jr_X5_writeThousandths_0 h_l1 hs)
def j_X5_writeValue_52 (b1 : Bool) (l2 : Int) (l3 : Int) (S : iS) : Option iS := (some S)
theorem jr_X5_writeValue_52 {b1 B1 : Bool} (h_b1 : B1 = b1) {l2 : Int} {L2 : Int32} (h_l2 : L2.toInt = l2) {l3 : Int} {L3 : Int32} (h_l3 : L3.toInt = l3) {S : iS} {s : fS} (hs : sr S s) : rf rV (j_X5_writeValue_52 b1 l2 l3 S) (f_X5_writeValue_52 B1 L2 L3 s) := by
  unfold j_X5_writeValue_52 f_X5_writeValue_52
  exact (rf_some hs)
def j_X5_writeValue_0 (b1 : Bool) (l2 : Int) (l3 : Int) (S : iS) : Option iS := ((j_X3_at ((gadr b1) + 31) l2 S).bind fun qx1 => (if ¬ qx1.1 = (0 : Int) then (if ¬ l3 = (2 : Int) then ((j_X3_at ((gadr b1) + 33) l2 qx1.2).bind fun qx2 => ((j_X5_writeThousandths qx2.1 qx2.2).bind fun qx3 => (j_X5_writeValue_52 b1 l2 l3 qx3))) else ((j_X5_writeName ((gadr b1) + 26) l2 qx1.2).bind fun qx4 => (j_X5_writeValue_52 b1 l2 l3 qx4))) else ((j_X3_add 3 (45 : Int) qx1.2).bind fun qx5 => (j_X5_writeValue_52 b1 l2 l3 qx5))))
theorem jr_X5_writeValue_0 {b1 B1 : Bool} (h_b1 : B1 = b1) {l2 : Int} {L2 : Int32} (h_l2 : L2.toInt = l2) {l3 : Int} {L3 : Int32} (h_l3 : L3.toInt = l3) {S : iS} {s : fS} (hs : sr S s) : rf rV (j_X5_writeValue_0 b1 l2 l3 S) (f_X5_writeValue_0 B1 L2 L3 s) := by
  unfold j_X5_writeValue_0 f_X5_writeValue_0
  exact (rf_bind (jr_X3_at (e_add (e_gad h_b1)) h_l2 hs) fun qx1 QX1 h_qx1 => (rf_if (c_not (c_eq h_qx1.1 li_0)) (rf_if (c_not (c_eq h_l3 li_2)) (rf_bind (jr_X3_at (e_add (e_gad h_b1)) h_l2 h_qx1.2) fun qx2 QX2 h_qx2 => (rf_bind (jr_X5_writeThousandths h_qx2.1 h_qx2.2) fun qx3 QX3 h_qx3 => (jr_X5_writeValue_52 h_b1 h_l2 h_l3 h_qx3))) (rf_bind (jr_X5_writeName (e_add (e_gad h_b1)) h_l2 h_qx1.2) fun qx4 QX4 h_qx4 => (jr_X5_writeValue_52 h_b1 h_l2 h_l3 h_qx4))) (rf_bind (jr_X3_add rfl li_45 h_qx1.2) fun qx5 QX5 h_qx5 => (jr_X5_writeValue_52 h_b1 h_l2 h_l3 h_qx5))))
def j_X5_writeValue (b1 : Bool) (l2 : Int) (l3 : Int) (S : iS) : Option iS := (j_X5_writeValue_0 b1 l2 l3 S)
theorem jr_X5_writeValue {b1 B1 : Bool} (h_b1 : B1 = b1) {l2 : Int} {L2 : Int32} (h_l2 : L2.toInt = l2) {l3 : Int} {L3 : Int32} (h_l3 : L3.toInt = l3) {S : iS} {s : fS} (hs : sr S s) : rf rV (j_X5_writeValue b1 l2 l3 S) (f_X5_writeValue B1 L2 L3 s) := by
  unfold j_X5_writeValue f_X5_writeValue
  exact (jr_X5_writeValue_0 h_b1 h_l2 h_l3 hs)
def j_X5_writeArc_43 (b1 : Bool) : Nat → Int → Int → iS → Option iS
  | 0, _, _, _ => none
  | n + 1, l2, l3, S => (if (jI S ((gadr b1) + 18) 1) ≤ l3 then (some S) else ((j_X3_add 3 (32 : Int) S).bind fun qx1 => ((j_X1_roomOf b1 l2 l3 qx1).bind fun qx2 => ((j_X3_at ((gadr b1) + 18) l3 qx2.2).bind fun qx3 => ((j_X5_writeValue b1 qx2.1 qx3.1 qx3.2).bind fun qx4 => (if rg (l3 + (1 : Int)) then (j_X5_writeArc_43 b1 n l2 (l3 + (1 : Int)) qx4) else none))))))
theorem jr_X5_writeArc_43 {b1 B1 : Bool} (h_b1 : B1 = b1) (n : Nat) : ∀ {l2 : Int} {L2 : Int32} (h_l2 : L2.toInt = l2) {l3 : Int} {L3 : Int32} (h_l3 : L3.toInt = l3) {S : iS} {s : fS} (hs : sr S s), rf rV (j_X5_writeArc_43 b1 n l2 l3 S) (f_X5_writeArc_43 B1 n L2 L3 s) := by
  induction n with
  | zero => intros; exact rf_none
  | succ n ih =>
    intro l2 L2 h_l2 l3 L3 h_l3 S s hs
    rw [j_X5_writeArc_43, f_X5_writeArc_43]
    exact (rf_if (c_le (sr_gI hs (e_add (e_gad h_b1))) h_l3) (rf_some hs) (rf_bind (jr_X3_add rfl li_32 hs) fun qx1 QX1 h_qx1 => (rf_bind (jr_X1_roomOf h_b1 h_l2 h_l3 h_qx1) fun qx2 QX2 h_qx2 => (rf_bind (jr_X3_at (e_add (e_gad h_b1)) h_l3 h_qx2.2) fun qx3 QX3 h_qx3 => (rf_bind (jr_X5_writeValue h_b1 h_qx2.1 h_qx3.1 h_qx3.2) fun qx4 QX4 h_qx4 => (rf_rg fun k1 => (ih h_l2 (i_add h_l3 lo_1 k1) h_qx4)))))))
def j_X5_writeArc_0 (b1 : Bool) (l2 : Int) (S : iS) : Option iS := ((j_X3_at ((gadr b1) + 20) l2 S).bind fun qx1 => ((j_X5_writeName ((gadr b1) + 3) qx1.1 qx1.2).bind fun qx2 => ((j_X3_add 3 (32 : Int) qx2).bind fun qx3 => ((j_X3_at ((gadr b1) + 22) l2 qx3).bind fun qx4 => ((j_X5_writeName ((gadr b1) + 3) qx4.1 qx4.2).bind fun qx5 => (j_X5_writeArc_43 b1 fuel l2 (0 : Int) qx5))))))
theorem jr_X5_writeArc_0 {b1 B1 : Bool} (h_b1 : B1 = b1) {l2 : Int} {L2 : Int32} (h_l2 : L2.toInt = l2) {S : iS} {s : fS} (hs : sr S s) : rf rV (j_X5_writeArc_0 b1 l2 S) (f_X5_writeArc_0 B1 L2 s) := by
  unfold j_X5_writeArc_0 f_X5_writeArc_0
  exact (rf_bind (jr_X3_at (e_add (e_gad h_b1)) h_l2 hs) fun qx1 QX1 h_qx1 => (rf_bind (jr_X5_writeName (e_add (e_gad h_b1)) h_qx1.1 h_qx1.2) fun qx2 QX2 h_qx2 => (rf_bind (jr_X3_add rfl li_32 h_qx2) fun qx3 QX3 h_qx3 => (rf_bind (jr_X3_at (e_add (e_gad h_b1)) h_l2 h_qx3) fun qx4 QX4 h_qx4 => (rf_bind (jr_X5_writeName (e_add (e_gad h_b1)) h_qx4.1 h_qx4.2) fun qx5 QX5 h_qx5 => (jr_X5_writeArc_43 h_b1 fuel h_l2 li_0 h_qx5))))))
def j_X5_writeArc (b1 : Bool) (l2 : Int) (S : iS) : Option iS := (j_X5_writeArc_0 b1 l2 S)
theorem jr_X5_writeArc {b1 B1 : Bool} (h_b1 : B1 = b1) {l2 : Int} {L2 : Int32} (h_l2 : L2.toInt = l2) {S : iS} {s : fS} (hs : sr S s) : rf rV (j_X5_writeArc b1 l2 S) (f_X5_writeArc B1 L2 s) := by
  unfold j_X5_writeArc f_X5_writeArc
  exact (jr_X5_writeArc_0 h_b1 h_l2 hs)
def j_X5_writeGraph_106 (b1 : Bool) (r17 : Int → Int → Int → Int → iS → Option iS) (l2 : Int) (l3 : Int) (l4 : Int) (l5 : Int) (S : iS) : Option iS := ((j_X3_add 3 (10 : Int) S).bind fun qx1 => (if rg (l5 + (1 : Int)) then (r17 l2 l3 l4 (l5 + (1 : Int)) qx1) else none))
theorem jr_X5_writeGraph_106 {b1 B1 : Bool} (h_b1 : B1 = b1) {r17 : Int → Int → Int → Int → iS → Option iS} {R17 : Int32 → Int32 → Int32 → Int32 → fS → Option fS} (h_r17 : ∀ {y0 : Int} {Y0 : Int32} (h_y0 : Y0.toInt = y0) {y1 : Int} {Y1 : Int32} (h_y1 : Y1.toInt = y1) {y2 : Int} {Y2 : Int32} (h_y2 : Y2.toInt = y2) {y3 : Int} {Y3 : Int32} (h_y3 : Y3.toInt = y3) {S : iS} {s : fS} (hs : sr S s), rf rV (r17 y0 y1 y2 y3 S) (R17 Y0 Y1 Y2 Y3 s)) {l2 : Int} {L2 : Int32} (h_l2 : L2.toInt = l2) {l3 : Int} {L3 : Int32} (h_l3 : L3.toInt = l3) {l4 : Int} {L4 : Int32} (h_l4 : L4.toInt = l4) {l5 : Int} {L5 : Int32} (h_l5 : L5.toInt = l5) {S : iS} {s : fS} (hs : sr S s) : rf rV (j_X5_writeGraph_106 b1 r17 l2 l3 l4 l5 S) (f_X5_writeGraph_106 B1 R17 L2 L3 L4 L5 s) := by
  unfold j_X5_writeGraph_106 f_X5_writeGraph_106
  exact (rf_bind (jr_X3_add rfl li_10 hs) fun qx1 QX1 h_qx1 => (rf_rg fun k1 => (h_r17 h_l2 h_l3 h_l4 (i_add h_l5 lo_1 k1) h_qx1)))
def j_X5_writeGraph_17 (b1 : Bool) : Nat → Int → Int → Int → Int → iS → Option iS
  | 0, _, _, _, _, _ => none
  | n + 1, l2, l3, l4, l5, S => (if (jI S ((gadr b1) + 35) 1) ≤ l5 then (some S) else ((j_X3_at ((gadr b1) + 35) l5 S).bind fun qx1 => (if qx1.1 = (0 : Int) then ((j_X5_writeComment b1 l2 qx1.2).bind fun qx2 => (if rg (l2 + (1 : Int)) then (j_X5_writeGraph_106 b1 (fun l2' l3' l4' l5' S' => j_X5_writeGraph_17 b1 n l2' l3' l4' l5' S') (l2 + (1 : Int)) l3 l4 l5 qx2) else none)) else (if qx1.1 = (1 : Int) then ((j_X5_writeCount b1 qx1.2).bind fun qx3 => (j_X5_writeGraph_106 b1 (fun l2' l3' l4' l5' S' => j_X5_writeGraph_17 b1 n l2' l3' l4' l5' S') l2 l3 l4 l5 qx3)) else (if qx1.1 = (2 : Int) then ((j_X5_writeHead b1 l3 qx1.2).bind fun qx4 => (if rg (l3 + (1 : Int)) then (j_X5_writeGraph_106 b1 (fun l2' l3' l4' l5' S' => j_X5_writeGraph_17 b1 n l2' l3' l4' l5' S') l2 (l3 + (1 : Int)) l4 l5 qx4) else none)) else ((j_X5_writeArc b1 l4 qx1.2).bind fun qx5 => (if rg (l4 + (1 : Int)) then (j_X5_writeGraph_106 b1 (fun l2' l3' l4' l5' S' => j_X5_writeGraph_17 b1 n l2' l3' l4' l5' S') l2 l3 (l4 + (1 : Int)) l5 qx5) else none)))))))
theorem jr_X5_writeGraph_17 {b1 B1 : Bool} (h_b1 : B1 = b1) (n : Nat) : ∀ {l2 : Int} {L2 : Int32} (h_l2 : L2.toInt = l2) {l3 : Int} {L3 : Int32} (h_l3 : L3.toInt = l3) {l4 : Int} {L4 : Int32} (h_l4 : L4.toInt = l4) {l5 : Int} {L5 : Int32} (h_l5 : L5.toInt = l5) {S : iS} {s : fS} (hs : sr S s), rf rV (j_X5_writeGraph_17 b1 n l2 l3 l4 l5 S) (f_X5_writeGraph_17 B1 n L2 L3 L4 L5 s) := by
  induction n with
  | zero => intros; exact rf_none
  | succ n ih =>
    intro l2 L2 h_l2 l3 L3 h_l3 l4 L4 h_l4 l5 L5 h_l5 S s hs
    rw [j_X5_writeGraph_17, f_X5_writeGraph_17]
    exact (rf_if (c_le (sr_gI hs (e_add (e_gad h_b1))) h_l5) (rf_some hs) (rf_bind (jr_X3_at (e_add (e_gad h_b1)) h_l5 hs) fun qx1 QX1 h_qx1 => (rf_if (c_ti h_qx1.1) (rf_bind (jr_X5_writeComment h_b1 h_l2 h_qx1.2) fun qx2 QX2 h_qx2 => (rf_rg fun k1 => (jr_X5_writeGraph_106 h_b1 (@fun _ _ h_l2' _ _ h_l3' _ _ h_l4' _ _ h_l5' _ _ hs' => (ih h_l2' h_l3' h_l4' h_l5' hs')) (i_add h_l2 lo_1 k1) h_l3 h_l4 h_l5 h_qx2))) (rf_if (c_ti h_qx1.1) (rf_bind (jr_X5_writeCount h_b1 h_qx1.2) fun qx3 QX3 h_qx3 => (jr_X5_writeGraph_106 h_b1 (@fun _ _ h_l2' _ _ h_l3' _ _ h_l4' _ _ h_l5' _ _ hs' => (ih h_l2' h_l3' h_l4' h_l5' hs')) h_l2 h_l3 h_l4 h_l5 h_qx3)) (rf_if (c_ti h_qx1.1) (rf_bind (jr_X5_writeHead h_b1 h_l3 h_qx1.2) fun qx4 QX4 h_qx4 => (rf_rg fun k2 => (jr_X5_writeGraph_106 h_b1 (@fun _ _ h_l2' _ _ h_l3' _ _ h_l4' _ _ h_l5' _ _ hs' => (ih h_l2' h_l3' h_l4' h_l5' hs')) h_l2 (i_add h_l3 lo_1 k2) h_l4 h_l5 h_qx4))) (rf_bind (jr_X5_writeArc h_b1 h_l4 h_qx1.2) fun qx5 QX5 h_qx5 => (rf_rg fun k3 => (jr_X5_writeGraph_106 h_b1 (@fun _ _ h_l2' _ _ h_l3' _ _ h_l4' _ _ h_l5' _ _ hs' => (ih h_l2' h_l3' h_l4' h_l5' hs')) h_l2 h_l3 (i_add h_l4 lo_1 k3) h_l5 h_qx5))))))))
def j_X5_writeGraph_0 (b1 : Bool) (S : iS) : Option iS := ((j_X3_clear 3 S).bind fun qx1 => (j_X5_writeGraph_17 b1 fuel (0 : Int) (0 : Int) (0 : Int) (0 : Int) qx1))
theorem jr_X5_writeGraph_0 {b1 B1 : Bool} (h_b1 : B1 = b1) {S : iS} {s : fS} (hs : sr S s) : rf rV (j_X5_writeGraph_0 b1 S) (f_X5_writeGraph_0 B1 s) := by
  unfold j_X5_writeGraph_0 f_X5_writeGraph_0
  exact (rf_bind (jr_X3_clear rfl hs) fun qx1 QX1 h_qx1 => (jr_X5_writeGraph_17 h_b1 fuel li_0 li_0 li_0 li_0 h_qx1))
def j_X5_writeGraph (b1 : Bool) (S : iS) : Option iS := (j_X5_writeGraph_0 b1 S)
theorem jr_X5_writeGraph {b1 B1 : Bool} (h_b1 : B1 = b1) {S : iS} {s : fS} (hs : sr S s) : rf rV (j_X5_writeGraph b1 S) (f_X5_writeGraph B1 s) := by
  unfold j_X5_writeGraph f_X5_writeGraph
  exact (jr_X5_writeGraph_0 h_b1 hs)
def j_X6_feed_11 (l1 : Int) (j2 : Int64) (S : iS) : Option (Int × iS) := (some ((-102 : Int), S))
theorem jr_X6_feed_11 {l1 : Int} {L1 : Int32} (h_l1 : L1.toInt = l1) {j2 J2 : Int64} (h_j2 : J2 = j2) {S : iS} {s : fS} (hs : sr S s) : rf rI (j_X6_feed_11 l1 j2 S) (f_X6_feed_11 L1 J2 s) := by
  unfold j_X6_feed_11 f_X6_feed_11
  exact (rf_some ⟨li_m102, hs⟩)
def j_X6_feed_37  : Nat → Int → Int64 → Int → iS → Option (Int × iS)
  | 0, _, _, _, _ => none
  | n + 1, l1, j2, l4, S => (if l4 < (0 : Int) then (some ((jI S 1 1), S)) else ((j_X3_add 1 (byC j2 l4) S).bind fun qx1 => (if rg (l4 + (-1 : Int)) then (j_X6_feed_37 n l1 j2 (l4 + (-1 : Int)) qx1) else none)))
theorem jr_X6_feed_37  (n : Nat) : ∀ {l1 : Int} {L1 : Int32} (h_l1 : L1.toInt = l1) {j2 J2 : Int64} (h_j2 : J2 = j2) {l4 : Int} {L4 : Int32} (h_l4 : L4.toInt = l4) {S : iS} {s : fS} (hs : sr S s), rf rI (j_X6_feed_37 n l1 j2 l4 S) (f_X6_feed_37 n L1 J2 L4 s) := by
  induction n with
  | zero => intros; exact rf_none
  | succ n ih =>
    intro l1 L1 h_l1 j2 J2 h_j2 l4 L4 h_l4 S s hs
    rw [j_X6_feed_37, f_X6_feed_37]
    exact (rf_if (c_lt h_l4 li_0) (rf_some ⟨(sr_gI hs rfl), hs⟩) (rf_bind (jr_X3_add rfl (i_byC h_j2 h_l4) hs) fun qx1 QX1 h_qx1 => (rf_rg fun k1 => (ih h_l1 h_j2 (i_add h_l4 lo_m1 k1) h_qx1))))
def j_X6_feed_0 (l1 : Int) (j2 : Int64) (S : iS) : Option (Int × iS) := (if l1 < (1 : Int) then (j_X6_feed_11 l1 j2 S) else (if l1 ≤ (8 : Int) then (if rg ((jI S 1 1) + l1) then (if ((jI S 1 1) + l1) ≤ (600 : Int) then (if rg (l1 - (1 : Int)) then (j_X6_feed_37 fuel l1 j2 (l1 - (1 : Int)) S) else none) else (some ((-104 : Int), S))) else none) else (j_X6_feed_11 l1 j2 S)))
theorem jr_X6_feed_0 {l1 : Int} {L1 : Int32} (h_l1 : L1.toInt = l1) {j2 J2 : Int64} (h_j2 : J2 = j2) {S : iS} {s : fS} (hs : sr S s) : rf rI (j_X6_feed_0 l1 j2 S) (f_X6_feed_0 L1 J2 s) := by
  unfold j_X6_feed_0 f_X6_feed_0
  exact (rf_if (c_lt h_l1 li_1) (jr_X6_feed_11 h_l1 h_j2 hs) (rf_if (c_le h_l1 li_8) (rf_rg fun k1 => (rf_if (c_le (i_add (sr_gI hs rfl) h_l1 k1) li_600) (rf_rg fun k2 => (jr_X6_feed_37 fuel h_l1 h_j2 (i_sub h_l1 li_1 k2) hs)) (rf_some ⟨li_m104, hs⟩))) (jr_X6_feed_11 h_l1 h_j2 hs)))
def j_X6_feed (l1 : Int) (j2 : Int64) (S : iS) : Option (Int × iS) := (j_X6_feed_0 l1 j2 S)
theorem jr_X6_feed {l1 : Int} {L1 : Int32} (h_l1 : L1.toInt = l1) {j2 J2 : Int64} (h_j2 : J2 = j2) {S : iS} {s : fS} (hs : sr S s) : rf rI (j_X6_feed l1 j2 S) (f_X6_feed L1 J2 s) := by
  unfold j_X6_feed f_X6_feed
  exact (jr_X6_feed_0 h_l1 h_j2 hs)
def j_X6_read_0 (S : iS) : Option (Int × iS) := ((j_X2_readText (jP1 S) (jI S 0 7) S).bind fun qx1 => ((j_X3_clear 1 qx1.2).bind fun qx2 => (if ¬ qx1.1 = (0 : Int) then ((j_X1_arcCount (jP1 qx2) (kI (kP1 (kP0 qx2 (jP1 qx2)) (jP0 qx2)) 0 6 (1 : Int))).bind fun qx3 => (some (qx3.1, qx3.2))) else (if rg ((-10 : Int) - (jI qx2 81 5)) then (some (((-10 : Int) - (jI qx2 81 5)), qx2)) else none))))
theorem jr_X6_read_0 {S : iS} {s : fS} (hs : sr S s) : rf rI (j_X6_read_0 S) (f_X6_read_0 s) := by
  unfold j_X6_read_0 f_X6_read_0
  exact (rf_bind (jr_X2_readText (sr_gP1 hs) (sr_gI hs rfl) hs) fun qx1 QX1 h_qx1 => (rf_bind (jr_X3_clear rfl h_qx1.2) fun qx2 QX2 h_qx2 => (rf_if (c_not (c_eq h_qx1.1 li_0)) (rf_bind (jr_X1_arcCount (sr_gP1 h_qx2) (sr_I (sr_P1 (sr_P0 h_qx2 (sr_gP1 h_qx2)) (sr_gP0 h_qx2)) rfl li_1)) fun qx3 QX3 h_qx3 => (rf_some ⟨h_qx3.1, h_qx3.2⟩)) (rf_rg fun k1 => (rf_some ⟨(i_sub li_m10 (sr_gI h_qx2 rfl) k1), h_qx2⟩)))))
def j_X6_read (S : iS) : Option (Int × iS) := (j_X6_read_0 S)
theorem jr_X6_read {S : iS} {s : fS} (hs : sr S s) : rf rI (j_X6_read S) (f_X6_read s) := by
  unfold j_X6_read f_X6_read
  exact (jr_X6_read_0 hs)
def j_X6_fault_9 (l1 : Int) (S : iS) : Option (Int × iS) := (some ((-102 : Int), S))
theorem jr_X6_fault_9 {l1 : Int} {L1 : Int32} (h_l1 : L1.toInt = l1) {S : iS} {s : fS} (hs : sr S s) : rf rI (j_X6_fault_9 l1 S) (f_X6_fault_9 L1 s) := by
  unfold j_X6_fault_9 f_X6_fault_9
  exact (rf_some ⟨li_m102, hs⟩)
def j_X6_fault_54 (l1 : Int) (t0 : Int) (S : iS) : Option (Int × iS) := (some (t0, S))
theorem jr_X6_fault_54 {l1 : Int} {L1 : Int32} (h_l1 : L1.toInt = l1) {t0 : Int} {T0 : Int32} (h_t0 : T0.toInt = t0) {S : iS} {s : fS} (hs : sr S s) : rf rI (j_X6_fault_54 l1 t0 S) (f_X6_fault_54 L1 T0 s) := by
  unfold j_X6_fault_54 f_X6_fault_54
  exact (rf_some ⟨h_t0, hs⟩)
def j_X6_fault_0 (l1 : Int) (S : iS) : Option (Int × iS) := (if l1 < (0 : Int) then (j_X6_fault_9 l1 S) else (if l1 ≤ (1 : Int) then (if ¬ (jI S 81 5) = (0 : Int) then (if ¬ l1 = (0 : Int) then (j_X6_fault_54 l1 (jI S 81 7) S) else (j_X6_fault_54 l1 (jI S 81 6) S)) else (some ((-1 : Int), S))) else (j_X6_fault_9 l1 S)))
theorem jr_X6_fault_0 {l1 : Int} {L1 : Int32} (h_l1 : L1.toInt = l1) {S : iS} {s : fS} (hs : sr S s) : rf rI (j_X6_fault_0 l1 S) (f_X6_fault_0 L1 s) := by
  unfold j_X6_fault_0 f_X6_fault_0
  exact (rf_if (c_lt h_l1 li_0) (jr_X6_fault_9 h_l1 hs) (rf_if (c_le h_l1 li_1) (rf_if (c_not (c_eq (sr_gI hs rfl) li_0)) (rf_if (c_not (c_eq h_l1 li_0)) (jr_X6_fault_54 h_l1 (sr_gI hs rfl) hs) (jr_X6_fault_54 h_l1 (sr_gI hs rfl) hs)) (rf_some ⟨li_m1, hs⟩)) (jr_X6_fault_9 h_l1 hs)))
def j_X6_fault (l1 : Int) (S : iS) : Option (Int × iS) := (j_X6_fault_0 l1 S)
theorem jr_X6_fault {l1 : Int} {L1 : Int32} (h_l1 : L1.toInt = l1) {S : iS} {s : fS} (hs : sr S s) : rf rI (j_X6_fault l1 S) (f_X6_fault L1 s) := by
  unfold j_X6_fault f_X6_fault
  exact (jr_X6_fault_0 h_l1 hs)
def j_X6_manner_9 (l1 : Int) (S : iS) : Option (Int × iS) := (some ((-102 : Int), S))
theorem jr_X6_manner_9 {l1 : Int} {L1 : Int32} (h_l1 : L1.toInt = l1) {S : iS} {s : fS} (hs : sr S s) : rf rI (j_X6_manner_9 l1 S) (f_X6_manner_9 L1 s) := by
  unfold j_X6_manner_9 f_X6_manner_9
  exact (rf_some ⟨li_m102, hs⟩)
def j_X6_manner_0 (l1 : Int) (S : iS) : Option (Int × iS) := (if l1 < (0 : Int) then (j_X6_manner_9 l1 S) else (if l1 ≤ (2 : Int) then (some ((jI S 0 7), (kI S 0 7 l1))) else (j_X6_manner_9 l1 S)))
theorem jr_X6_manner_0 {l1 : Int} {L1 : Int32} (h_l1 : L1.toInt = l1) {S : iS} {s : fS} (hs : sr S s) : rf rI (j_X6_manner_0 l1 S) (f_X6_manner_0 L1 s) := by
  unfold j_X6_manner_0 f_X6_manner_0
  exact (rf_if (c_lt h_l1 li_0) (jr_X6_manner_9 h_l1 hs) (rf_if (c_le h_l1 li_2) (rf_some ⟨(sr_gI hs rfl), (sr_I hs rfl h_l1)⟩) (jr_X6_manner_9 h_l1 hs)))
def j_X6_manner (l1 : Int) (S : iS) : Option (Int × iS) := (j_X6_manner_0 l1 S)
theorem jr_X6_manner {l1 : Int} {L1 : Int32} (h_l1 : L1.toInt = l1) {S : iS} {s : fS} (hs : sr S s) : rf rI (j_X6_manner l1 S) (f_X6_manner L1 s) := by
  unfold j_X6_manner f_X6_manner
  exact (jr_X6_manner_0 h_l1 hs)
def j_X6_find_40 (l1 : Int) (t0 : Int) (S : iS) : Option (Int × iS) := (some (t0, S))
theorem jr_X6_find_40 {l1 : Int} {L1 : Int32} (h_l1 : L1.toInt = l1) {t0 : Int} {T0 : Int32} (h_t0 : T0.toInt = t0) {S : iS} {s : fS} (hs : sr S s) : rf rI (j_X6_find_40 l1 t0 S) (f_X6_find_40 L1 T0 s) := by
  unfold j_X6_find_40 f_X6_find_40
  exact (rf_some ⟨h_t0, hs⟩)
def j_X6_find_0 (S : iS) : Option (Int × iS) := ((j_X4_indexOf ((gadr (jP0 S)) + 3) 1 (0 : Int) (jI S 1 1) S).bind fun qx1 => ((j_X3_clear 1 qx1.2).bind fun qx2 => (if ¬ qx1.1 = (-1 : Int) then (j_X6_find_40 qx1.1 qx1.1 qx2) else (j_X6_find_40 qx1.1 (-1 : Int) qx2))))
theorem jr_X6_find_0 {S : iS} {s : fS} (hs : sr S s) : rf rI (j_X6_find_0 S) (f_X6_find_0 s) := by
  unfold j_X6_find_0 f_X6_find_0
  exact (rf_bind (jr_X4_indexOf (e_add (e_gad (sr_gP0 hs))) rfl li_0 (sr_gI hs rfl) hs) fun qx1 QX1 h_qx1 => (rf_bind (jr_X3_clear rfl h_qx1.2) fun qx2 QX2 h_qx2 => (rf_if (c_not (c_eq h_qx1.1 li_m1)) (jr_X6_find_40 h_qx1.1 h_qx1.1 h_qx2) (jr_X6_find_40 h_qx1.1 li_m1 h_qx2))))
def j_X6_find (S : iS) : Option (Int × iS) := (j_X6_find_0 S)
theorem jr_X6_find {S : iS} {s : fS} (hs : sr S s) : rf rI (j_X6_find S) (f_X6_find s) := by
  unfold j_X6_find f_X6_find
  exact (jr_X6_find_0 hs)
def j_X6_signOfSpan_24 (a0 : Nat) (l1 : Int) (l2 : Int) (S : iS) : Option ((Int ⊕ String) × iS) := (some (.inr "java/lang/ArrayIndexOutOfBoundsException", S))
theorem jr_X6_signOfSpan_24 {a0 A0 : Nat} (h_a0 : A0 = a0) {l1 : Int} {L1 : Int32} (h_l1 : L1.toInt = l1) {l2 : Int} {L2 : Int32} (h_l2 : L2.toInt = l2) {S : iS} {s : fS} (hs : sr S s) : rf rX (j_X6_signOfSpan_24 a0 l1 l2 S) (f_X6_signOfSpan_24 A0 L1 L2 s) := by
  unfold j_X6_signOfSpan_24 f_X6_signOfSpan_24
  exact (rf_some ⟨rfl, hs⟩)
def j_X6_signOfSpan_0 (a0 : Nat) (l1 : Int) (l2 : Int) (S : iS) : Option ((Int ⊕ String) × iS) := ((j_X4_has a0 l1 S).bind fun qx1 => (if ¬ qx1.1 = (0 : Int) then (if l2 < (0 : Int) then (j_X6_signOfSpan_24 a0 l1 l2 qx1.2) else ((j_X4_lengthOf a0 l1 qx1.2).bind fun qx2 => (if l2 < qx2.1 then ((j_X4_signAt a0 l1 l2 qx2.2).bind fun qx3 => (some (.inl qx3.1, qx3.2))) else (j_X6_signOfSpan_24 a0 l1 l2 qx2.2)))) else (some (.inl (-101 : Int), qx1.2))))
theorem jr_X6_signOfSpan_0 {a0 A0 : Nat} (h_a0 : A0 = a0) {l1 : Int} {L1 : Int32} (h_l1 : L1.toInt = l1) {l2 : Int} {L2 : Int32} (h_l2 : L2.toInt = l2) {S : iS} {s : fS} (hs : sr S s) : rf rX (j_X6_signOfSpan_0 a0 l1 l2 S) (f_X6_signOfSpan_0 A0 L1 L2 s) := by
  unfold j_X6_signOfSpan_0 f_X6_signOfSpan_0
  exact (rf_bind (jr_X4_has h_a0 h_l1 hs) fun qx1 QX1 h_qx1 => (rf_if (c_not (c_eq h_qx1.1 li_0)) (rf_if (c_lt h_l2 li_0) (jr_X6_signOfSpan_24 h_a0 h_l1 h_l2 h_qx1.2) (rf_bind (jr_X4_lengthOf h_a0 h_l1 h_qx1.2) fun qx2 QX2 h_qx2 => (rf_if (c_lt h_l2 h_qx2.1) (rf_bind (jr_X4_signAt h_a0 h_l1 h_l2 h_qx2.2) fun qx3 QX3 h_qx3 => (rf_some ⟨x_inl h_qx3.1, h_qx3.2⟩)) (jr_X6_signOfSpan_24 h_a0 h_l1 h_l2 h_qx2.2)))) (rf_some ⟨x_inl li_m101, h_qx1.2⟩)))
def j_X6_signOfSpan (a0 : Nat) (l1 : Int) (l2 : Int) (S : iS) : Option ((Int ⊕ String) × iS) := (j_X6_signOfSpan_0 a0 l1 l2 S)
theorem jr_X6_signOfSpan {a0 A0 : Nat} (h_a0 : A0 = a0) {l1 : Int} {L1 : Int32} (h_l1 : L1.toInt = l1) {l2 : Int} {L2 : Int32} (h_l2 : L2.toInt = l2) {S : iS} {s : fS} (hs : sr S s) : rf rX (j_X6_signOfSpan a0 l1 l2 S) (f_X6_signOfSpan A0 L1 L2 s) := by
  unfold j_X6_signOfSpan f_X6_signOfSpan
  exact (jr_X6_signOfSpan_0 h_a0 h_l1 h_l2 hs)
def j_X6_node_0 (l1 : Int) (l2 : Int) (S : iS) : Option ((Int ⊕ String) × iS) := (jbx (j_X6_signOfSpan ((gadr (jP0 S)) + 3) l1 l2 S) fun qx1 => (some (.inl qx1.1, qx1.2)))
theorem jr_X6_node_0 {l1 : Int} {L1 : Int32} (h_l1 : L1.toInt = l1) {l2 : Int} {L2 : Int32} (h_l2 : L2.toInt = l2) {S : iS} {s : fS} (hs : sr S s) : rf rX (j_X6_node_0 l1 l2 S) (f_X6_node_0 L1 L2 s) := by
  unfold j_X6_node_0 f_X6_node_0
  exact (rf_bx (jr_X6_signOfSpan (e_add (e_gad (sr_gP0 hs))) h_l1 h_l2 hs) fun qx1 QX1 h_qx1 => (rf_some ⟨x_inl h_qx1.1, h_qx1.2⟩))
def j_X6_node (l1 : Int) (l2 : Int) (S : iS) : Option ((Int ⊕ String) × iS) := (j_X6_node_0 l1 l2 S)
theorem jr_X6_node {l1 : Int} {L1 : Int32} (h_l1 : L1.toInt = l1) {l2 : Int} {L2 : Int32} (h_l2 : L2.toInt = l2) {S : iS} {s : fS} (hs : sr S s) : rf rX (j_X6_node l1 l2 S) (f_X6_node L1 L2 s) := by
  unfold j_X6_node f_X6_node
  exact (jr_X6_node_0 h_l1 h_l2 hs)
def j_X6_arc_0 (l1 : Int) (l2 : Int) (S : iS) : Option (Int × iS) := ((j_X3_has ((gadr (jP0 S)) + 20) l1 S).bind fun qx1 => (if ¬ qx1.1 = (0 : Int) then (if l2 = (0 : Int) then ((j_X3_at ((gadr (jP0 qx1.2)) + 20) l1 qx1.2).bind fun qx2 => (some (qx2.1, qx2.2))) else (if l2 = (1 : Int) then ((j_X3_at ((gadr (jP0 qx1.2)) + 22) l1 qx1.2).bind fun qx3 => (some (qx3.1, qx3.2))) else (if l2 = (2 : Int) then ((j_X3_at ((gadr (jP0 qx1.2)) + 24) l1 qx1.2).bind fun qx4 => (some (qx4.1, qx4.2))) else (if l2 = (3 : Int) then ((j_X1_missingOf (jP0 qx1.2) l1 qx1.2).bind fun qx5 => (some (qx5.1, qx5.2))) else (some ((-102 : Int), qx1.2)))))) else (some ((-101 : Int), qx1.2))))
theorem jr_X6_arc_0 {l1 : Int} {L1 : Int32} (h_l1 : L1.toInt = l1) {l2 : Int} {L2 : Int32} (h_l2 : L2.toInt = l2) {S : iS} {s : fS} (hs : sr S s) : rf rI (j_X6_arc_0 l1 l2 S) (f_X6_arc_0 L1 L2 s) := by
  unfold j_X6_arc_0 f_X6_arc_0
  exact (rf_bind (jr_X3_has (e_add (e_gad (sr_gP0 hs))) h_l1 hs) fun qx1 QX1 h_qx1 => (rf_if (c_not (c_eq h_qx1.1 li_0)) (rf_if (c_ti h_l2) (rf_bind (jr_X3_at (e_add (e_gad (sr_gP0 h_qx1.2))) h_l1 h_qx1.2) fun qx2 QX2 h_qx2 => (rf_some ⟨h_qx2.1, h_qx2.2⟩)) (rf_if (c_ti h_l2) (rf_bind (jr_X3_at (e_add (e_gad (sr_gP0 h_qx1.2))) h_l1 h_qx1.2) fun qx3 QX3 h_qx3 => (rf_some ⟨h_qx3.1, h_qx3.2⟩)) (rf_if (c_ti h_l2) (rf_bind (jr_X3_at (e_add (e_gad (sr_gP0 h_qx1.2))) h_l1 h_qx1.2) fun qx4 QX4 h_qx4 => (rf_some ⟨h_qx4.1, h_qx4.2⟩)) (rf_if (c_ti h_l2) (rf_bind (jr_X1_missingOf (sr_gP0 h_qx1.2) h_l1 h_qx1.2) fun qx5 QX5 h_qx5 => (rf_some ⟨h_qx5.1, h_qx5.2⟩)) (rf_some ⟨li_m102, h_qx1.2⟩))))) (rf_some ⟨li_m101, h_qx1.2⟩)))
def j_X6_arc (l1 : Int) (l2 : Int) (S : iS) : Option (Int × iS) := (j_X6_arc_0 l1 l2 S)
theorem jr_X6_arc {l1 : Int} {L1 : Int32} (h_l1 : L1.toInt = l1) {l2 : Int} {L2 : Int32} (h_l2 : L2.toInt = l2) {S : iS} {s : fS} (hs : sr S s) : rf rI (j_X6_arc l1 l2 S) (f_X6_arc L1 L2 s) := by
  unfold j_X6_arc f_X6_arc
  exact (jr_X6_arc_0 h_l1 h_l2 hs)
def j_X6_kind_30 (l1 : Int) (t0 : Int) (S : iS) : Option (Int × iS) := (some (t0, S))
theorem jr_X6_kind_30 {l1 : Int} {L1 : Int32} (h_l1 : L1.toInt = l1) {t0 : Int} {T0 : Int32} (h_t0 : T0.toInt = t0) {S : iS} {s : fS} (hs : sr S s) : rf rI (j_X6_kind_30 l1 t0 S) (f_X6_kind_30 L1 T0 s) := by
  unfold j_X6_kind_30 f_X6_kind_30
  exact (rf_some ⟨h_t0, hs⟩)
def j_X6_kind_0 (l1 : Int) (S : iS) : Option (Int × iS) := ((j_X3_has ((gadr (jP0 S)) + 18) l1 S).bind fun qx1 => (if qx1.1 = (0 : Int) then (j_X6_kind_30 l1 (-101 : Int) qx1.2) else ((j_X3_at ((gadr (jP0 qx1.2)) + 18) l1 qx1.2).bind fun qx2 => (j_X6_kind_30 l1 qx2.1 qx2.2))))
theorem jr_X6_kind_0 {l1 : Int} {L1 : Int32} (h_l1 : L1.toInt = l1) {S : iS} {s : fS} (hs : sr S s) : rf rI (j_X6_kind_0 l1 S) (f_X6_kind_0 L1 s) := by
  unfold j_X6_kind_0 f_X6_kind_0
  exact (rf_bind (jr_X3_has (e_add (e_gad (sr_gP0 hs))) h_l1 hs) fun qx1 QX1 h_qx1 => (rf_if (c_eq h_qx1.1 li_0) (jr_X6_kind_30 h_l1 li_m101 h_qx1.2) (rf_bind (jr_X3_at (e_add (e_gad (sr_gP0 h_qx1.2))) h_l1 h_qx1.2) fun qx2 QX2 h_qx2 => (jr_X6_kind_30 h_l1 h_qx2.1 h_qx2.2))))
def j_X6_kind (l1 : Int) (S : iS) : Option (Int × iS) := (j_X6_kind_0 l1 S)
theorem jr_X6_kind {l1 : Int} {L1 : Int32} (h_l1 : L1.toInt = l1) {S : iS} {s : fS} (hs : sr S s) : rf rI (j_X6_kind l1 S) (f_X6_kind L1 s) := by
  unfold j_X6_kind f_X6_kind
  exact (jr_X6_kind_0 h_l1 hs)
def j_X6_head_0 (l1 : Int) (l2 : Int) (S : iS) : Option ((Int ⊕ String) × iS) := (jbx (j_X6_signOfSpan ((gadr (jP0 S)) + 8) l1 l2 S) fun qx1 => (some (.inl qx1.1, qx1.2)))
theorem jr_X6_head_0 {l1 : Int} {L1 : Int32} (h_l1 : L1.toInt = l1) {l2 : Int} {L2 : Int32} (h_l2 : L2.toInt = l2) {S : iS} {s : fS} (hs : sr S s) : rf rX (j_X6_head_0 l1 l2 S) (f_X6_head_0 L1 L2 s) := by
  unfold j_X6_head_0 f_X6_head_0
  exact (rf_bx (jr_X6_signOfSpan (e_add (e_gad (sr_gP0 hs))) h_l1 h_l2 hs) fun qx1 QX1 h_qx1 => (rf_some ⟨x_inl h_qx1.1, h_qx1.2⟩))
def j_X6_head (l1 : Int) (l2 : Int) (S : iS) : Option ((Int ⊕ String) × iS) := (j_X6_head_0 l1 l2 S)
theorem jr_X6_head {l1 : Int} {L1 : Int32} (h_l1 : L1.toInt = l1) {l2 : Int} {L2 : Int32} (h_l2 : L2.toInt = l2) {S : iS} {s : fS} (hs : sr S s) : rf rX (j_X6_head l1 l2 S) (f_X6_head L1 L2 s) := by
  unfold j_X6_head f_X6_head
  exact (jr_X6_head_0 h_l1 h_l2 hs)
def j_X6_value_0 (l1 : Int) (l2 : Int) (S : iS) : Option ((Int ⊕ String) × iS) := ((j_X1_hasValue (jP0 S) l1 l2 S).bind fun qx1 => (if ¬ qx1.1 = (0 : Int) then ((j_X1_roomOf (jP0 qx1.2) l1 l2 qx1.2).bind fun qx2 => ((j_X3_at ((gadr (jP0 qx2.2)) + 31) qx2.1 qx2.2).bind fun qx3 => (if ¬ qx3.1 = (0 : Int) then ((j_X3_at ((gadr (jP0 qx3.2)) + 18) l2 qx3.2).bind fun qx4 => (if ¬ qx4.1 = (2 : Int) then ((j_X3_at ((gadr (jP0 qx4.2)) + 33) qx2.1 qx4.2).bind fun qx5 => (some (.inl qx5.1, qx5.2))) else (some (.inr "java/lang/ClassCastException", qx4.2)))) else (some (.inr "java/lang/NullPointerException", qx3.2))))) else (some (.inl (-101 : Int), qx1.2))))
theorem jr_X6_value_0 {l1 : Int} {L1 : Int32} (h_l1 : L1.toInt = l1) {l2 : Int} {L2 : Int32} (h_l2 : L2.toInt = l2) {S : iS} {s : fS} (hs : sr S s) : rf rX (j_X6_value_0 l1 l2 S) (f_X6_value_0 L1 L2 s) := by
  unfold j_X6_value_0 f_X6_value_0
  exact (rf_bind (jr_X1_hasValue (sr_gP0 hs) h_l1 h_l2 hs) fun qx1 QX1 h_qx1 => (rf_if (c_not (c_eq h_qx1.1 li_0)) (rf_bind (jr_X1_roomOf (sr_gP0 h_qx1.2) h_l1 h_l2 h_qx1.2) fun qx2 QX2 h_qx2 => (rf_bind (jr_X3_at (e_add (e_gad (sr_gP0 h_qx2.2))) h_qx2.1 h_qx2.2) fun qx3 QX3 h_qx3 => (rf_if (c_not (c_eq h_qx3.1 li_0)) (rf_bind (jr_X3_at (e_add (e_gad (sr_gP0 h_qx3.2))) h_l2 h_qx3.2) fun qx4 QX4 h_qx4 => (rf_if (c_not (c_eq h_qx4.1 li_2)) (rf_bind (jr_X3_at (e_add (e_gad (sr_gP0 h_qx4.2))) h_qx2.1 h_qx4.2) fun qx5 QX5 h_qx5 => (rf_some ⟨x_inl h_qx5.1, h_qx5.2⟩)) (rf_some ⟨rfl, h_qx4.2⟩))) (rf_some ⟨rfl, h_qx3.2⟩)))) (rf_some ⟨x_inl li_m101, h_qx1.2⟩)))
def j_X6_value (l1 : Int) (l2 : Int) (S : iS) : Option ((Int ⊕ String) × iS) := (j_X6_value_0 l1 l2 S)
theorem jr_X6_value {l1 : Int} {L1 : Int32} (h_l1 : L1.toInt = l1) {l2 : Int} {L2 : Int32} (h_l2 : L2.toInt = l2) {S : iS} {s : fS} (hs : sr S s) : rf rX (j_X6_value l1 l2 S) (f_X6_value L1 L2 s) := by
  unfold j_X6_value f_X6_value
  exact (jr_X6_value_0 h_l1 h_l2 hs)
def j_X6_sign_0 (l1 : Int) (l2 : Int) (l3 : Int) (S : iS) : Option ((Int ⊕ String) × iS) := ((j_X1_hasValue (jP0 S) l1 l2 S).bind fun qx1 => (if ¬ qx1.1 = (0 : Int) then ((j_X1_roomOf (jP0 qx1.2) l1 l2 qx1.2).bind fun qx2 => ((j_X3_at ((gadr (jP0 qx2.2)) + 31) qx2.1 qx2.2).bind fun qx3 => (if ¬ qx3.1 = (0 : Int) then ((j_X3_at ((gadr (jP0 qx3.2)) + 18) l2 qx3.2).bind fun qx4 => (if qx4.1 = (2 : Int) then (jbx (j_X6_signOfSpan ((gadr (jP0 qx4.2)) + 26) qx2.1 l3 qx4.2) fun qx5 => (some (.inl qx5.1, qx5.2))) else (some (.inr "java/lang/ClassCastException", qx4.2)))) else (some (.inr "java/lang/NullPointerException", qx3.2))))) else (some (.inl (-101 : Int), qx1.2))))
theorem jr_X6_sign_0 {l1 : Int} {L1 : Int32} (h_l1 : L1.toInt = l1) {l2 : Int} {L2 : Int32} (h_l2 : L2.toInt = l2) {l3 : Int} {L3 : Int32} (h_l3 : L3.toInt = l3) {S : iS} {s : fS} (hs : sr S s) : rf rX (j_X6_sign_0 l1 l2 l3 S) (f_X6_sign_0 L1 L2 L3 s) := by
  unfold j_X6_sign_0 f_X6_sign_0
  exact (rf_bind (jr_X1_hasValue (sr_gP0 hs) h_l1 h_l2 hs) fun qx1 QX1 h_qx1 => (rf_if (c_not (c_eq h_qx1.1 li_0)) (rf_bind (jr_X1_roomOf (sr_gP0 h_qx1.2) h_l1 h_l2 h_qx1.2) fun qx2 QX2 h_qx2 => (rf_bind (jr_X3_at (e_add (e_gad (sr_gP0 h_qx2.2))) h_qx2.1 h_qx2.2) fun qx3 QX3 h_qx3 => (rf_if (c_not (c_eq h_qx3.1 li_0)) (rf_bind (jr_X3_at (e_add (e_gad (sr_gP0 h_qx3.2))) h_l2 h_qx3.2) fun qx4 QX4 h_qx4 => (rf_if (c_eq h_qx4.1 li_2) (rf_bx (jr_X6_signOfSpan (e_add (e_gad (sr_gP0 h_qx4.2))) h_qx2.1 h_l3 h_qx4.2) fun qx5 QX5 h_qx5 => (rf_some ⟨x_inl h_qx5.1, h_qx5.2⟩)) (rf_some ⟨rfl, h_qx4.2⟩))) (rf_some ⟨rfl, h_qx3.2⟩)))) (rf_some ⟨x_inl li_m101, h_qx1.2⟩)))
def j_X6_sign (l1 : Int) (l2 : Int) (l3 : Int) (S : iS) : Option ((Int ⊕ String) × iS) := (j_X6_sign_0 l1 l2 l3 S)
theorem jr_X6_sign {l1 : Int} {L1 : Int32} (h_l1 : L1.toInt = l1) {l2 : Int} {L2 : Int32} (h_l2 : L2.toInt = l2) {l3 : Int} {L3 : Int32} (h_l3 : L3.toInt = l3) {S : iS} {s : fS} (hs : sr S s) : rf rX (j_X6_sign l1 l2 l3 S) (f_X6_sign L1 L2 L3 s) := by
  unfold j_X6_sign f_X6_sign
  exact (jr_X6_sign_0 h_l1 h_l2 h_l3 hs)
