def j_X6_comment_0 (l1 : Int) (l2 : Int) (S : iS) : Option ((Int ⊕ String) × iS) := (jbx (j_X6_signOfSpan ((gadr (jP0 S)) + 13) l1 l2 S) fun qx1 => (some (.inl qx1.1, qx1.2)))
theorem jr_X6_comment_0 {l1 : Int} {L1 : Int32} (h_l1 : L1.toInt = l1) {l2 : Int} {L2 : Int32} (h_l2 : L2.toInt = l2) {S : iS} {s : fS} (hs : sr S s) : rf rX (j_X6_comment_0 l1 l2 S) (f_X6_comment_0 L1 L2 s) := by
  unfold j_X6_comment_0 f_X6_comment_0
  exact (rf_bx (jr_X6_signOfSpan (e_add (e_gad (sr_gP0 hs))) h_l1 h_l2 hs) fun qx1 QX1 h_qx1 => (rf_some ⟨x_inl h_qx1.1, h_qx1.2⟩))
def j_X6_comment (l1 : Int) (l2 : Int) (S : iS) : Option ((Int ⊕ String) × iS) := (j_X6_comment_0 l1 l2 S)
theorem jr_X6_comment {l1 : Int} {L1 : Int32} (h_l1 : L1.toInt = l1) {l2 : Int} {L2 : Int32} (h_l2 : L2.toInt = l2) {S : iS} {s : fS} (hs : sr S s) : rf rX (j_X6_comment l1 l2 S) (f_X6_comment L1 L2 s) := by
  unfold j_X6_comment f_X6_comment
  exact (jr_X6_comment_0 h_l1 h_l2 hs)
def j_X6_print_0 (S : iS) : Option (Int × iS) := (if ¬ (jI S 0 6) = (0 : Int) then ((j_X5_writeGraph (jP0 S) S).bind fun qx1 => (some ((jI qx1 3 1), qx1))) else (some ((-103 : Int), S)))
theorem jr_X6_print_0 {S : iS} {s : fS} (hs : sr S s) : rf rI (j_X6_print_0 S) (f_X6_print_0 s) := by
  unfold j_X6_print_0 f_X6_print_0
  exact (rf_if (c_not (c_eq (sr_gI hs rfl) li_0)) (rf_bind (jr_X5_writeGraph (sr_gP0 hs) hs) fun qx1 QX1 h_qx1 => (rf_some ⟨(sr_gI h_qx1 rfl), h_qx1⟩)) (rf_some ⟨li_m103, hs⟩))
def j_X6_print (S : iS) : Option (Int × iS) := (j_X6_print_0 S)
theorem jr_X6_print {S : iS} {s : fS} (hs : sr S s) : rf rI (j_X6_print S) (f_X6_print s) := by
  unfold j_X6_print f_X6_print
  exact (jr_X6_print_0 hs)
def j_X6_out_0 (l1 : Int) (S : iS) : Option ((Int ⊕ String) × iS) := ((j_X3_has 3 l1 S).bind fun qx1 => (if ¬ qx1.1 = (0 : Int) then ((j_X3_at 3 l1 qx1.2).bind fun qx2 => (some (.inl qx2.1, qx2.2))) else (some (.inr "java/lang/ArrayIndexOutOfBoundsException", qx1.2))))
theorem jr_X6_out_0 {l1 : Int} {L1 : Int32} (h_l1 : L1.toInt = l1) {S : iS} {s : fS} (hs : sr S s) : rf rX (j_X6_out_0 l1 S) (f_X6_out_0 L1 s) := by
  unfold j_X6_out_0 f_X6_out_0
  exact (rf_bind (jr_X3_has rfl h_l1 hs) fun qx1 QX1 h_qx1 => (rf_if (c_not (c_eq h_qx1.1 li_0)) (rf_bind (jr_X3_at rfl h_l1 h_qx1.2) fun qx2 QX2 h_qx2 => (rf_some ⟨x_inl h_qx2.1, h_qx2.2⟩)) (rf_some ⟨rfl, h_qx1.2⟩)))
def j_X6_out (l1 : Int) (S : iS) : Option ((Int ⊕ String) × iS) := (j_X6_out_0 l1 S)
theorem jr_X6_out {l1 : Int} {L1 : Int32} (h_l1 : L1.toInt = l1) {S : iS} {s : fS} (hs : sr S s) : rf rX (j_X6_out l1 S) (f_X6_out L1 s) := by
  unfold j_X6_out f_X6_out
  exact (jr_X6_out_0 h_l1 hs)
def j_X6_about_0 (l1 : Int) (S : iS) : Option (Int × iS) := (if l1 = (0 : Int) then (some ((jI S 1 1), S)) else (if l1 = (1 : Int) then (some ((jI S ((gadr (jP0 S)) + 3) 3), S)) else (if l1 = (2 : Int) then ((j_X1_arcCount (jP0 S) S).bind fun qx1 => (some (qx1.1, qx1.2))) else (if l1 = (3 : Int) then (some ((jI S ((gadr (jP0 S)) + 8) 3), S)) else (if l1 = (4 : Int) then (some ((jI S (gadr (jP0 S)) 12), S)) else (if l1 = (5 : Int) then (some ((jI S ((gadr (jP0 S)) + 13) 3), S)) else (if l1 = (6 : Int) then (some ((jI S 3 1), S)) else (some ((-102 : Int), S)))))))))
theorem jr_X6_about_0 {l1 : Int} {L1 : Int32} (h_l1 : L1.toInt = l1) {S : iS} {s : fS} (hs : sr S s) : rf rI (j_X6_about_0 l1 S) (f_X6_about_0 L1 s) := by
  unfold j_X6_about_0 f_X6_about_0
  exact (rf_if (c_ti h_l1) (rf_some ⟨(sr_gI hs rfl), hs⟩) (rf_if (c_ti h_l1) (rf_some ⟨(sr_gI hs (e_add (e_gad (sr_gP0 hs)))), hs⟩) (rf_if (c_ti h_l1) (rf_bind (jr_X1_arcCount (sr_gP0 hs) hs) fun qx1 QX1 h_qx1 => (rf_some ⟨h_qx1.1, h_qx1.2⟩)) (rf_if (c_ti h_l1) (rf_some ⟨(sr_gI hs (e_add (e_gad (sr_gP0 hs)))), hs⟩) (rf_if (c_ti h_l1) (rf_some ⟨(sr_gI hs (e_gad (sr_gP0 hs))), hs⟩) (rf_if (c_ti h_l1) (rf_some ⟨(sr_gI hs (e_add (e_gad (sr_gP0 hs)))), hs⟩) (rf_if (c_ti h_l1) (rf_some ⟨(sr_gI hs rfl), hs⟩) (rf_some ⟨li_m102, hs⟩))))))))
def j_X6_about (l1 : Int) (S : iS) : Option (Int × iS) := (j_X6_about_0 l1 S)
theorem jr_X6_about {l1 : Int} {L1 : Int32} (h_l1 : L1.toInt = l1) {S : iS} {s : fS} (hs : sr S s) : rf rI (j_X6_about l1 S) (f_X6_about L1 s) := by
  unfold j_X6_about f_X6_about
  exact (jr_X6_about_0 h_l1 hs)
def j_X7_thrown_0 (S : iS) : Option (Int × iS) := (some ((jI S 82 0), S))
theorem jr_X7_thrown_0 {S : iS} {s : fS} (hs : sr S s) : rf rI (j_X7_thrown_0 S) (f_X7_thrown_0 s) := by
  unfold j_X7_thrown_0 f_X7_thrown_0
  exact (rf_some ⟨(sr_gI hs rfl), hs⟩)
def j_X7_thrown (S : iS) : Option (Int × iS) := (j_X7_thrown_0 S)
theorem jr_X7_thrown {S : iS} {s : fS} (hs : sr S s) : rf rI (j_X7_thrown S) (f_X7_thrown s) := by
  unfold j_X7_thrown f_X7_thrown
  exact (jr_X7_thrown_0 hs)
def j_X7_in_15 (l0 : Int) (l1 : Int) (l2 : Int) (t0 : Int) (S : iS) : Option (Int × iS) := (if (t0 = 0 ∨ t0 = 1) then (some (t0, S)) else none)
theorem jr_X7_in_15 {l0 : Int} {L0 : Int32} (h_l0 : L0.toInt = l0) {l1 : Int} {L1 : Int32} (h_l1 : L1.toInt = l1) {l2 : Int} {L2 : Int32} (h_l2 : L2.toInt = l2) {t0 : Int} {T0 : Int32} (h_t0 : T0.toInt = t0) {S : iS} {s : fS} (hs : sr S s) : rf rI (j_X7_in_15 l0 l1 l2 t0 S) (f_X7_in_15 L0 L1 L2 T0 s) := by
  unfold j_X7_in_15 f_X7_in_15
  exact (rf_rg fun k1 => (rf_ck (k_fbl h_t0 k1) (rf_some ⟨h_t0, hs⟩)))
def j_X7_in_14 (l0 : Int) (l1 : Int) (l2 : Int) (S : iS) : Option (Int × iS) := (j_X7_in_15 l0 l1 l2 (0 : Int) S)
theorem jr_X7_in_14 {l0 : Int} {L0 : Int32} (h_l0 : L0.toInt = l0) {l1 : Int} {L1 : Int32} (h_l1 : L1.toInt = l1) {l2 : Int} {L2 : Int32} (h_l2 : L2.toInt = l2) {S : iS} {s : fS} (hs : sr S s) : rf rI (j_X7_in_14 l0 l1 l2 S) (f_X7_in_14 L0 L1 L2 s) := by
  unfold j_X7_in_14 f_X7_in_14
  exact (jr_X7_in_15 h_l0 h_l1 h_l2 li_0 hs)
def j_X7_in_0 (l0 : Int) (l1 : Int) (l2 : Int) (S : iS) : Option (Int × iS) := (if l0 < l1 then (j_X7_in_14 l0 l1 l2 S) else (if l2 < l0 then (j_X7_in_14 l0 l1 l2 S) else (j_X7_in_15 l0 l1 l2 (1 : Int) S)))
theorem jr_X7_in_0 {l0 : Int} {L0 : Int32} (h_l0 : L0.toInt = l0) {l1 : Int} {L1 : Int32} (h_l1 : L1.toInt = l1) {l2 : Int} {L2 : Int32} (h_l2 : L2.toInt = l2) {S : iS} {s : fS} (hs : sr S s) : rf rI (j_X7_in_0 l0 l1 l2 S) (f_X7_in_0 L0 L1 L2 s) := by
  unfold j_X7_in_0 f_X7_in_0
  exact (rf_if (c_lt h_l0 h_l1) (jr_X7_in_14 h_l0 h_l1 h_l2 hs) (rf_if (c_lt h_l2 h_l0) (jr_X7_in_14 h_l0 h_l1 h_l2 hs) (jr_X7_in_15 h_l0 h_l1 h_l2 li_1 hs)))
def j_X7_in (l0 : Int) (l1 : Int) (l2 : Int) (S : iS) : Option (Int × iS) := (j_X7_in_0 l0 l1 l2 S)
theorem jr_X7_in {l0 : Int} {L0 : Int32} (h_l0 : L0.toInt = l0) {l1 : Int} {L1 : Int32} (h_l1 : L1.toInt = l1) {l2 : Int} {L2 : Int32} (h_l2 : L2.toInt = l2) {S : iS} {s : fS} (hs : sr S s) : rf rI (j_X7_in l0 l1 l2 S) (f_X7_in L0 L1 L2 s) := by
  unfold j_X7_in f_X7_in
  exact (jr_X7_in_0 h_l0 h_l1 h_l2 hs)
def j_X7_feed_38  : Nat → Int → Int64 → Int → iS → Option (Int × iS)
  | 0, _, _, _, _ => none
  | n + 1, l1, j2, l4, S => (if l4 < (0 : Int) then (some ((jI S 82 2), S)) else (if (0 ≤ (jI S 82 2) ∧ (jI S 82 2) < (jA S 83).length) then (if rg (l4 + (-1 : Int)) then (if rg ((jI S 82 2) + (1 : Int)) then (j_X7_feed_38 n l1 j2 (l4 + (-1 : Int)) (kI (kA S 83 ((jA S 83).set (jI S 82 2).toNat (byM j2 l4))) 82 2 ((jI S 82 2) + (1 : Int)))) else none) else none) else none))
theorem jr_X7_feed_38  (n : Nat) : ∀ {l1 : Int} {L1 : Int32} (h_l1 : L1.toInt = l1) {j2 J2 : Int64} (h_j2 : J2 = j2) {l4 : Int} {L4 : Int32} (h_l4 : L4.toInt = l4) {S : iS} {s : fS} (hs : sr S s), rf rI (j_X7_feed_38 n l1 j2 l4 S) (f_X7_feed_38 n L1 J2 L4 s) := by
  induction n with
  | zero => intros; exact rf_none
  | succ n ih =>
    intro l1 L1 h_l1 j2 J2 h_j2 l4 L4 h_l4 S s hs
    rw [j_X7_feed_38, f_X7_feed_38]
    exact (rf_if (c_lt h_l4 li_0) (rf_some ⟨(sr_gI hs rfl), hs⟩) (rf_rg fun k1 => (rf_ck (k_in (sr_gI hs rfl) (sr_gA hs rfl) k1) (rf_rg fun k2 => (rf_rg fun k3 => (ih h_l1 h_j2 (i_add h_l4 lo_m1 k2) (sr_I (sr_A hs rfl (l_set (sr_gA hs rfl) (i_nat (sr_gI hs rfl)) (i_byM h_j2 h_l4))) rfl (i_add (sr_gI hs rfl) li_1 k3))))))))
def j_X7_feed_0 (l1 : Int) (j2 : Int64) (S : iS) : Option (Int × iS) := ((j_X7_in l1 (1 : Int) (8 : Int) (kI S 82 0 (0 : Int))).bind fun qx1 => (if ¬ qx1.1 = (0 : Int) then (if rg ((jI qx1.2 82 2) + l1) then (if ((jI qx1.2 82 2) + l1) ≤ (600 : Int) then (if rg (l1 - (1 : Int)) then (j_X7_feed_38 fuel l1 j2 (l1 - (1 : Int)) qx1.2) else none) else (some ((-104 : Int), qx1.2))) else none) else (some ((-102 : Int), qx1.2))))
theorem jr_X7_feed_0 {l1 : Int} {L1 : Int32} (h_l1 : L1.toInt = l1) {j2 J2 : Int64} (h_j2 : J2 = j2) {S : iS} {s : fS} (hs : sr S s) : rf rI (j_X7_feed_0 l1 j2 S) (f_X7_feed_0 L1 J2 s) := by
  unfold j_X7_feed_0 f_X7_feed_0
  exact (rf_bind (jr_X7_in h_l1 li_1 li_8 (sr_I hs rfl li_0)) fun qx1 QX1 h_qx1 => (rf_if (c_not (c_eq h_qx1.1 li_0)) (rf_rg fun k1 => (rf_if (c_le (i_add (sr_gI h_qx1.2 rfl) h_l1 k1) li_600) (rf_rg fun k2 => (jr_X7_feed_38 fuel h_l1 h_j2 (i_sub h_l1 li_1 k2) h_qx1.2)) (rf_some ⟨li_m104, h_qx1.2⟩))) (rf_some ⟨li_m102, h_qx1.2⟩)))
def j_X7_feed (l1 : Int) (j2 : Int64) (S : iS) : Option (Int × iS) := (j_X7_feed_0 l1 j2 S)
theorem jr_X7_feed {l1 : Int} {L1 : Int32} (h_l1 : L1.toInt = l1) {j2 J2 : Int64} (h_j2 : J2 = j2) {S : iS} {s : fS} (hs : sr S s) : rf rI (j_X7_feed l1 j2 S) (f_X7_feed L1 J2 s) := by
  unfold j_X7_feed f_X7_feed
  exact (jr_X7_feed_0 h_l1 h_j2 hs)
def j_X7_here_38 (t0 : Int) (S : iS) : Option (Int × iS) := (some (t0, S))
theorem jr_X7_here_38 {t0 : Int} {T0 : Int32} (h_t0 : T0.toInt = t0) {S : iS} {s : fS} (hs : sr S s) : rf rI (j_X7_here_38 t0 S) (f_X7_here_38 T0 s) := by
  unfold j_X7_here_38 f_X7_here_38
  exact (rf_some ⟨h_t0, hs⟩)
def j_X7_here_37 (S : iS) : Option (Int × iS) := (j_X7_here_38 (-1 : Int) S)
theorem jr_X7_here_37 {S : iS} {s : fS} (hs : sr S s) : rf rI (j_X7_here_37 S) (f_X7_here_37 s) := by
  unfold j_X7_here_37 f_X7_here_37
  exact (jr_X7_here_38 li_m1 hs)
def j_X7_here_0 (S : iS) : Option (Int × iS) := (if (jI S 82 2) ≤ (jI S 82 27) then (j_X7_here_37 S) else (if (0 ≤ (jI S 82 27) ∧ (jI S 82 27) < (jA S 83).length) then (if ((jA S 83).getD (jI S 82 27).toNat 0) = (10 : Int) then (j_X7_here_37 S) else (j_X7_here_38 ((jA S 83).getD (jI S 82 27).toNat 0) S)) else none))
theorem jr_X7_here_0 {S : iS} {s : fS} (hs : sr S s) : rf rI (j_X7_here_0 S) (f_X7_here_0 s) := by
  unfold j_X7_here_0 f_X7_here_0
  exact (rf_if (c_le (sr_gI hs rfl) (sr_gI hs rfl)) (jr_X7_here_37 hs) (rf_rg fun k1 => (rf_ck (k_in (sr_gI hs rfl) (sr_gA hs rfl) k1) (rf_if (c_eq (l_getD (sr_gA hs rfl) (i_nat (sr_gI hs rfl))) li_10) (jr_X7_here_37 hs) (rf_ck (k_in (sr_gI hs rfl) (sr_gA hs rfl) k1) (jr_X7_here_38 (l_getD (sr_gA hs rfl) (i_nat (sr_gI hs rfl))) hs))))))
def j_X7_here (S : iS) : Option (Int × iS) := (j_X7_here_0 S)
theorem jr_X7_here {S : iS} {s : fS} (hs : sr S s) : rf rI (j_X7_here S) (f_X7_here s) := by
  unfold j_X7_here f_X7_here
  exact (jr_X7_here_0 hs)
def j_X7_wrong_17 (l1 : Int) (l2 : Int) (S : iS) : Option iS := (some S)
theorem jr_X7_wrong_17 {l1 : Int} {L1 : Int32} (h_l1 : L1.toInt = l1) {l2 : Int} {L2 : Int32} (h_l2 : L2.toInt = l2) {S : iS} {s : fS} (hs : sr S s) : rf rV (j_X7_wrong_17 l1 l2 S) (f_X7_wrong_17 L1 L2 s) := by
  unfold j_X7_wrong_17 f_X7_wrong_17
  exact (rf_some hs)
def j_X7_wrong_0 (l1 : Int) (l2 : Int) (S : iS) : Option iS := (if ¬ (jI S 82 30) = (0 : Int) then (j_X7_wrong_17 l1 l2 S) else (j_X7_wrong_17 l1 l2 (kI (kI S 82 30 l1) 82 31 l2)))
theorem jr_X7_wrong_0 {l1 : Int} {L1 : Int32} (h_l1 : L1.toInt = l1) {l2 : Int} {L2 : Int32} (h_l2 : L2.toInt = l2) {S : iS} {s : fS} (hs : sr S s) : rf rV (j_X7_wrong_0 l1 l2 S) (f_X7_wrong_0 L1 L2 s) := by
  unfold j_X7_wrong_0 f_X7_wrong_0
  exact (rf_if (c_not (c_eq (sr_gI hs rfl) li_0)) (jr_X7_wrong_17 h_l1 h_l2 hs) (jr_X7_wrong_17 h_l1 h_l2 (sr_I (sr_I hs rfl h_l1) rfl h_l2)))
def j_X7_wrong (l1 : Int) (l2 : Int) (S : iS) : Option iS := (j_X7_wrong_0 l1 l2 S)
theorem jr_X7_wrong {l1 : Int} {L1 : Int32} (h_l1 : L1.toInt = l1) {l2 : Int} {L2 : Int32} (h_l2 : L2.toInt = l2) {S : iS} {s : fS} (hs : sr S s) : rf rV (j_X7_wrong l1 l2 S) (f_X7_wrong L1 L2 s) := by
  unfold j_X7_wrong f_X7_wrong
  exact (jr_X7_wrong_0 h_l1 h_l2 hs)
def j_X7_isFigure_0 (l0 : Int) (S : iS) : Option (Int × iS) := ((j_X7_in l0 (48 : Int) (57 : Int) S).bind fun qx1 => (if (qx1.1 = 0 ∨ qx1.1 = 1) then (some (qx1.1, qx1.2)) else none))
theorem jr_X7_isFigure_0 {l0 : Int} {L0 : Int32} (h_l0 : L0.toInt = l0) {S : iS} {s : fS} (hs : sr S s) : rf rI (j_X7_isFigure_0 l0 S) (f_X7_isFigure_0 L0 s) := by
  unfold j_X7_isFigure_0 f_X7_isFigure_0
  exact (rf_bind (jr_X7_in h_l0 li_48 li_57 hs) fun qx1 QX1 h_qx1 => (rf_rg fun k1 => (rf_ck (k_fbl h_qx1.1 k1) (rf_some ⟨h_qx1.1, h_qx1.2⟩))))
def j_X7_isFigure (l0 : Int) (S : iS) : Option (Int × iS) := (j_X7_isFigure_0 l0 S)
theorem jr_X7_isFigure {l0 : Int} {L0 : Int32} (h_l0 : L0.toInt = l0) {S : iS} {s : fS} (hs : sr S s) : rf rI (j_X7_isFigure l0 S) (f_X7_isFigure L0 s) := by
  unfold j_X7_isFigure f_X7_isFigure
  exact (jr_X7_isFigure_0 h_l0 hs)
def j_X7_isPlain_29 (l0 : Int) (t0 : Int) (S : iS) : Option (Int × iS) := (if (t0 = 0 ∨ t0 = 1) then (some (t0, S)) else none)
theorem jr_X7_isPlain_29 {l0 : Int} {L0 : Int32} (h_l0 : L0.toInt = l0) {t0 : Int} {T0 : Int32} (h_t0 : T0.toInt = t0) {S : iS} {s : fS} (hs : sr S s) : rf rI (j_X7_isPlain_29 l0 t0 S) (f_X7_isPlain_29 L0 T0 s) := by
  unfold j_X7_isPlain_29 f_X7_isPlain_29
  exact (rf_rg fun k1 => (rf_ck (k_fbl h_t0 k1) (rf_some ⟨h_t0, hs⟩)))
def j_X7_isPlain_24 (l0 : Int) (S : iS) : Option (Int × iS) := (j_X7_isPlain_29 l0 (1 : Int) S)
theorem jr_X7_isPlain_24 {l0 : Int} {L0 : Int32} (h_l0 : L0.toInt = l0) {S : iS} {s : fS} (hs : sr S s) : rf rI (j_X7_isPlain_24 l0 S) (f_X7_isPlain_24 L0 s) := by
  unfold j_X7_isPlain_24 f_X7_isPlain_24
  exact (jr_X7_isPlain_29 h_l0 li_1 hs)
def j_X7_isPlain_0 (l0 : Int) (S : iS) : Option (Int × iS) := ((j_X7_isFigure l0 S).bind fun qx1 => (if ¬ qx1.1 = (0 : Int) then (j_X7_isPlain_24 l0 qx1.2) else ((j_X7_in l0 (97 : Int) (122 : Int) qx1.2).bind fun qx2 => (if ¬ qx2.1 = (0 : Int) then (j_X7_isPlain_24 l0 qx2.2) else (if ¬ l0 = (95 : Int) then (j_X7_isPlain_29 l0 (0 : Int) qx2.2) else (j_X7_isPlain_24 l0 qx2.2))))))
theorem jr_X7_isPlain_0 {l0 : Int} {L0 : Int32} (h_l0 : L0.toInt = l0) {S : iS} {s : fS} (hs : sr S s) : rf rI (j_X7_isPlain_0 l0 S) (f_X7_isPlain_0 L0 s) := by
  unfold j_X7_isPlain_0 f_X7_isPlain_0
  exact (rf_bind (jr_X7_isFigure h_l0 hs) fun qx1 QX1 h_qx1 => (rf_if (c_not (c_eq h_qx1.1 li_0)) (jr_X7_isPlain_24 h_l0 h_qx1.2) (rf_bind (jr_X7_in h_l0 li_97 li_122 h_qx1.2) fun qx2 QX2 h_qx2 => (rf_if (c_not (c_eq h_qx2.1 li_0)) (jr_X7_isPlain_24 h_l0 h_qx2.2) (rf_if (c_not (c_eq h_l0 li_95)) (jr_X7_isPlain_29 h_l0 li_0 h_qx2.2) (jr_X7_isPlain_24 h_l0 h_qx2.2))))))
def j_X7_isPlain (l0 : Int) (S : iS) : Option (Int × iS) := (j_X7_isPlain_0 l0 S)
theorem jr_X7_isPlain {l0 : Int} {L0 : Int32} (h_l0 : L0.toInt = l0) {S : iS} {s : fS} (hs : sr S s) : rf rI (j_X7_isPlain l0 S) (f_X7_isPlain L0 s) := by
  unfold j_X7_isPlain f_X7_isPlain
  exact (jr_X7_isPlain_0 h_l0 hs)
def j_X7_blanks_0  : Nat → iS → Option iS
  | 0, _ => none
  | n + 1, S => ((j_X7_here S).bind fun qx1 => (if ¬ qx1.1 = (32 : Int) then (some qx1.2) else (if rg ((jI qx1.2 82 27) + (1 : Int)) then (j_X7_blanks_0 n (kI qx1.2 82 27 ((jI qx1.2 82 27) + (1 : Int)))) else none)))
theorem jr_X7_blanks_0  (n : Nat) : ∀ {S : iS} {s : fS} (hs : sr S s), rf rV (j_X7_blanks_0 n S) (f_X7_blanks_0 n s) := by
  induction n with
  | zero => intros; exact rf_none
  | succ n ih =>
    intro S s hs
    rw [j_X7_blanks_0, f_X7_blanks_0]
    exact (rf_bind (jr_X7_here hs) fun qx1 QX1 h_qx1 => (rf_if (c_not (c_eq h_qx1.1 li_32)) (rf_some h_qx1.2) (rf_rg fun k1 => (ih (sr_I h_qx1.2 rfl (i_add (sr_gI h_qx1.2 rfl) li_1 k1))))))
def j_X7_blanks (S : iS) : Option iS := (j_X7_blanks_0 fuel S)
theorem jr_X7_blanks {S : iS} {s : fS} (hs : sr S s) : rf rV (j_X7_blanks S) (f_X7_blanks s) := by
  unfold j_X7_blanks f_X7_blanks
  exact (jr_X7_blanks_0 fuel hs)
def j_X7_ended_33 (S : iS) : Option iS := (some S)
theorem jr_X7_ended_33 {S : iS} {s : fS} (hs : sr S s) : rf rV (j_X7_ended_33 S) (f_X7_ended_33 s) := by
  unfold j_X7_ended_33 f_X7_ended_33
  exact (rf_some hs)
def j_X7_ended_0 (S : iS) : Option iS := (if ¬ (jI S 82 30) = (0 : Int) then (j_X7_ended_33 S) else ((j_X7_here S).bind fun qx1 => (if qx1.1 = (32 : Int) then (j_X7_ended_33 qx1.2) else ((j_X7_here qx1.2).bind fun qx2 => (if qx2.1 = (-1 : Int) then (j_X7_ended_33 qx2.2) else ((j_X7_wrong (1 : Int) (jI qx2.2 82 27) qx2.2).bind fun qx3 => (j_X7_ended_33 qx3)))))))
theorem jr_X7_ended_0 {S : iS} {s : fS} (hs : sr S s) : rf rV (j_X7_ended_0 S) (f_X7_ended_0 s) := by
  unfold j_X7_ended_0 f_X7_ended_0
  exact (rf_if (c_not (c_eq (sr_gI hs rfl) li_0)) (jr_X7_ended_33 hs) (rf_bind (jr_X7_here hs) fun qx1 QX1 h_qx1 => (rf_if (c_eq h_qx1.1 li_32) (jr_X7_ended_33 h_qx1.2) (rf_bind (jr_X7_here h_qx1.2) fun qx2 QX2 h_qx2 => (rf_if (c_eq h_qx2.1 li_m1) (jr_X7_ended_33 h_qx2.2) (rf_bind (jr_X7_wrong li_1 (sr_gI h_qx2.2 rfl) h_qx2.2) fun qx3 QX3 h_qx3 => (jr_X7_ended_33 h_qx3)))))))
def j_X7_ended (S : iS) : Option iS := (j_X7_ended_0 S)
theorem jr_X7_ended {S : iS} {s : fS} (hs : sr S s) : rf rV (j_X7_ended S) (f_X7_ended s) := by
  unfold j_X7_ended f_X7_ended
  exact (jr_X7_ended_0 hs)
def j_X7_sign_42 (l1 : Int) (l2 : Int) (S : iS) : Option iS := (some S)
theorem jr_X7_sign_42 {l1 : Int} {L1 : Int32} (h_l1 : L1.toInt = l1) {l2 : Int} {L2 : Int32} (h_l2 : L2.toInt = l2) {S : iS} {s : fS} (hs : sr S s) : rf rV (j_X7_sign_42 l1 l2 S) (f_X7_sign_42 L1 L2 s) := by
  unfold j_X7_sign_42 f_X7_sign_42
  exact (rf_some hs)
def j_X7_sign_0 (l1 : Int) (l2 : Int) (S : iS) : Option iS := (if 0 < (jA S 103).length then (if ¬ ((jA S 103).getD 0 0) = (8 : Int) then (if rg (((jA S 103).getD 0 0) + (1 : Int)) then (if 0 < ((jA S 103).set 0 (((jA S 103).getD 0 0) + (1 : Int))).length then (if (0 ≤ (((jA S 103).set 0 (((jA S 103).getD 0 0) + (1 : Int))).getD 0 0) ∧ (((jA S 103).set 0 (((jA S 103).getD 0 0) + (1 : Int))).getD 0 0) < ((jA S 103).set 0 (((jA S 103).getD 0 0) + (1 : Int))).length) then (j_X7_sign_42 l1 l2 (kA (kA S 103 ((jA S 103).set 0 (((jA S 103).getD 0 0) + (1 : Int)))) 103 (((jA S 103).set 0 (((jA S 103).getD 0 0) + (1 : Int))).set (((jA S 103).set 0 (((jA S 103).getD 0 0) + (1 : Int))).getD 0 0).toNat l1))) else none) else none) else none) else ((j_X7_wrong (2 : Int) l2 S).bind fun qx1 => (j_X7_sign_42 l1 l2 qx1))) else none)
theorem jr_X7_sign_0 {l1 : Int} {L1 : Int32} (h_l1 : L1.toInt = l1) {l2 : Int} {L2 : Int32} (h_l2 : L2.toInt = l2) {S : iS} {s : fS} (hs : sr S s) : rf rV (j_X7_sign_0 l1 l2 S) (f_X7_sign_0 L1 L2 s) := by
  unfold j_X7_sign_0 f_X7_sign_0
  exact (rf_rg fun k1 => (rf_ck (k_inl ix_0 li_0 (sr_gA hs rfl) k1) (rf_if (c_not (c_eq (l_getD (sr_gA hs rfl) ix_0) li_8)) (rf_ck (k_inl ix_0 li_0 (sr_gA hs rfl) k1) (rf_ck (k_inl ix_0 li_0 (sr_gA hs rfl) k1) (rf_rg fun k2 => (rf_rg fun k3 => (rf_ck (k_inl ix_0 li_0 (l_set (sr_gA hs rfl) ix_0 (i_add (l_getD (sr_gA hs rfl) ix_0) li_1 k2)) k3) (rf_rg fun k4 => (rf_ck (k_in (l_getD (l_set (sr_gA hs rfl) ix_0 (i_add (l_getD (sr_gA hs rfl) ix_0) li_1 k2)) ix_0) (l_set (sr_gA hs rfl) ix_0 (i_add (l_getD (sr_gA hs rfl) ix_0) li_1 k2)) k4) (jr_X7_sign_42 h_l1 h_l2 (sr_A (sr_A hs rfl (l_set (sr_gA hs rfl) ix_0 (i_add (l_getD (sr_gA hs rfl) ix_0) li_1 k2))) rfl (l_set (l_set (sr_gA hs rfl) ix_0 (i_add (l_getD (sr_gA hs rfl) ix_0) li_1 k2)) (i_nat (l_getD (l_set (sr_gA hs rfl) ix_0 (i_add (l_getD (sr_gA hs rfl) ix_0) li_1 k2)) ix_0)) h_l1)))))))))) (rf_bind (jr_X7_wrong li_2 h_l2 hs) fun qx1 QX1 h_qx1 => (jr_X7_sign_42 h_l1 h_l2 h_qx1)))))
def j_X7_sign (l1 : Int) (l2 : Int) (S : iS) : Option iS := (j_X7_sign_0 l1 l2 S)
theorem jr_X7_sign {l1 : Int} {L1 : Int32} (h_l1 : L1.toInt = l1) {l2 : Int} {L2 : Int32} (h_l2 : L2.toInt = l2) {S : iS} {s : fS} (hs : sr S s) : rf rV (j_X7_sign l1 l2 S) (f_X7_sign L1 L2 s) := by
  unfold j_X7_sign f_X7_sign
  exact (jr_X7_sign_0 h_l1 h_l2 hs)
def j_X7_readQuoted_173 (l1 : Int) (S : iS) : Option iS := (some S)
theorem jr_X7_readQuoted_173 {l1 : Int} {L1 : Int32} (h_l1 : L1.toInt = l1) {S : iS} {s : fS} (hs : sr S s) : rf rV (j_X7_readQuoted_173 l1 S) (f_X7_readQuoted_173 L1 s) := by
  unfold j_X7_readQuoted_173 f_X7_readQuoted_173
  exact (rf_some hs)
def j_X7_readQuoted_160 (r2 : Int → iS → Option iS) (l1 : Int) (l2 : Int) (S : iS) : Option iS := (if rg ((jI S 82 27) + (1 : Int)) then (r2 l1 (kI S 82 27 ((jI S 82 27) + (1 : Int)))) else none)
theorem jr_X7_readQuoted_160 {r2 : Int → iS → Option iS} {R2 : Int32 → fS → Option fS} (h_r2 : ∀ {y0 : Int} {Y0 : Int32} (h_y0 : Y0.toInt = y0) {S : iS} {s : fS} (hs : sr S s), rf rV (r2 y0 S) (R2 Y0 s)) {l1 : Int} {L1 : Int32} (h_l1 : L1.toInt = l1) {l2 : Int} {L2 : Int32} (h_l2 : L2.toInt = l2) {S : iS} {s : fS} (hs : sr S s) : rf rV (j_X7_readQuoted_160 r2 l1 l2 S) (f_X7_readQuoted_160 R2 L1 L2 s) := by
  unfold j_X7_readQuoted_160 f_X7_readQuoted_160
  exact (rf_rg fun k1 => (h_r2 h_l1 (sr_I hs rfl (i_add (sr_gI hs rfl) li_1 k1))))
def j_X7_readQuoted_44 (r2 : Int → iS → Option iS) (l1 : Int) (l2 : Int) (S : iS) : Option iS := ((j_X7_wrong (1 : Int) (jI S 82 27) S).bind fun qx1 => (j_X7_readQuoted_160 r2 l1 l2 qx1))
theorem jr_X7_readQuoted_44 {r2 : Int → iS → Option iS} {R2 : Int32 → fS → Option fS} (h_r2 : ∀ {y0 : Int} {Y0 : Int32} (h_y0 : Y0.toInt = y0) {S : iS} {s : fS} (hs : sr S s), rf rV (r2 y0 S) (R2 Y0 s)) {l1 : Int} {L1 : Int32} (h_l1 : L1.toInt = l1) {l2 : Int} {L2 : Int32} (h_l2 : L2.toInt = l2) {S : iS} {s : fS} (hs : sr S s) : rf rV (j_X7_readQuoted_44 r2 l1 l2 S) (f_X7_readQuoted_44 R2 L1 L2 s) := by
  unfold j_X7_readQuoted_44 f_X7_readQuoted_44
  exact (rf_bind (jr_X7_wrong li_1 (sr_gI hs rfl) hs) fun qx1 QX1 h_qx1 => (jr_X7_readQuoted_160 h_r2 h_l1 h_l2 h_qx1))
def j_X7_readQuoted_124 (r2 : Int → iS → Option iS) (l1 : Int) (l2 : Int) (S : iS) : Option iS := ((j_X7_here S).bind fun qx1 => ((j_X7_sign qx1.1 (jI qx1.2 82 27) qx1.2).bind fun qx2 => (j_X7_readQuoted_160 r2 l1 l2 qx2)))
theorem jr_X7_readQuoted_124 {r2 : Int → iS → Option iS} {R2 : Int32 → fS → Option fS} (h_r2 : ∀ {y0 : Int} {Y0 : Int32} (h_y0 : Y0.toInt = y0) {S : iS} {s : fS} (hs : sr S s), rf rV (r2 y0 S) (R2 Y0 s)) {l1 : Int} {L1 : Int32} (h_l1 : L1.toInt = l1) {l2 : Int} {L2 : Int32} (h_l2 : L2.toInt = l2) {S : iS} {s : fS} (hs : sr S s) : rf rV (j_X7_readQuoted_124 r2 l1 l2 S) (f_X7_readQuoted_124 R2 L1 L2 s) := by
  unfold j_X7_readQuoted_124 f_X7_readQuoted_124
  exact (rf_bind (jr_X7_here hs) fun qx1 QX1 h_qx1 => (rf_bind (jr_X7_sign h_qx1.1 (sr_gI h_qx1.2 rfl) h_qx1.2) fun qx2 QX2 h_qx2 => (jr_X7_readQuoted_160 h_r2 h_l1 h_l2 h_qx2)))
def j_X7_readQuoted_56 (r2 : Int → iS → Option iS) (l1 : Int) (l2 : Int) (S : iS) : Option iS := (if ¬ l2 = (34 : Int) then (if 0 < (jA S 103).length then (if ¬ ((jA S 103).getD 0 0) = (8 : Int) then (if ¬ l2 = (92 : Int) then ((j_X7_sign l2 (jI S 82 27) S).bind fun qx1 => (j_X7_readQuoted_160 r2 l1 l2 qx1)) else (if rg ((jI S 82 27) + (1 : Int)) then ((j_X7_here (kI S 82 27 ((jI S 82 27) + (1 : Int)))).bind fun qx2 => (if qx2.1 = (34 : Int) then (j_X7_readQuoted_124 r2 l1 l2 qx2.2) else ((j_X7_here qx2.2).bind fun qx3 => (if ¬ qx3.1 = (92 : Int) then ((j_X7_wrong (1 : Int) (jI qx3.2 82 27) qx3.2).bind fun qx4 => (j_X7_readQuoted_160 r2 l1 l2 qx4)) else (j_X7_readQuoted_124 r2 l1 l2 qx3.2))))) else none)) else ((j_X7_wrong (2 : Int) (jI S 82 27) S).bind fun qx5 => (j_X7_readQuoted_160 r2 l1 l2 qx5))) else none) else (j_X7_readQuoted_160 r2 (0 : Int) l2 S))
theorem jr_X7_readQuoted_56 {r2 : Int → iS → Option iS} {R2 : Int32 → fS → Option fS} (h_r2 : ∀ {y0 : Int} {Y0 : Int32} (h_y0 : Y0.toInt = y0) {S : iS} {s : fS} (hs : sr S s), rf rV (r2 y0 S) (R2 Y0 s)) {l1 : Int} {L1 : Int32} (h_l1 : L1.toInt = l1) {l2 : Int} {L2 : Int32} (h_l2 : L2.toInt = l2) {S : iS} {s : fS} (hs : sr S s) : rf rV (j_X7_readQuoted_56 r2 l1 l2 S) (f_X7_readQuoted_56 R2 L1 L2 s) := by
  unfold j_X7_readQuoted_56 f_X7_readQuoted_56
  exact (rf_if (c_not (c_eq h_l2 li_34)) (rf_rg fun k1 => (rf_ck (k_inl ix_0 li_0 (sr_gA hs rfl) k1) (rf_if (c_not (c_eq (l_getD (sr_gA hs rfl) ix_0) li_8)) (rf_if (c_not (c_eq h_l2 li_92)) (rf_bind (jr_X7_sign h_l2 (sr_gI hs rfl) hs) fun qx1 QX1 h_qx1 => (jr_X7_readQuoted_160 h_r2 h_l1 h_l2 h_qx1)) (rf_rg fun k2 => (rf_bind (jr_X7_here (sr_I hs rfl (i_add (sr_gI hs rfl) li_1 k2))) fun qx2 QX2 h_qx2 => (rf_if (c_eq h_qx2.1 li_34) (jr_X7_readQuoted_124 h_r2 h_l1 h_l2 h_qx2.2) (rf_bind (jr_X7_here h_qx2.2) fun qx3 QX3 h_qx3 => (rf_if (c_not (c_eq h_qx3.1 li_92)) (rf_bind (jr_X7_wrong li_1 (sr_gI h_qx3.2 rfl) h_qx3.2) fun qx4 QX4 h_qx4 => (jr_X7_readQuoted_160 h_r2 h_l1 h_l2 h_qx4)) (jr_X7_readQuoted_124 h_r2 h_l1 h_l2 h_qx3.2))))))) (rf_bind (jr_X7_wrong li_2 (sr_gI hs rfl) hs) fun qx5 QX5 h_qx5 => (jr_X7_readQuoted_160 h_r2 h_l1 h_l2 h_qx5))))) (jr_X7_readQuoted_160 h_r2 li_0 h_l2 hs))
def j_X7_readQuoted_2  : Nat → Int → iS → Option iS
  | 0, _, _ => none
  | n + 1, l1, S => (if l1 = (0 : Int) then (j_X7_readQuoted_173 l1 S) else (if ¬ (jI S 82 30) = (0 : Int) then (j_X7_readQuoted_173 l1 S) else ((j_X7_here S).bind fun qx1 => ((j_X7_in qx1.1 (32 : Int) (126 : Int) qx1.2).bind fun qx2 => (if qx2.1 = (0 : Int) then (j_X7_readQuoted_44 (fun l1' S' => j_X7_readQuoted_2 n l1' S') l1 qx1.1 qx2.2) else (if ¬ qx1.1 = (34 : Int) then (j_X7_readQuoted_56 (fun l1' S' => j_X7_readQuoted_2 n l1' S') l1 qx1.1 qx2.2) else (if 0 < (jA qx2.2 103).length then (if ¬ ((jA qx2.2 103).getD 0 0) = (0 : Int) then (j_X7_readQuoted_56 (fun l1' S' => j_X7_readQuoted_2 n l1' S') l1 qx1.1 qx2.2) else (j_X7_readQuoted_44 (fun l1' S' => j_X7_readQuoted_2 n l1' S') l1 qx1.1 qx2.2)) else none)))))))
theorem jr_X7_readQuoted_2  (n : Nat) : ∀ {l1 : Int} {L1 : Int32} (h_l1 : L1.toInt = l1) {S : iS} {s : fS} (hs : sr S s), rf rV (j_X7_readQuoted_2 n l1 S) (f_X7_readQuoted_2 n L1 s) := by
  induction n with
  | zero => intros; exact rf_none
  | succ n ih =>
    intro l1 L1 h_l1 S s hs
    rw [j_X7_readQuoted_2, f_X7_readQuoted_2]
    exact (rf_if (c_eq h_l1 li_0) (jr_X7_readQuoted_173 h_l1 hs) (rf_if (c_not (c_eq (sr_gI hs rfl) li_0)) (jr_X7_readQuoted_173 h_l1 hs) (rf_bind (jr_X7_here hs) fun qx1 QX1 h_qx1 => (rf_bind (jr_X7_in h_qx1.1 li_32 li_126 h_qx1.2) fun qx2 QX2 h_qx2 => (rf_if (c_eq h_qx2.1 li_0) (jr_X7_readQuoted_44 (@fun _ _ h_l1' _ _ hs' => (ih h_l1' hs')) h_l1 h_qx1.1 h_qx2.2) (rf_if (c_not (c_eq h_qx1.1 li_34)) (jr_X7_readQuoted_56 (@fun _ _ h_l1' _ _ hs' => (ih h_l1' hs')) h_l1 h_qx1.1 h_qx2.2) (rf_rg fun k1 => (rf_ck (k_inl ix_0 li_0 (sr_gA h_qx2.2 rfl) k1) (rf_if (c_not (c_eq (l_getD (sr_gA h_qx2.2 rfl) ix_0) li_0)) (jr_X7_readQuoted_56 (@fun _ _ h_l1' _ _ hs' => (ih h_l1' hs')) h_l1 h_qx1.1 h_qx2.2) (jr_X7_readQuoted_44 (@fun _ _ h_l1' _ _ hs' => (ih h_l1' hs')) h_l1 h_qx1.1 h_qx2.2))))))))))
def j_X7_readQuoted_0 (S : iS) : Option iS := (j_X7_readQuoted_2 fuel (1 : Int) S)
theorem jr_X7_readQuoted_0 {S : iS} {s : fS} (hs : sr S s) : rf rV (j_X7_readQuoted_0 S) (f_X7_readQuoted_0 s) := by
  unfold j_X7_readQuoted_0 f_X7_readQuoted_0
  exact (jr_X7_readQuoted_2 fuel li_1 hs)
def j_X7_readQuoted (S : iS) : Option iS := (j_X7_readQuoted_0 S)
theorem jr_X7_readQuoted {S : iS} {s : fS} (hs : sr S s) : rf rV (j_X7_readQuoted S) (f_X7_readQuoted s) := by
  unfold j_X7_readQuoted f_X7_readQuoted
  exact (jr_X7_readQuoted_0 hs)
def j_X7_readName_97 (S : iS) : Option iS := ((j_X7_ended S).bind fun qx1 => (some qx1))
theorem jr_X7_readName_97 {S : iS} {s : fS} (hs : sr S s) : rf rV (j_X7_readName_97 S) (f_X7_readName_97 s) := by
  unfold j_X7_readName_97 f_X7_readName_97
  exact (rf_bind (jr_X7_ended hs) fun qx1 QX1 h_qx1 => (rf_some h_qx1))
def j_X7_readName_55  : Nat → iS → Option iS
  | 0, _ => none
  | n + 1, S => (if ¬ (jI S 82 30) = (0 : Int) then (j_X7_readName_97 S) else ((j_X7_here S).bind fun qx1 => ((j_X7_isPlain qx1.1 qx1.2).bind fun qx2 => (if qx2.1 = (0 : Int) then (j_X7_readName_97 qx2.2) else ((j_X7_here qx2.2).bind fun qx3 => ((j_X7_sign qx3.1 (jI qx3.2 82 27) qx3.2).bind fun qx4 => (if rg ((jI qx4 82 27) + (1 : Int)) then (j_X7_readName_55 n (kI qx4 82 27 ((jI qx4 82 27) + (1 : Int)))) else none)))))))
theorem jr_X7_readName_55  (n : Nat) : ∀ {S : iS} {s : fS} (hs : sr S s), rf rV (j_X7_readName_55 n S) (f_X7_readName_55 n s) := by
  induction n with
  | zero => intros; exact rf_none
  | succ n ih =>
    intro S s hs
    rw [j_X7_readName_55, f_X7_readName_55]
    exact (rf_if (c_not (c_eq (sr_gI hs rfl) li_0)) (jr_X7_readName_97 hs) (rf_bind (jr_X7_here hs) fun qx1 QX1 h_qx1 => (rf_bind (jr_X7_isPlain h_qx1.1 h_qx1.2) fun qx2 QX2 h_qx2 => (rf_if (c_eq h_qx2.1 li_0) (jr_X7_readName_97 h_qx2.2) (rf_bind (jr_X7_here h_qx2.2) fun qx3 QX3 h_qx3 => (rf_bind (jr_X7_sign h_qx3.1 (sr_gI h_qx3.2 rfl) h_qx3.2) fun qx4 QX4 h_qx4 => (rf_rg fun k1 => (ih (sr_I h_qx4 rfl (i_add (sr_gI h_qx4 rfl) li_1 k1))))))))))
def j_X7_readName_0 (S : iS) : Option iS := (if 0 < (jA S 103).length then ((j_X7_here (kA S 103 ((jA S 103).set 0 (0 : Int)))).bind fun qx1 => (if ¬ qx1.1 = (34 : Int) then ((j_X7_here qx1.2).bind fun qx2 => ((j_X7_isPlain qx2.1 qx2.2).bind fun qx3 => (if ¬ qx3.1 = (0 : Int) then (j_X7_readName_55 fuel qx3.2) else ((j_X7_wrong (1 : Int) (jI qx3.2 82 27) qx3.2).bind fun qx4 => (j_X7_readName_97 qx4))))) else (if rg ((jI qx1.2 82 27) + (1 : Int)) then ((j_X7_readQuoted (kI qx1.2 82 27 ((jI qx1.2 82 27) + (1 : Int)))).bind fun qx5 => (j_X7_readName_97 qx5)) else none))) else none)
theorem jr_X7_readName_0 {S : iS} {s : fS} (hs : sr S s) : rf rV (j_X7_readName_0 S) (f_X7_readName_0 s) := by
  unfold j_X7_readName_0 f_X7_readName_0
  exact (rf_rg fun k1 => (rf_ck (k_inl ix_0 li_0 (sr_gA hs rfl) k1) (rf_bind (jr_X7_here (sr_A hs rfl (l_set (sr_gA hs rfl) ix_0 li_0))) fun qx1 QX1 h_qx1 => (rf_if (c_not (c_eq h_qx1.1 li_34)) (rf_bind (jr_X7_here h_qx1.2) fun qx2 QX2 h_qx2 => (rf_bind (jr_X7_isPlain h_qx2.1 h_qx2.2) fun qx3 QX3 h_qx3 => (rf_if (c_not (c_eq h_qx3.1 li_0)) (jr_X7_readName_55 fuel h_qx3.2) (rf_bind (jr_X7_wrong li_1 (sr_gI h_qx3.2 rfl) h_qx3.2) fun qx4 QX4 h_qx4 => (jr_X7_readName_97 h_qx4))))) (rf_rg fun k2 => (rf_bind (jr_X7_readQuoted (sr_I h_qx1.2 rfl (i_add (sr_gI h_qx1.2 rfl) li_1 k2))) fun qx5 QX5 h_qx5 => (jr_X7_readName_97 h_qx5)))))))
def j_X7_readName (S : iS) : Option iS := (j_X7_readName_0 S)
theorem jr_X7_readName {S : iS} {s : fS} (hs : sr S s) : rf rV (j_X7_readName S) (f_X7_readName s) := by
  unfold j_X7_readName f_X7_readName
  exact (jr_X7_readName_0 hs)
def j_X7_readDecimals_128 (l1 : Int) (S : iS) : Option iS := (some S)
theorem jr_X7_readDecimals_128 {l1 : Int} {L1 : Int32} (h_l1 : L1.toInt = l1) {S : iS} {s : fS} (hs : sr S s) : rf rV (j_X7_readDecimals_128 l1 S) (f_X7_readDecimals_128 L1 s) := by
  unfold j_X7_readDecimals_128 f_X7_readDecimals_128
  exact (rf_some hs)
def j_X7_readDecimals_47  : Nat → Int → iS → Option iS
  | 0, _, _ => none
  | n + 1, l1, S => (if ¬ (jI S 82 30) = (0 : Int) then (j_X7_readDecimals_128 l1 S) else ((j_X7_here S).bind fun qx1 => ((j_X7_isFigure qx1.1 qx1.2).bind fun qx2 => (if qx2.1 = (0 : Int) then (j_X7_readDecimals_128 l1 qx2.2) else (if ¬ l1 = (0 : Int) then ((j_X7_here qx2.2).bind fun qx3 => (if rg (qx3.1 - (48 : Int)) then (if rg (l1 * (qx3.1 - (48 : Int))) then (if rg ((jI qx2.2 82 34) + (l1 * (qx3.1 - (48 : Int)))) then ((j_X7_here (kI qx3.2 82 34 ((jI qx2.2 82 34) + (l1 * (qx3.1 - (48 : Int)))))).bind fun qx4 => ((j_X7_sign qx4.1 (jI qx4.2 82 27) qx4.2).bind fun qx5 => (if (0 ≤ l1 ∧ 0 < (10 : Int)) then (if rg ((jI qx5 82 27) + (1 : Int)) then (j_X7_readDecimals_47 n (l1 / (10 : Int)) (kI qx5 82 27 ((jI qx5 82 27) + (1 : Int)))) else none) else none))) else none) else none) else none)) else ((j_X7_wrong (2 : Int) (jI qx2.2 82 27) qx2.2).bind fun qx6 => (j_X7_readDecimals_47 n l1 qx6)))))))
theorem jr_X7_readDecimals_47  (n : Nat) : ∀ {l1 : Int} {L1 : Int32} (h_l1 : L1.toInt = l1) {S : iS} {s : fS} (hs : sr S s), rf rV (j_X7_readDecimals_47 n l1 S) (f_X7_readDecimals_47 n L1 s) := by
  induction n with
  | zero => intros; exact rf_none
  | succ n ih =>
    intro l1 L1 h_l1 S s hs
    rw [j_X7_readDecimals_47, f_X7_readDecimals_47]
    exact (rf_if (c_not (c_eq (sr_gI hs rfl) li_0)) (jr_X7_readDecimals_128 h_l1 hs) (rf_bind (jr_X7_here hs) fun qx1 QX1 h_qx1 => (rf_bind (jr_X7_isFigure h_qx1.1 h_qx1.2) fun qx2 QX2 h_qx2 => (rf_if (c_eq h_qx2.1 li_0) (jr_X7_readDecimals_128 h_l1 h_qx2.2) (rf_if (c_not (c_eq h_l1 li_0)) (rf_bind (jr_X7_here h_qx2.2) fun qx3 QX3 h_qx3 => (rf_rg fun k1 => (rf_rg fun k2 => (rf_rg fun k3 => (rf_bind (jr_X7_here (sr_I h_qx3.2 rfl (i_add (sr_gI h_qx2.2 rfl) (i_mul h_l1 (i_sub h_qx3.1 li_48 k1) k2) k3))) fun qx4 QX4 h_qx4 => (rf_bind (jr_X7_sign h_qx4.1 (sr_gI h_qx4.2 rfl) h_qx4.2) fun qx5 QX5 h_qx5 => (rf_rg fun k4 => (rf_rg fun k5 => (ih (i_div h_l1 li_10 k4) (sr_I h_qx5 rfl (i_add (sr_gI h_qx5 rfl) li_1 k5))))))))))) (rf_bind (jr_X7_wrong li_2 (sr_gI h_qx2.2 rfl) h_qx2.2) fun qx6 QX6 h_qx6 => (ih h_l1 h_qx6)))))))
def j_X7_readDecimals_0 (S : iS) : Option iS := ((j_X7_sign (46 : Int) (jI S 82 27) (kI S 82 33 (2 : Int))).bind fun qx1 => (if rg ((jI qx1 82 27) + (1 : Int)) then ((j_X7_here (kI qx1 82 27 ((jI qx1 82 27) + (1 : Int)))).bind fun qx2 => ((j_X7_isFigure qx2.1 qx2.2).bind fun qx3 => (if ¬ qx3.1 = (0 : Int) then (j_X7_readDecimals_47 fuel (100 : Int) qx3.2) else ((j_X7_wrong (1 : Int) (jI qx3.2 82 27) qx3.2).bind fun qx4 => (j_X7_readDecimals_47 fuel (100 : Int) qx4))))) else none))
theorem jr_X7_readDecimals_0 {S : iS} {s : fS} (hs : sr S s) : rf rV (j_X7_readDecimals_0 S) (f_X7_readDecimals_0 s) := by
  unfold j_X7_readDecimals_0 f_X7_readDecimals_0
  exact (rf_bind (jr_X7_sign li_46 (sr_gI hs rfl) (sr_I hs rfl li_2)) fun qx1 QX1 h_qx1 => (rf_rg fun k1 => (rf_bind (jr_X7_here (sr_I h_qx1 rfl (i_add (sr_gI h_qx1 rfl) li_1 k1))) fun qx2 QX2 h_qx2 => (rf_bind (jr_X7_isFigure h_qx2.1 h_qx2.2) fun qx3 QX3 h_qx3 => (rf_if (c_not (c_eq h_qx3.1 li_0)) (jr_X7_readDecimals_47 fuel li_100 h_qx3.2) (rf_bind (jr_X7_wrong li_1 (sr_gI h_qx3.2 rfl) h_qx3.2) fun qx4 QX4 h_qx4 => (jr_X7_readDecimals_47 fuel li_100 h_qx4)))))))
def j_X7_readDecimals (S : iS) : Option iS := (j_X7_readDecimals_0 S)
theorem jr_X7_readDecimals {S : iS} {s : fS} (hs : sr S s) : rf rV (j_X7_readDecimals S) (f_X7_readDecimals s) := by
  unfold j_X7_readDecimals f_X7_readDecimals
  exact (jr_X7_readDecimals_0 hs)
def j_X7_readNumber_298 (l1 : Int) (l2 : Int) (l3 : Int) (l4 : Int) (l5 : Int) (t0 : Int) (S : iS) : Option iS := ((j_X7_ended (kI S 82 34 t0)).bind fun qx1 => (some qx1))
theorem jr_X7_readNumber_298 {l1 : Int} {L1 : Int32} (h_l1 : L1.toInt = l1) {l2 : Int} {L2 : Int32} (h_l2 : L2.toInt = l2) {l3 : Int} {L3 : Int32} (h_l3 : L3.toInt = l3) {l4 : Int} {L4 : Int32} (h_l4 : L4.toInt = l4) {l5 : Int} {L5 : Int32} (h_l5 : L5.toInt = l5) {t0 : Int} {T0 : Int32} (h_t0 : T0.toInt = t0) {S : iS} {s : fS} (hs : sr S s) : rf rV (j_X7_readNumber_298 l1 l2 l3 l4 l5 t0 S) (f_X7_readNumber_298 L1 L2 L3 L4 L5 T0 s) := by
  unfold j_X7_readNumber_298 f_X7_readNumber_298
  exact (rf_bind (jr_X7_ended (sr_I hs rfl h_t0)) fun qx1 QX1 h_qx1 => (rf_some h_qx1))
def j_X7_readNumber_281 (l1 : Int) (l2 : Int) (l3 : Int) (l4 : Int) (l5 : Int) (S : iS) : Option iS := (if l2 = (0 : Int) then (j_X7_readNumber_298 l1 l2 l3 l4 l5 (jI S 82 34) S) else (if rg (-(jI S 82 34)) then (j_X7_readNumber_298 l1 l2 l3 l4 l5 (-(jI S 82 34)) S) else none))
theorem jr_X7_readNumber_281 {l1 : Int} {L1 : Int32} (h_l1 : L1.toInt = l1) {l2 : Int} {L2 : Int32} (h_l2 : L2.toInt = l2) {l3 : Int} {L3 : Int32} (h_l3 : L3.toInt = l3) {l4 : Int} {L4 : Int32} (h_l4 : L4.toInt = l4) {l5 : Int} {L5 : Int32} (h_l5 : L5.toInt = l5) {S : iS} {s : fS} (hs : sr S s) : rf rV (j_X7_readNumber_281 l1 l2 l3 l4 l5 S) (f_X7_readNumber_281 L1 L2 L3 L4 L5 s) := by
  unfold j_X7_readNumber_281 f_X7_readNumber_281
  exact (rf_if (c_eq h_l2 li_0) (jr_X7_readNumber_298 h_l1 h_l2 h_l3 h_l4 h_l5 (sr_gI hs rfl) hs) (rf_rg fun k1 => (jr_X7_readNumber_298 h_l1 h_l2 h_l3 h_l4 h_l5 (i_neg (sr_gI hs rfl) k1) hs)))
def j_X7_readNumber_259 (l1 : Int) (l2 : Int) (l3 : Int) (l4 : Int) (l5 : Int) (S : iS) : Option iS := (if ¬ (jI S 82 30) = (0 : Int) then (j_X7_readNumber_281 l1 l2 l3 l4 l5 S) else (if l2 = (0 : Int) then (j_X7_readNumber_281 l1 l2 l3 l4 l5 S) else (if ¬ l4 = (0 : Int) then (j_X7_readNumber_281 l1 l2 l3 l4 l5 S) else ((j_X7_wrong (1 : Int) l3 S).bind fun qx1 => (j_X7_readNumber_281 l1 l2 l3 l4 l5 qx1)))))
theorem jr_X7_readNumber_259 {l1 : Int} {L1 : Int32} (h_l1 : L1.toInt = l1) {l2 : Int} {L2 : Int32} (h_l2 : L2.toInt = l2) {l3 : Int} {L3 : Int32} (h_l3 : L3.toInt = l3) {l4 : Int} {L4 : Int32} (h_l4 : L4.toInt = l4) {l5 : Int} {L5 : Int32} (h_l5 : L5.toInt = l5) {S : iS} {s : fS} (hs : sr S s) : rf rV (j_X7_readNumber_259 l1 l2 l3 l4 l5 S) (f_X7_readNumber_259 L1 L2 L3 L4 L5 s) := by
  unfold j_X7_readNumber_259 f_X7_readNumber_259
  exact (rf_if (c_not (c_eq (sr_gI hs rfl) li_0)) (jr_X7_readNumber_281 h_l1 h_l2 h_l3 h_l4 h_l5 hs) (rf_if (c_eq h_l2 li_0) (jr_X7_readNumber_281 h_l1 h_l2 h_l3 h_l4 h_l5 hs) (rf_if (c_not (c_eq h_l4 li_0)) (jr_X7_readNumber_281 h_l1 h_l2 h_l3 h_l4 h_l5 hs) (rf_bind (jr_X7_wrong li_1 h_l3 hs) fun qx1 QX1 h_qx1 => (jr_X7_readNumber_281 h_l1 h_l2 h_l3 h_l4 h_l5 h_qx1)))))
def j_X7_readNumber_200 (l1 : Int) (l2 : Int) (l3 : Int) (l4 : Int) (l5 : Int) (S : iS) : Option iS := (if ¬ (jI S 82 30) = (0 : Int) then (if rg ((1000 : Int) * l4) then (j_X7_readNumber_259 l1 l2 l3 l4 l5 (kI (kI S 82 33 (1 : Int)) 82 34 ((1000 : Int) * l4))) else none) else (if ¬ l1 = (0 : Int) then (if rg ((1000 : Int) * l4) then (j_X7_readNumber_259 l1 l2 l3 l4 l5 (kI (kI S 82 33 (1 : Int)) 82 34 ((1000 : Int) * l4))) else none) else (if rg ((1000 : Int) * l4) then ((j_X7_here (kI (kI S 82 33 (1 : Int)) 82 34 ((1000 : Int) * l4))).bind fun qx1 => (if ¬ qx1.1 = (46 : Int) then (j_X7_readNumber_259 l1 l2 l3 l4 l5 qx1.2) else (if l5 ≤ (3 : Int) then ((j_X7_readDecimals qx1.2).bind fun qx2 => (j_X7_readNumber_281 l1 l2 l3 l4 l5 qx2)) else (if rg (l3 + (3 : Int)) then ((j_X7_wrong (2 : Int) (l3 + (3 : Int)) qx1.2).bind fun qx3 => (j_X7_readNumber_281 l1 l2 l3 l4 l5 qx3)) else none)))) else none)))
theorem jr_X7_readNumber_200 {l1 : Int} {L1 : Int32} (h_l1 : L1.toInt = l1) {l2 : Int} {L2 : Int32} (h_l2 : L2.toInt = l2) {l3 : Int} {L3 : Int32} (h_l3 : L3.toInt = l3) {l4 : Int} {L4 : Int32} (h_l4 : L4.toInt = l4) {l5 : Int} {L5 : Int32} (h_l5 : L5.toInt = l5) {S : iS} {s : fS} (hs : sr S s) : rf rV (j_X7_readNumber_200 l1 l2 l3 l4 l5 S) (f_X7_readNumber_200 L1 L2 L3 L4 L5 s) := by
  unfold j_X7_readNumber_200 f_X7_readNumber_200
  exact (rf_if (c_not (c_eq (sr_gI hs rfl) li_0)) (rf_rg fun k1 => (jr_X7_readNumber_259 h_l1 h_l2 h_l3 h_l4 h_l5 (sr_I (sr_I hs rfl li_1) rfl (i_mul li_1000 h_l4 k1)))) (rf_if (c_not (c_eq h_l1 li_0)) (rf_rg fun k2 => (jr_X7_readNumber_259 h_l1 h_l2 h_l3 h_l4 h_l5 (sr_I (sr_I hs rfl li_1) rfl (i_mul li_1000 h_l4 k2)))) (rf_rg fun k3 => (rf_bind (jr_X7_here (sr_I (sr_I hs rfl li_1) rfl (i_mul li_1000 h_l4 k3))) fun qx1 QX1 h_qx1 => (rf_if (c_not (c_eq h_qx1.1 li_46)) (jr_X7_readNumber_259 h_l1 h_l2 h_l3 h_l4 h_l5 h_qx1.2) (rf_if (c_le h_l5 li_3) (rf_bind (jr_X7_readDecimals h_qx1.2) fun qx2 QX2 h_qx2 => (jr_X7_readNumber_281 h_l1 h_l2 h_l3 h_l4 h_l5 h_qx2)) (rf_rg fun k4 => (rf_bind (jr_X7_wrong li_2 (i_add h_l3 li_3 k4) h_qx1.2) fun qx3 QX3 h_qx3 => (jr_X7_readNumber_281 h_l1 h_l2 h_l3 h_l4 h_l5 h_qx3)))))))))
def j_X7_readNumber_179 (l1 : Int) (l2 : Int) (l3 : Int) (l4 : Int) (l5 : Int) (S : iS) : Option iS := (if ¬ (jI S 82 30) = (0 : Int) then (j_X7_readNumber_200 l1 l2 l3 l4 l5 S) else (if ¬ l5 = (0 : Int) then (j_X7_readNumber_200 l1 l2 l3 l4 l5 S) else ((j_X7_wrong (1 : Int) (jI S 82 27) S).bind fun qx1 => (j_X7_readNumber_200 l1 l2 l3 l4 l5 qx1))))
theorem jr_X7_readNumber_179 {l1 : Int} {L1 : Int32} (h_l1 : L1.toInt = l1) {l2 : Int} {L2 : Int32} (h_l2 : L2.toInt = l2) {l3 : Int} {L3 : Int32} (h_l3 : L3.toInt = l3) {l4 : Int} {L4 : Int32} (h_l4 : L4.toInt = l4) {l5 : Int} {L5 : Int32} (h_l5 : L5.toInt = l5) {S : iS} {s : fS} (hs : sr S s) : rf rV (j_X7_readNumber_179 l1 l2 l3 l4 l5 S) (f_X7_readNumber_179 L1 L2 L3 L4 L5 s) := by
  unfold j_X7_readNumber_179 f_X7_readNumber_179
  exact (rf_if (c_not (c_eq (sr_gI hs rfl) li_0)) (jr_X7_readNumber_200 h_l1 h_l2 h_l3 h_l4 h_l5 hs) (rf_if (c_not (c_eq h_l5 li_0)) (jr_X7_readNumber_200 h_l1 h_l2 h_l3 h_l4 h_l5 hs) (rf_bind (jr_X7_wrong li_1 (sr_gI hs rfl) hs) fun qx1 QX1 h_qx1 => (jr_X7_readNumber_200 h_l1 h_l2 h_l3 h_l4 h_l5 h_qx1))))
def j_X7_readNumber_117 (r50 : Int → Int → Int → Int → Int → iS → Option iS) (l1 : Int) (l2 : Int) (l3 : Int) (l4 : Int) (l5 : Int) (S : iS) : Option iS := (if ¬ l5 = (6 : Int) then ((j_X7_here S).bind fun qx1 => ((j_X7_here qx1.2).bind fun qx2 => ((j_X7_sign qx2.1 (jI qx2.2 82 27) qx2.2).bind fun qx3 => (if rg ((10 : Int) * l4) then (if rg (((10 : Int) * l4) + qx1.1) then (if rg ((((10 : Int) * l4) + qx1.1) - (48 : Int)) then (if rg (l5 + (1 : Int)) then (if rg ((jI qx3 82 27) + (1 : Int)) then (r50 l1 l2 l3 ((((10 : Int) * l4) + qx1.1) - (48 : Int)) (l5 + (1 : Int)) (kI qx3 82 27 ((jI qx3 82 27) + (1 : Int)))) else none) else none) else none) else none) else none)))) else ((j_X7_wrong (2 : Int) (jI S 82 27) S).bind fun qx4 => (r50 l1 l2 l3 l4 l5 qx4)))
theorem jr_X7_readNumber_117 {r50 : Int → Int → Int → Int → Int → iS → Option iS} {R50 : Int32 → Int32 → Int32 → Int32 → Int32 → fS → Option fS} (h_r50 : ∀ {y0 : Int} {Y0 : Int32} (h_y0 : Y0.toInt = y0) {y1 : Int} {Y1 : Int32} (h_y1 : Y1.toInt = y1) {y2 : Int} {Y2 : Int32} (h_y2 : Y2.toInt = y2) {y3 : Int} {Y3 : Int32} (h_y3 : Y3.toInt = y3) {y4 : Int} {Y4 : Int32} (h_y4 : Y4.toInt = y4) {S : iS} {s : fS} (hs : sr S s), rf rV (r50 y0 y1 y2 y3 y4 S) (R50 Y0 Y1 Y2 Y3 Y4 s)) {l1 : Int} {L1 : Int32} (h_l1 : L1.toInt = l1) {l2 : Int} {L2 : Int32} (h_l2 : L2.toInt = l2) {l3 : Int} {L3 : Int32} (h_l3 : L3.toInt = l3) {l4 : Int} {L4 : Int32} (h_l4 : L4.toInt = l4) {l5 : Int} {L5 : Int32} (h_l5 : L5.toInt = l5) {S : iS} {s : fS} (hs : sr S s) : rf rV (j_X7_readNumber_117 r50 l1 l2 l3 l4 l5 S) (f_X7_readNumber_117 R50 L1 L2 L3 L4 L5 s) := by
  unfold j_X7_readNumber_117 f_X7_readNumber_117
  exact (rf_if (c_not (c_eq h_l5 li_6)) (rf_bind (jr_X7_here hs) fun qx1 QX1 h_qx1 => (rf_bind (jr_X7_here h_qx1.2) fun qx2 QX2 h_qx2 => (rf_bind (jr_X7_sign h_qx2.1 (sr_gI h_qx2.2 rfl) h_qx2.2) fun qx3 QX3 h_qx3 => (rf_rg fun k1 => (rf_rg fun k2 => (rf_rg fun k3 => (rf_rg fun k4 => (rf_rg fun k5 => (h_r50 h_l1 h_l2 h_l3 (i_sub (i_add (i_mul li_10 h_l4 k1) h_qx1.1 k2) li_48 k3) (i_add h_l5 lo_1 k4) (sr_I h_qx3 rfl (i_add (sr_gI h_qx3 rfl) li_1 k5))))))))))) (rf_bind (jr_X7_wrong li_2 (sr_gI hs rfl) hs) fun qx4 QX4 h_qx4 => (h_r50 h_l1 h_l2 h_l3 h_l4 h_l5 h_qx4)))
def j_X7_readNumber_105 (r50 : Int → Int → Int → Int → Int → iS → Option iS) (l1 : Int) (l2 : Int) (l3 : Int) (l4 : Int) (l5 : Int) (S : iS) : Option iS := ((j_X7_wrong (1 : Int) (jI S 82 27) S).bind fun qx1 => (r50 l1 l2 l3 l4 l5 qx1))
theorem jr_X7_readNumber_105 {r50 : Int → Int → Int → Int → Int → iS → Option iS} {R50 : Int32 → Int32 → Int32 → Int32 → Int32 → fS → Option fS} (h_r50 : ∀ {y0 : Int} {Y0 : Int32} (h_y0 : Y0.toInt = y0) {y1 : Int} {Y1 : Int32} (h_y1 : Y1.toInt = y1) {y2 : Int} {Y2 : Int32} (h_y2 : Y2.toInt = y2) {y3 : Int} {Y3 : Int32} (h_y3 : Y3.toInt = y3) {y4 : Int} {Y4 : Int32} (h_y4 : Y4.toInt = y4) {S : iS} {s : fS} (hs : sr S s), rf rV (r50 y0 y1 y2 y3 y4 S) (R50 Y0 Y1 Y2 Y3 Y4 s)) {l1 : Int} {L1 : Int32} (h_l1 : L1.toInt = l1) {l2 : Int} {L2 : Int32} (h_l2 : L2.toInt = l2) {l3 : Int} {L3 : Int32} (h_l3 : L3.toInt = l3) {l4 : Int} {L4 : Int32} (h_l4 : L4.toInt = l4) {l5 : Int} {L5 : Int32} (h_l5 : L5.toInt = l5) {S : iS} {s : fS} (hs : sr S s) : rf rV (j_X7_readNumber_105 r50 l1 l2 l3 l4 l5 S) (f_X7_readNumber_105 R50 L1 L2 L3 L4 L5 s) := by
  unfold j_X7_readNumber_105 f_X7_readNumber_105
  exact (rf_bind (jr_X7_wrong li_1 (sr_gI hs rfl) hs) fun qx1 QX1 h_qx1 => (h_r50 h_l1 h_l2 h_l3 h_l4 h_l5 h_qx1))
def j_X7_readNumber_83 (r50 : Int → Int → Int → Int → Int → iS → Option iS) (l1 : Int) (l2 : Int) (l3 : Int) (l4 : Int) (l5 : Int) (S : iS) : Option iS := (if l1 = (0 : Int) then (j_X7_readNumber_117 r50 l1 l2 l3 l4 l5 S) else (if l2 = (0 : Int) then (j_X7_readNumber_117 r50 l1 l2 l3 l4 l5 S) else ((j_X7_here S).bind fun qx1 => (if ¬ qx1.1 = (48 : Int) then (j_X7_readNumber_117 r50 l1 l2 l3 l4 l5 qx1.2) else (if ¬ l5 = (0 : Int) then (j_X7_readNumber_117 r50 l1 l2 l3 l4 l5 qx1.2) else (j_X7_readNumber_105 r50 l1 l2 l3 l4 l5 qx1.2))))))
theorem jr_X7_readNumber_83 {r50 : Int → Int → Int → Int → Int → iS → Option iS} {R50 : Int32 → Int32 → Int32 → Int32 → Int32 → fS → Option fS} (h_r50 : ∀ {y0 : Int} {Y0 : Int32} (h_y0 : Y0.toInt = y0) {y1 : Int} {Y1 : Int32} (h_y1 : Y1.toInt = y1) {y2 : Int} {Y2 : Int32} (h_y2 : Y2.toInt = y2) {y3 : Int} {Y3 : Int32} (h_y3 : Y3.toInt = y3) {y4 : Int} {Y4 : Int32} (h_y4 : Y4.toInt = y4) {S : iS} {s : fS} (hs : sr S s), rf rV (r50 y0 y1 y2 y3 y4 S) (R50 Y0 Y1 Y2 Y3 Y4 s)) {l1 : Int} {L1 : Int32} (h_l1 : L1.toInt = l1) {l2 : Int} {L2 : Int32} (h_l2 : L2.toInt = l2) {l3 : Int} {L3 : Int32} (h_l3 : L3.toInt = l3) {l4 : Int} {L4 : Int32} (h_l4 : L4.toInt = l4) {l5 : Int} {L5 : Int32} (h_l5 : L5.toInt = l5) {S : iS} {s : fS} (hs : sr S s) : rf rV (j_X7_readNumber_83 r50 l1 l2 l3 l4 l5 S) (f_X7_readNumber_83 R50 L1 L2 L3 L4 L5 s) := by
  unfold j_X7_readNumber_83 f_X7_readNumber_83
  exact (rf_if (c_eq h_l1 li_0) (jr_X7_readNumber_117 h_r50 h_l1 h_l2 h_l3 h_l4 h_l5 hs) (rf_if (c_eq h_l2 li_0) (jr_X7_readNumber_117 h_r50 h_l1 h_l2 h_l3 h_l4 h_l5 hs) (rf_bind (jr_X7_here hs) fun qx1 QX1 h_qx1 => (rf_if (c_not (c_eq h_qx1.1 li_48)) (jr_X7_readNumber_117 h_r50 h_l1 h_l2 h_l3 h_l4 h_l5 h_qx1.2) (rf_if (c_not (c_eq h_l5 li_0)) (jr_X7_readNumber_117 h_r50 h_l1 h_l2 h_l3 h_l4 h_l5 h_qx1.2) (jr_X7_readNumber_105 h_r50 h_l1 h_l2 h_l3 h_l4 h_l5 h_qx1.2))))))
def j_X7_readNumber_50  : Nat → Int → Int → Int → Int → Int → iS → Option iS
  | 0, _, _, _, _, _, _ => none
  | n + 1, l1, l2, l3, l4, l5, S => (if ¬ (jI S 82 30) = (0 : Int) then (j_X7_readNumber_179 l1 l2 l3 l4 l5 S) else ((j_X7_here S).bind fun qx1 => ((j_X7_isFigure qx1.1 qx1.2).bind fun qx2 => (if qx2.1 = (0 : Int) then (j_X7_readNumber_179 l1 l2 l3 l4 l5 qx2.2) else (if l5 ≤ (0 : Int) then (j_X7_readNumber_83 (fun l1' l2' l3' l4' l5' S' => j_X7_readNumber_50 n l1' l2' l3' l4' l5' S') l1 l2 l3 l4 l5 qx2.2) else (if (0 ≤ l3 ∧ l3 < (jA qx2.2 83).length) then (if ((jA qx2.2 83).getD l3.toNat 0) = (48 : Int) then (j_X7_readNumber_105 (fun l1' l2' l3' l4' l5' S' => j_X7_readNumber_50 n l1' l2' l3' l4' l5' S') l1 l2 l3 l4 l5 qx2.2) else (j_X7_readNumber_83 (fun l1' l2' l3' l4' l5' S' => j_X7_readNumber_50 n l1' l2' l3' l4' l5' S') l1 l2 l3 l4 l5 qx2.2)) else none))))))
theorem jr_X7_readNumber_50  (n : Nat) : ∀ {l1 : Int} {L1 : Int32} (h_l1 : L1.toInt = l1) {l2 : Int} {L2 : Int32} (h_l2 : L2.toInt = l2) {l3 : Int} {L3 : Int32} (h_l3 : L3.toInt = l3) {l4 : Int} {L4 : Int32} (h_l4 : L4.toInt = l4) {l5 : Int} {L5 : Int32} (h_l5 : L5.toInt = l5) {S : iS} {s : fS} (hs : sr S s), rf rV (j_X7_readNumber_50 n l1 l2 l3 l4 l5 S) (f_X7_readNumber_50 n L1 L2 L3 L4 L5 s) := by
  induction n with
  | zero => intros; exact rf_none
  | succ n ih =>
    intro l1 L1 h_l1 l2 L2 h_l2 l3 L3 h_l3 l4 L4 h_l4 l5 L5 h_l5 S s hs
    rw [j_X7_readNumber_50, f_X7_readNumber_50]
    exact (rf_if (c_not (c_eq (sr_gI hs rfl) li_0)) (jr_X7_readNumber_179 h_l1 h_l2 h_l3 h_l4 h_l5 hs) (rf_bind (jr_X7_here hs) fun qx1 QX1 h_qx1 => (rf_bind (jr_X7_isFigure h_qx1.1 h_qx1.2) fun qx2 QX2 h_qx2 => (rf_if (c_eq h_qx2.1 li_0) (jr_X7_readNumber_179 h_l1 h_l2 h_l3 h_l4 h_l5 h_qx2.2) (rf_if (c_le h_l5 li_0) (jr_X7_readNumber_83 (@fun _ _ h_l1' _ _ h_l2' _ _ h_l3' _ _ h_l4' _ _ h_l5' _ _ hs' => (ih h_l1' h_l2' h_l3' h_l4' h_l5' hs')) h_l1 h_l2 h_l3 h_l4 h_l5 h_qx2.2) (rf_rg fun k1 => (rf_ck (k_in h_l3 (sr_gA h_qx2.2 rfl) k1) (rf_if (c_eq (l_getD (sr_gA h_qx2.2 rfl) (i_nat h_l3)) li_48) (jr_X7_readNumber_105 (@fun _ _ h_l1' _ _ h_l2' _ _ h_l3' _ _ h_l4' _ _ h_l5' _ _ hs' => (ih h_l1' h_l2' h_l3' h_l4' h_l5' hs')) h_l1 h_l2 h_l3 h_l4 h_l5 h_qx2.2) (jr_X7_readNumber_83 (@fun _ _ h_l1' _ _ h_l2' _ _ h_l3' _ _ h_l4' _ _ h_l5' _ _ hs' => (ih h_l1' h_l2' h_l3' h_l4' h_l5' hs')) h_l1 h_l2 h_l3 h_l4 h_l5 h_qx2.2)))))))))
def j_X7_readNumber_39 (l1 : Int) (l2 : Int) (S : iS) : Option iS := (j_X7_readNumber_50 fuel l1 l2 (jI S 82 27) (0 : Int) (0 : Int) S)
theorem jr_X7_readNumber_39 {l1 : Int} {L1 : Int32} (h_l1 : L1.toInt = l1) {l2 : Int} {L2 : Int32} (h_l2 : L2.toInt = l2) {S : iS} {s : fS} (hs : sr S s) : rf rV (j_X7_readNumber_39 l1 l2 S) (f_X7_readNumber_39 L1 L2 s) := by
  unfold j_X7_readNumber_39 f_X7_readNumber_39
  exact (jr_X7_readNumber_50 fuel h_l1 h_l2 (sr_gI hs rfl) li_0 li_0 hs)
def j_X7_readNumber_14 (l1 : Int) (t0 : Int) (S : iS) : Option iS := (if t0 = (0 : Int) then (j_X7_readNumber_39 l1 t0 S) else ((j_X7_sign (45 : Int) (jI S 82 27) S).bind fun qx1 => (if rg ((jI qx1 82 27) + (1 : Int)) then (j_X7_readNumber_39 l1 t0 (kI qx1 82 27 ((jI qx1 82 27) + (1 : Int)))) else none)))
theorem jr_X7_readNumber_14 {l1 : Int} {L1 : Int32} (h_l1 : L1.toInt = l1) {t0 : Int} {T0 : Int32} (h_t0 : T0.toInt = t0) {S : iS} {s : fS} (hs : sr S s) : rf rV (j_X7_readNumber_14 l1 t0 S) (f_X7_readNumber_14 L1 T0 s) := by
  unfold j_X7_readNumber_14 f_X7_readNumber_14
  exact (rf_if (c_eq h_t0 li_0) (jr_X7_readNumber_39 h_l1 h_t0 hs) (rf_bind (jr_X7_sign li_45 (sr_gI hs rfl) hs) fun qx1 QX1 h_qx1 => (rf_rg fun k1 => (jr_X7_readNumber_39 h_l1 h_t0 (sr_I h_qx1 rfl (i_add (sr_gI h_qx1 rfl) li_1 k1))))))
def j_X7_readNumber_0 (l1 : Int) (S : iS) : Option iS := ((j_X7_here S).bind fun qx1 => (if ¬ qx1.1 = (45 : Int) then (j_X7_readNumber_14 l1 (0 : Int) qx1.2) else (j_X7_readNumber_14 l1 (1 : Int) qx1.2)))
theorem jr_X7_readNumber_0 {l1 : Int} {L1 : Int32} (h_l1 : L1.toInt = l1) {S : iS} {s : fS} (hs : sr S s) : rf rV (j_X7_readNumber_0 l1 S) (f_X7_readNumber_0 L1 s) := by
  unfold j_X7_readNumber_0 f_X7_readNumber_0
  exact (rf_bind (jr_X7_here hs) fun qx1 QX1 h_qx1 => (rf_if (c_not (c_eq h_qx1.1 li_45)) (jr_X7_readNumber_14 h_l1 li_0 h_qx1.2) (jr_X7_readNumber_14 h_l1 li_1 h_qx1.2)))
def j_X7_readNumber (l1 : Int) (S : iS) : Option iS := (j_X7_readNumber_0 l1 S)
theorem jr_X7_readNumber {l1 : Int} {L1 : Int32} (h_l1 : L1.toInt = l1) {S : iS} {s : fS} (hs : sr S s) : rf rV (j_X7_readNumber l1 S) (f_X7_readNumber L1 s) := by
  unfold j_X7_readNumber f_X7_readNumber
  exact (jr_X7_readNumber_0 h_l1 hs)
