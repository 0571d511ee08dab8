def j_X7_readHead_62  : Nat → Int → Int → iS → Option iS
  | 0, _, _, _ => none
  | n + 1, l1, l2, S => (if 1 < (jA S 90).length then (if ((jA S 90).getD 1 0) ≤ l2 then (j_X7_readHead_109 l1 l2 S) else (if ¬ (jI S 82 30) = (0 : Int) then (j_X7_readHead_109 l1 l2 S) else (if rg ((9 : Int) * l2) then (if rg ((27 : Int) + ((9 : Int) * l2)) then ((j_X7_isSame 92 ((27 : Int) + ((9 : Int) * l2)) S).bind fun qx1 => (if qx1.1 = (0 : Int) then (j_X7_readHead_103 (fun l1' l2' S' => j_X7_readHead_62 n l1' l2' S') l1 l2 qx1.2) else ((j_X7_wrong (4 : Int) l1 qx1.2).bind fun qx2 => (j_X7_readHead_103 (fun l1' l2' S' => j_X7_readHead_62 n l1' l2' S') l1 l2 qx2)))) else none) else none))) else none)
theorem jr_X7_readHead_62  (n : Nat) : ∀ {l1 : Int} {L1 : Int32} (h_l1 : L1.toInt = l1) {l2 : Int} {L2 : Int32} (h_l2 : L2.toInt = l2) {S : iS} {s : fS} (hs : sr S s), rf rV (j_X7_readHead_62 n l1 l2 S) (f_X7_readHead_62 n L1 L2 s) := by
  induction n with
  | zero => intros; exact rf_none
  | succ n ih =>
    intro l1 L1 h_l1 l2 L2 h_l2 S s hs
    rw [j_X7_readHead_62, f_X7_readHead_62]
    exact (rf_rg fun k1 => (rf_ck (k_inl ix_1 li_1 (sr_gA hs rfl) k1) (rf_if (c_le (l_getD (sr_gA hs rfl) ix_1) h_l2) (jr_X7_readHead_109 h_l1 h_l2 hs) (rf_if (c_not (c_eq (sr_gI hs rfl) li_0)) (jr_X7_readHead_109 h_l1 h_l2 hs) (rf_rg fun k2 => (rf_rg fun k3 => (rf_bind (jr_X7_isSame rfl (i_add li_27 (i_mul li_9 h_l2 k2) k3) hs) fun qx1 QX1 h_qx1 => (rf_if (c_eq h_qx1.1 li_0) (jr_X7_readHead_103 (@fun _ _ h_l1' _ _ h_l2' _ _ hs' => (ih h_l1' h_l2' hs')) h_l1 h_l2 h_qx1.2) (rf_bind (jr_X7_wrong li_4 h_l1 h_qx1.2) fun qx2 QX2 h_qx2 => (jr_X7_readHead_103 (@fun _ _ h_l1' _ _ h_l2' _ _ hs' => (ih h_l1' h_l2' hs')) h_l1 h_l2 h_qx2))))))))))
def j_X7_readHead_60 (l1 : Int) (S : iS) : Option iS := (j_X7_readHead_62 fuel l1 (0 : Int) S)
theorem jr_X7_readHead_60 {l1 : Int} {L1 : Int32} (h_l1 : L1.toInt = l1) {S : iS} {s : fS} (hs : sr S s) : rf rV (j_X7_readHead_60 l1 S) (f_X7_readHead_60 L1 s) := by
  unfold j_X7_readHead_60 f_X7_readHead_60
  exact (jr_X7_readHead_62 fuel h_l1 li_0 hs)
def j_X7_readHead_26 (S : iS) : Option iS := (if rg ((jI S 82 27) + (1 : Int)) then ((j_X7_ended (kI S 82 27 ((jI S 82 27) + (1 : Int)))).bind fun qx1 => ((j_X7_blanks qx1).bind fun qx2 => (if ¬ (jI qx2 82 30) = (0 : Int) then (j_X7_readHead_60 (jI qx2 82 27) qx2) else ((j_X7_readName qx2).bind fun qx3 => (j_X7_readHead_60 (jI qx2 82 27) qx3))))) else none)
theorem jr_X7_readHead_26 {S : iS} {s : fS} (hs : sr S s) : rf rV (j_X7_readHead_26 S) (f_X7_readHead_26 s) := by
  unfold j_X7_readHead_26 f_X7_readHead_26
  exact (rf_rg fun k1 => (rf_bind (jr_X7_ended (sr_I hs rfl (i_add (sr_gI hs rfl) li_1 k1))) fun qx1 QX1 h_qx1 => (rf_bind (jr_X7_blanks h_qx1) fun qx2 QX2 h_qx2 => (rf_if (c_not (c_eq (sr_gI h_qx2 rfl) li_0)) (jr_X7_readHead_60 (sr_gI h_qx2 rfl) h_qx2) (rf_bind (jr_X7_readName h_qx2) fun qx3 QX3 h_qx3 => (jr_X7_readHead_60 (sr_gI h_qx2 rfl) h_qx3))))))
def j_X7_readHead_17 (S : iS) : Option iS := ((j_X7_wrong (4 : Int) (jI S 82 27) S).bind fun qx1 => (j_X7_readHead_26 qx1))
theorem jr_X7_readHead_17 {S : iS} {s : fS} (hs : sr S s) : rf rV (j_X7_readHead_17 S) (f_X7_readHead_17 s) := by
  unfold j_X7_readHead_17 f_X7_readHead_17
  exact (rf_bind (jr_X7_wrong li_4 (sr_gI hs rfl) hs) fun qx1 QX1 h_qx1 => (jr_X7_readHead_26 h_qx1))
def j_X7_readHead_0 (S : iS) : Option iS := (if ¬ (jI S 82 38) = (0 : Int) then (j_X7_readHead_17 S) else (if 1 < (jA S 90).length then (if ¬ ((jA S 90).getD 1 0) = (3 : Int) then (j_X7_readHead_26 S) else (j_X7_readHead_17 S)) else none))
theorem jr_X7_readHead_0 {S : iS} {s : fS} (hs : sr S s) : rf rV (j_X7_readHead_0 S) (f_X7_readHead_0 s) := by
  unfold j_X7_readHead_0 f_X7_readHead_0
  exact (rf_if (c_not (c_eq (sr_gI hs rfl) li_0)) (jr_X7_readHead_17 hs) (rf_rg fun k1 => (rf_ck (k_inl ix_1 li_1 (sr_gA hs rfl) k1) (rf_if (c_not (c_eq (l_getD (sr_gA hs rfl) ix_1) li_3)) (jr_X7_readHead_26 hs) (jr_X7_readHead_17 hs)))))
def j_X7_readHead (S : iS) : Option iS := (j_X7_readHead_0 S)
theorem jr_X7_readHead {S : iS} {s : fS} (hs : sr S s) : rf rV (j_X7_readHead S) (f_X7_readHead s) := by
  unfold j_X7_readHead f_X7_readHead
  exact (jr_X7_readHead_0 hs)
def j_X7_nodeOf_2  : Nat → Int → Int → iS → Option (Int × iS)
  | 0, _, _, _ => none
  | n + 1, l1, l2, S => (if 1 < (jA S 84).length then (if ((jA S 84).getD 1 0) ≤ l2 then (if ¬ ((jA S 84).getD 1 0) = (30 : Int) then (if rg ((9 : Int) * ((jA S 84).getD 1 0)) then (if rg ((270 : Int) + ((9 : Int) * ((jA S 84).getD 1 0))) then ((j_X7_layName 85 ((270 : Int) + ((9 : Int) * ((jA S 84).getD 1 0))) S).bind fun qx1 => (if 1 < (jA qx1 84).length then (if rg (((jA qx1 84).getD 1 0) + (1 : Int)) then (if 1 < ((jA qx1 84).set 1 (((jA qx1 84).getD 1 0) + (1 : Int))).length then (if rg ((((jA qx1 84).set 1 (((jA qx1 84).getD 1 0) + (1 : Int))).getD 1 0) - (1 : Int)) then (some (((((jA qx1 84).set 1 (((jA qx1 84).getD 1 0) + (1 : Int))).getD 1 0) - (1 : Int)), (kA qx1 84 ((jA qx1 84).set 1 (((jA qx1 84).getD 1 0) + (1 : Int)))))) else none) else none) else none) else none)) else none) else none) else ((j_X7_wrong (6 : Int) l1 S).bind fun qx2 => (some ((-1 : Int), qx2)))) else (if rg ((9 : Int) * l2) then (if rg ((270 : Int) + ((9 : Int) * l2)) then ((j_X7_isSame 85 ((270 : Int) + ((9 : Int) * l2)) S).bind fun qx3 => (if qx3.1 = (0 : Int) then (if rg (l2 + (1 : Int)) then (j_X7_nodeOf_2 n l1 (l2 + (1 : Int)) qx3.2) else none) else (some (l2, qx3.2)))) else none) else none)) else none)
theorem jr_X7_nodeOf_2  (n : Nat) : ∀ {l1 : Int} {L1 : Int32} (h_l1 : L1.toInt = l1) {l2 : Int} {L2 : Int32} (h_l2 : L2.toInt = l2) {S : iS} {s : fS} (hs : sr S s), rf rI (j_X7_nodeOf_2 n l1 l2 S) (f_X7_nodeOf_2 n L1 L2 s) := by
  induction n with
  | zero => intros; exact rf_none
  | succ n ih =>
    intro l1 L1 h_l1 l2 L2 h_l2 S s hs
    rw [j_X7_nodeOf_2, f_X7_nodeOf_2]
    exact (rf_rg fun k1 => (rf_ck (k_inl ix_1 li_1 (sr_gA hs rfl) k1) (rf_if (c_le (l_getD (sr_gA hs rfl) ix_1) h_l2) (rf_ck (k_inl ix_1 li_1 (sr_gA hs rfl) k1) (rf_if (c_not (c_eq (l_getD (sr_gA hs rfl) ix_1) li_30)) (rf_ck (k_inl ix_1 li_1 (sr_gA hs rfl) k1) (rf_rg fun k2 => (rf_rg fun k3 => (rf_bind (jr_X7_layName rfl (i_add li_270 (i_mul li_9 (l_getD (sr_gA hs rfl) ix_1) k2) k3) hs) fun qx1 QX1 h_qx1 => (rf_rg fun k4 => (rf_ck (k_inl ix_1 li_1 (sr_gA h_qx1 rfl) k4) (rf_ck (k_inl ix_1 li_1 (sr_gA h_qx1 rfl) k4) (rf_rg fun k5 => (rf_rg fun k6 => (rf_ck (k_inl ix_1 li_1 (l_set (sr_gA h_qx1 rfl) ix_1 (i_add (l_getD (sr_gA h_qx1 rfl) ix_1) li_1 k5)) k6) (rf_rg fun k7 => (rf_some ⟨(i_sub (l_getD (l_set (sr_gA h_qx1 rfl) ix_1 (i_add (l_getD (sr_gA h_qx1 rfl) ix_1) li_1 k5)) ix_1) li_1 k7), (sr_A h_qx1 rfl (l_set (sr_gA h_qx1 rfl) ix_1 (i_add (l_getD (sr_gA h_qx1 rfl) ix_1) li_1 k5)))⟩)))))))))))) (rf_bind (jr_X7_wrong li_6 h_l1 hs) fun qx2 QX2 h_qx2 => (rf_some ⟨li_m1, h_qx2⟩)))) (rf_rg fun k8 => (rf_rg fun k9 => (rf_bind (jr_X7_isSame rfl (i_add li_270 (i_mul li_9 h_l2 k8) k9) hs) fun qx3 QX3 h_qx3 => (rf_if (c_eq h_qx3.1 li_0) (rf_rg fun k10 => (ih h_l1 (i_add h_l2 lo_1 k10) h_qx3.2)) (rf_some ⟨h_l2, h_qx3.2⟩))))))))
def j_X7_nodeOf_0 (l1 : Int) (S : iS) : Option (Int × iS) := (j_X7_nodeOf_2 fuel l1 (0 : Int) S)
theorem jr_X7_nodeOf_0 {l1 : Int} {L1 : Int32} (h_l1 : L1.toInt = l1) {S : iS} {s : fS} (hs : sr S s) : rf rI (j_X7_nodeOf_0 l1 S) (f_X7_nodeOf_0 L1 s) := by
  unfold j_X7_nodeOf_0 f_X7_nodeOf_0
  exact (jr_X7_nodeOf_2 fuel h_l1 li_0 hs)
def j_X7_nodeOf (l1 : Int) (S : iS) : Option (Int × iS) := (j_X7_nodeOf_0 l1 S)
theorem jr_X7_nodeOf {l1 : Int} {L1 : Int32} (h_l1 : L1.toInt = l1) {S : iS} {s : fS} (hs : sr S s) : rf rI (j_X7_nodeOf l1 S) (f_X7_nodeOf L1 s) := by
  unfold j_X7_nodeOf f_X7_nodeOf
  exact (jr_X7_nodeOf_0 h_l1 hs)
def j_X7_isDoubled_38 (r3 : Int → Int → Int → iS → Option (Int × iS)) (l1 : Int) (l2 : Int) (l3 : Int) (S : iS) : Option (Int × iS) := (if rg (l3 + (1 : Int)) then (r3 l1 l2 (l3 + (1 : Int)) S) else none)
theorem jr_X7_isDoubled_38 {r3 : Int → Int → Int → iS → Option (Int × iS)} {R3 : Int32 → Int32 → Int32 → fS → Option (Int32 × fS)} (h_r3 : ∀ {y0 : Int} {Y0 : Int32} (h_y0 : Y0.toInt = y0) {y1 : Int} {Y1 : Int32} (h_y1 : Y1.toInt = y1) {y2 : Int} {Y2 : Int32} (h_y2 : Y2.toInt = y2) {S : iS} {s : fS} (hs : sr S s), rf rI (r3 y0 y1 y2 S) (R3 Y0 Y1 Y2 s)) {l1 : Int} {L1 : Int32} (h_l1 : L1.toInt = l1) {l2 : Int} {L2 : Int32} (h_l2 : L2.toInt = l2) {l3 : Int} {L3 : Int32} (h_l3 : L3.toInt = l3) {S : iS} {s : fS} (hs : sr S s) : rf rI (j_X7_isDoubled_38 r3 l1 l2 l3 S) (f_X7_isDoubled_38 R3 L1 L2 L3 s) := by
  unfold j_X7_isDoubled_38 f_X7_isDoubled_38
  exact (rf_rg fun k1 => (h_r3 h_l1 h_l2 (i_add h_l3 lo_1 k1) hs))
def j_X7_isDoubled_3  : Nat → Int → Int → Int → iS → Option (Int × iS)
  | 0, _, _, _, _ => none
  | n + 1, l1, l2, l3, S => (if 1 < (jA S 86).length then (if rg ((40 : Int) + ((jA S 86).getD 1 0)) then (if ((40 : Int) + ((jA S 86).getD 1 0)) ≤ l3 then (some ((0 : Int), S)) else (if (0 ≤ l3 ∧ l3 < (jA S 87).length) then (if ¬ ((jA S 87).getD l3.toNat 0) = l1 then (j_X7_isDoubled_38 (fun l1' l2' l3' S' => j_X7_isDoubled_3 n l1' l2' l3' S') l1 l2 l3 S) else (if (0 ≤ l3 ∧ l3 < (jA S 88).length) then (if ¬ ((jA S 88).getD l3.toNat 0) = l2 then (j_X7_isDoubled_38 (fun l1' l2' l3' S' => j_X7_isDoubled_3 n l1' l2' l3' S') l1 l2 l3 S) else (some ((1 : Int), S))) else none)) else none)) else none) else none)
theorem jr_X7_isDoubled_3  (n : Nat) : ∀ {l1 : Int} {L1 : Int32} (h_l1 : L1.toInt = l1) {l2 : Int} {L2 : Int32} (h_l2 : L2.toInt = l2) {l3 : Int} {L3 : Int32} (h_l3 : L3.toInt = l3) {S : iS} {s : fS} (hs : sr S s), rf rI (j_X7_isDoubled_3 n l1 l2 l3 S) (f_X7_isDoubled_3 n L1 L2 L3 s) := by
  induction n with
  | zero => intros; exact rf_none
  | succ n ih =>
    intro l1 L1 h_l1 l2 L2 h_l2 l3 L3 h_l3 S s hs
    rw [j_X7_isDoubled_3, f_X7_isDoubled_3]
    exact (rf_rg fun k1 => (rf_ck (k_inl ix_1 li_1 (sr_gA hs rfl) k1) (rf_rg fun k2 => (rf_if (c_le (i_add li_40 (l_getD (sr_gA hs rfl) ix_1) k2) h_l3) (rf_some ⟨li_0, hs⟩) (rf_rg fun k3 => (rf_ck (k_in h_l3 (sr_gA hs rfl) k3) (rf_if (c_not (c_eq (l_getD (sr_gA hs rfl) (i_nat h_l3)) h_l1)) (jr_X7_isDoubled_38 (@fun _ _ h_l1' _ _ h_l2' _ _ h_l3' _ _ hs' => (ih h_l1' h_l2' h_l3' hs')) h_l1 h_l2 h_l3 hs) (rf_rg fun k4 => (rf_ck (k_in h_l3 (sr_gA hs rfl) k4) (rf_if (c_not (c_eq (l_getD (sr_gA hs rfl) (i_nat h_l3)) h_l2)) (jr_X7_isDoubled_38 (@fun _ _ h_l1' _ _ h_l2' _ _ h_l3' _ _ hs' => (ih h_l1' h_l2' h_l3' hs')) h_l1 h_l2 h_l3 hs) (rf_some ⟨li_1, hs⟩)))))))))))
def j_X7_isDoubled_0 (l1 : Int) (l2 : Int) (S : iS) : Option (Int × iS) := (j_X7_isDoubled_3 fuel l1 l2 (40 : Int) S)
theorem jr_X7_isDoubled_0 {l1 : Int} {L1 : Int32} (h_l1 : L1.toInt = l1) {l2 : Int} {L2 : Int32} (h_l2 : L2.toInt = l2) {S : iS} {s : fS} (hs : sr S s) : rf rI (j_X7_isDoubled_0 l1 l2 S) (f_X7_isDoubled_0 L1 L2 s) := by
  unfold j_X7_isDoubled_0 f_X7_isDoubled_0
  exact (jr_X7_isDoubled_3 fuel h_l1 h_l2 li_40 hs)
def j_X7_isDoubled (l1 : Int) (l2 : Int) (S : iS) : Option (Int × iS) := (j_X7_isDoubled_0 l1 l2 S)
theorem jr_X7_isDoubled {l1 : Int} {L1 : Int32} (h_l1 : L1.toInt = l1) {l2 : Int} {L2 : Int32} (h_l2 : L2.toInt = l2) {S : iS} {s : fS} (hs : sr S s) : rf rI (j_X7_isDoubled l1 l2 S) (f_X7_isDoubled L1 L2 s) := by
  unfold j_X7_isDoubled f_X7_isDoubled
  exact (jr_X7_isDoubled_0 h_l1 h_l2 hs)
def j_X7_layArc_87 (r37 : Int → Int → Int → Int → iS → Option iS) : Nat → Int → Int → Int → Int → Int → iS → Option iS
  | 0, _, _, _, _, _, _ => none
  | n + 1, l1, l2, l3, l4, l5, S => (if rg ((9 : Int) * l4) then (if (0 ≤ ((9 : Int) * l4) ∧ ((9 : Int) * l4) < (jA S 108).length) then (if ((jA S 108).getD ((9 : Int) * l4).toNat 0) < l5 then (if rg (l4 + (1 : Int)) then (r37 l1 l2 l3 (l4 + (1 : Int)) S) else none) else (if rg (((9 : Int) * l4) + l5) then (if (0 ≤ (((9 : Int) * l4) + l5) ∧ (((9 : Int) * l4) + l5) < (jA S 108).length) then (if rg ((3 : Int) * l3) then (if rg (((3 : Int) * l3) + l4) then (if rg ((9 : Int) * (((3 : Int) * l3) + l4)) then (if rg (((9 : Int) * (((3 : Int) * l3) + l4)) + l5) then (if (0 ≤ (((9 : Int) * (((3 : Int) * l3) + l4)) + l5) ∧ (((9 : Int) * (((3 : Int) * l3) + l4)) + l5) < (jA S 95).length) then (if rg (l5 + (1 : Int)) then (j_X7_layArc_87 r37 n l1 l2 l3 l4 (l5 + (1 : Int)) (kA S 95 ((jA S 95).set (((9 : Int) * (((3 : Int) * l3) + l4)) + l5).toNat ((jA S 108).getD (((9 : Int) * l4) + l5).toNat 0)))) else none) else none) else none) else none) else none) else none) else none) else none)) else none) else none)
theorem jr_X7_layArc_87 {r37 : Int → Int → Int → Int → iS → Option iS} {R37 : Int32 → Int32 → Int32 → Int32 → fS → Option fS} (h_r37 : ∀ {y0 : Int} {Y0 : Int32} (h_y0 : Y0.toInt = y0) {y1 : Int} {Y1 : Int32} (h_y1 : Y1.toInt = y1) {y2 : Int} {Y2 : Int32} (h_y2 : Y2.toInt = y2) {y3 : Int} {Y3 : Int32} (h_y3 : Y3.toInt = y3) {S : iS} {s : fS} (hs : sr S s), rf rV (r37 y0 y1 y2 y3 S) (R37 Y0 Y1 Y2 Y3 s)) (n : Nat) : ∀ {l1 : Int} {L1 : Int32} (h_l1 : L1.toInt = l1) {l2 : Int} {L2 : Int32} (h_l2 : L2.toInt = l2) {l3 : Int} {L3 : Int32} (h_l3 : L3.toInt = l3) {l4 : Int} {L4 : Int32} (h_l4 : L4.toInt = l4) {l5 : Int} {L5 : Int32} (h_l5 : L5.toInt = l5) {S : iS} {s : fS} (hs : sr S s), rf rV (j_X7_layArc_87 r37 n l1 l2 l3 l4 l5 S) (f_X7_layArc_87 R37 n L1 L2 L3 L4 L5 s) := by
  induction n with
  | zero => intros; exact rf_none
  | succ n ih =>
    intro l1 L1 h_l1 l2 L2 h_l2 l3 L3 h_l3 l4 L4 h_l4 l5 L5 h_l5 S s hs
    rw [j_X7_layArc_87, f_X7_layArc_87]
    exact (rf_rg fun k1 => (rf_rg fun k2 => (rf_ck (k_in (i_mul li_9 h_l4 k1) (sr_gA hs rfl) k2) (rf_if (c_lt (l_getD (sr_gA hs rfl) (i_nat (i_mul li_9 h_l4 k1))) h_l5) (rf_rg fun k3 => (h_r37 h_l1 h_l2 h_l3 (i_add h_l4 lo_1 k3) hs)) (rf_rg fun k4 => (rf_rg fun k5 => (rf_ck (k_in (i_add (i_mul li_9 h_l4 k1) h_l5 k4) (sr_gA hs rfl) k5) (rf_rg fun k6 => (rf_rg fun k7 => (rf_rg fun k8 => (rf_rg fun k9 => (rf_rg fun k10 => (rf_ck (k_in (i_add (i_mul li_9 (i_add (i_mul li_3 h_l3 k6) h_l4 k7) k8) h_l5 k9) (sr_gA hs rfl) k10) (rf_rg fun k11 => (ih h_l1 h_l2 h_l3 h_l4 (i_add h_l5 lo_1 k11) (sr_A hs rfl (l_set (sr_gA hs rfl) (i_nat (i_add (i_mul li_9 (i_add (i_mul li_3 h_l3 k6) h_l4 k7) k8) h_l5 k9)) (l_getD (sr_gA hs rfl) (i_nat (i_add (i_mul li_9 h_l4 k1) h_l5 k4))))))))))))))))))))
def j_X7_layArc_37  : Nat → Int → Int → Int → Int → iS → Option iS
  | 0, _, _, _, _, _ => none
  | n + 1, l1, l2, l3, l4, S => (if 1 < (jA S 90).length then (if ((jA S 90).getD 1 0) ≤ l4 then (if 1 < (jA S 86).length then (if rg (((jA S 86).getD 1 0) + (1 : Int)) then ((j_X7_laySort (4 : Int) (kA S 86 ((jA S 86).set 1 (((jA S 86).getD 1 0) + (1 : Int))))).bind fun qx1 => (some qx1)) else none) else none) else (if (0 ≤ l4 ∧ l4 < (jA S 106).length) then (if rg ((3 : Int) * l3) then (if rg (((3 : Int) * l3) + l4) then (if (0 ≤ (((3 : Int) * l3) + l4) ∧ (((3 : Int) * l3) + l4) < (jA S 93).length) then (if (0 ≤ l4 ∧ l4 < (jA S 107).length) then (if (0 ≤ (((3 : Int) * l3) + l4) ∧ (((3 : Int) * l3) + l4) < (jA S 94).length) then (j_X7_layArc_87 (fun l1' l2' l3' l4' S' => j_X7_layArc_37 n l1' l2' l3' l4' S') fuel l1 l2 l3 l4 (0 : Int) (kA (kA S 93 ((jA S 93).set (((3 : Int) * l3) + l4).toNat ((jA S 106).getD l4.toNat 0))) 94 ((jA S 94).set (((3 : Int) * l3) + l4).toNat ((jA S 107).getD l4.toNat 0)))) else none) else none) else none) else none) else none) else none)) else none)
theorem jr_X7_layArc_37  (n : Nat) : ∀ {l1 : Int} {L1 : Int32} (h_l1 : L1.toInt = l1) {l2 : Int} {L2 : Int32} (h_l2 : L2.toInt = l2) {l3 : Int} {L3 : Int32} (h_l3 : L3.toInt = l3) {l4 : Int} {L4 : Int32} (h_l4 : L4.toInt = l4) {S : iS} {s : fS} (hs : sr S s), rf rV (j_X7_layArc_37 n l1 l2 l3 l4 S) (f_X7_layArc_37 n L1 L2 L3 L4 s) := by
  induction n with
  | zero => intros; exact rf_none
  | succ n ih =>
    intro l1 L1 h_l1 l2 L2 h_l2 l3 L3 h_l3 l4 L4 h_l4 S s hs
    rw [j_X7_layArc_37, f_X7_layArc_37]
    exact (rf_rg fun k1 => (rf_ck (k_inl ix_1 li_1 (sr_gA hs rfl) k1) (rf_if (c_le (l_getD (sr_gA hs rfl) ix_1) h_l4) (rf_rg fun k2 => (rf_ck (k_inl ix_1 li_1 (sr_gA hs rfl) k2) (rf_ck (k_inl ix_1 li_1 (sr_gA hs rfl) k2) (rf_rg fun k3 => (rf_bind (jr_X7_laySort li_4 (sr_A hs rfl (l_set (sr_gA hs rfl) ix_1 (i_add (l_getD (sr_gA hs rfl) ix_1) li_1 k3)))) fun qx1 QX1 h_qx1 => (rf_some h_qx1)))))) (rf_rg fun k4 => (rf_ck (k_in h_l4 (sr_gA hs rfl) k4) (rf_rg fun k5 => (rf_rg fun k6 => (rf_rg fun k7 => (rf_ck (k_in (i_add (i_mul li_3 h_l3 k5) h_l4 k6) (sr_gA hs rfl) k7) (rf_rg fun k8 => (rf_ck (k_in h_l4 (sr_gA hs rfl) k8) (rf_rg fun k9 => (rf_ck (k_in (i_add (i_mul li_3 h_l3 k5) h_l4 k6) (sr_gA hs rfl) k9) (jr_X7_layArc_87 (@fun _ _ h_l1' _ _ h_l2' _ _ h_l3' _ _ h_l4' _ _ hs' => (ih h_l1' h_l2' h_l3' h_l4' hs')) fuel h_l1 h_l2 h_l3 h_l4 li_0 (sr_A (sr_A hs rfl (l_set (sr_gA hs rfl) (i_nat (i_add (i_mul li_3 h_l3 k5) h_l4 k6)) (l_getD (sr_gA hs rfl) (i_nat h_l4)))) rfl (l_set (sr_gA hs rfl) (i_nat (i_add (i_mul li_3 h_l3 k5) h_l4 k6)) (l_getD (sr_gA hs rfl) (i_nat h_l4))))))))))))))))))
def j_X7_layArc_0 (l1 : Int) (l2 : Int) (S : iS) : Option iS := (if 1 < (jA S 86).length then (if rg ((40 : Int) + ((jA S 86).getD 1 0)) then (if (0 ≤ ((40 : Int) + ((jA S 86).getD 1 0)) ∧ ((40 : Int) + ((jA S 86).getD 1 0)) < (jA S 87).length) then (if (0 ≤ ((40 : Int) + ((jA S 86).getD 1 0)) ∧ ((40 : Int) + ((jA S 86).getD 1 0)) < (jA S 88).length) then (if (0 ≤ ((40 : Int) + ((jA S 86).getD 1 0)) ∧ ((40 : Int) + ((jA S 86).getD 1 0)) < (jA S 89).length) then (j_X7_layArc_37 fuel l1 l2 ((40 : Int) + ((jA S 86).getD 1 0)) (0 : Int) (kA (kA (kA S 87 ((jA S 87).set ((40 : Int) + ((jA S 86).getD 1 0)).toNat l1)) 88 ((jA S 88).set ((40 : Int) + ((jA S 86).getD 1 0)).toNat l2)) 89 ((jA S 89).set ((40 : Int) + ((jA S 86).getD 1 0)).toNat (jI S 82 28)))) else none) else none) else none) else none) else none)
theorem jr_X7_layArc_0 {l1 : Int} {L1 : Int32} (h_l1 : L1.toInt = l1) {l2 : Int} {L2 : Int32} (h_l2 : L2.toInt = l2) {S : iS} {s : fS} (hs : sr S s) : rf rV (j_X7_layArc_0 l1 l2 S) (f_X7_layArc_0 L1 L2 s) := by
  unfold j_X7_layArc_0 f_X7_layArc_0
  exact (rf_rg fun k1 => (rf_ck (k_inl ix_1 li_1 (sr_gA hs rfl) k1) (rf_rg fun k2 => (rf_rg fun k3 => (rf_ck (k_in (i_add li_40 (l_getD (sr_gA hs rfl) ix_1) k2) (sr_gA hs rfl) k3) (rf_rg fun k4 => (rf_ck (k_in (i_add li_40 (l_getD (sr_gA hs rfl) ix_1) k2) (sr_gA hs rfl) k4) (rf_rg fun k5 => (rf_ck (k_in (i_add li_40 (l_getD (sr_gA hs rfl) ix_1) k2) (sr_gA hs rfl) k5) (jr_X7_layArc_37 fuel h_l1 h_l2 (i_add li_40 (l_getD (sr_gA hs rfl) ix_1) k2) li_0 (sr_A (sr_A (sr_A hs rfl (l_set (sr_gA hs rfl) (i_nat (i_add li_40 (l_getD (sr_gA hs rfl) ix_1) k2)) h_l1)) rfl (l_set (sr_gA hs rfl) (i_nat (i_add li_40 (l_getD (sr_gA hs rfl) ix_1) k2)) h_l2)) rfl (l_set (sr_gA hs rfl) (i_nat (i_add li_40 (l_getD (sr_gA hs rfl) ix_1) k2)) (sr_gI hs rfl)))))))))))))
def j_X7_layArc (l1 : Int) (l2 : Int) (S : iS) : Option iS := (j_X7_layArc_0 l1 l2 S)
theorem jr_X7_layArc {l1 : Int} {L1 : Int32} (h_l1 : L1.toInt = l1) {l2 : Int} {L2 : Int32} (h_l2 : L2.toInt = l2) {S : iS} {s : fS} (hs : sr S s) : rf rV (j_X7_layArc l1 l2 S) (f_X7_layArc L1 L2 s) := by
  unfold j_X7_layArc f_X7_layArc
  exact (jr_X7_layArc_0 h_l1 h_l2 hs)
def j_X7_readArc_299 (l1 : Int) (l2 : Int) (l3 : Int) (l4 : Int) (l5 : Int) (l6 : Int) (S : iS) : Option iS := (some S)
theorem jr_X7_readArc_299 {l1 : Int} {L1 : Int32} (h_l1 : L1.toInt = l1) {l2 : Int} {L2 : Int32} (h_l2 : L2.toInt = l2) {l3 : Int} {L3 : Int32} (h_l3 : L3.toInt = l3) {l4 : Int} {L4 : Int32} (h_l4 : L4.toInt = l4) {l5 : Int} {L5 : Int32} (h_l5 : L5.toInt = l5) {l6 : Int} {L6 : Int32} (h_l6 : L6.toInt = l6) {S : iS} {s : fS} (hs : sr S s) : rf rV (j_X7_readArc_299 l1 l2 l3 l4 l5 l6 S) (f_X7_readArc_299 L1 L2 L3 L4 L5 L6 s) := by
  unfold j_X7_readArc_299 f_X7_readArc_299
  exact (rf_some hs)
def j_X7_readArc_285 (l1 : Int) (l2 : Int) (l3 : Int) (l4 : Int) (l5 : Int) (l6 : Int) (S : iS) : Option iS := (if ¬ (jI S 82 30) = (0 : Int) then (j_X7_readArc_299 l1 l2 l3 l4 l5 l6 S) else ((j_X7_layArc l2 l4 S).bind fun qx1 => (j_X7_readArc_299 l1 l2 l3 l4 l5 l6 qx1)))
theorem jr_X7_readArc_285 {l1 : Int} {L1 : Int32} (h_l1 : L1.toInt = l1) {l2 : Int} {L2 : Int32} (h_l2 : L2.toInt = l2) {l3 : Int} {L3 : Int32} (h_l3 : L3.toInt = l3) {l4 : Int} {L4 : Int32} (h_l4 : L4.toInt = l4) {l5 : Int} {L5 : Int32} (h_l5 : L5.toInt = l5) {l6 : Int} {L6 : Int32} (h_l6 : L6.toInt = l6) {S : iS} {s : fS} (hs : sr S s) : rf rV (j_X7_readArc_285 l1 l2 l3 l4 l5 l6 S) (f_X7_readArc_285 L1 L2 L3 L4 L5 L6 s) := by
  unfold j_X7_readArc_285 f_X7_readArc_285
  exact (rf_if (c_not (c_eq (sr_gI hs rfl) li_0)) (jr_X7_readArc_299 h_l1 h_l2 h_l3 h_l4 h_l5 h_l6 hs) (rf_bind (jr_X7_layArc h_l2 h_l4 hs) fun qx1 QX1 h_qx1 => (jr_X7_readArc_299 h_l1 h_l2 h_l3 h_l4 h_l5 h_l6 h_qx1)))
def j_X7_readArc_257 (l1 : Int) (l2 : Int) (l3 : Int) (l4 : Int) (l5 : Int) (l6 : Int) (S : iS) : Option iS := (if ¬ (jI S 82 30) = (0 : Int) then (j_X7_readArc_285 l1 l2 l3 l4 l5 l6 S) else (if 1 < (jA S 86).length then (if ¬ ((jA S 86).getD 1 0) = (40 : Int) then (j_X7_readArc_285 l1 l2 l3 l4 l5 l6 S) else ((j_X7_wrong (6 : Int) l1 S).bind fun qx1 => (j_X7_readArc_299 l1 l2 l3 l4 l5 l6 qx1))) else none))
theorem jr_X7_readArc_257 {l1 : Int} {L1 : Int32} (h_l1 : L1.toInt = l1) {l2 : Int} {L2 : Int32} (h_l2 : L2.toInt = l2) {l3 : Int} {L3 : Int32} (h_l3 : L3.toInt = l3) {l4 : Int} {L4 : Int32} (h_l4 : L4.toInt = l4) {l5 : Int} {L5 : Int32} (h_l5 : L5.toInt = l5) {l6 : Int} {L6 : Int32} (h_l6 : L6.toInt = l6) {S : iS} {s : fS} (hs : sr S s) : rf rV (j_X7_readArc_257 l1 l2 l3 l4 l5 l6 S) (f_X7_readArc_257 L1 L2 L3 L4 L5 L6 s) := by
  unfold j_X7_readArc_257 f_X7_readArc_257
  exact (rf_if (c_not (c_eq (sr_gI hs rfl) li_0)) (jr_X7_readArc_285 h_l1 h_l2 h_l3 h_l4 h_l5 h_l6 hs) (rf_rg fun k1 => (rf_ck (k_inl ix_1 li_1 (sr_gA hs rfl) k1) (rf_if (c_not (c_eq (l_getD (sr_gA hs rfl) ix_1) li_40)) (jr_X7_readArc_285 h_l1 h_l2 h_l3 h_l4 h_l5 h_l6 hs) (rf_bind (jr_X7_wrong li_6 h_l1 hs) fun qx1 QX1 h_qx1 => (jr_X7_readArc_299 h_l1 h_l2 h_l3 h_l4 h_l5 h_l6 h_qx1))))))
def j_X7_readArc_224 (l1 : Int) (l2 : Int) (l3 : Int) (l4 : Int) (l5 : Int) (l6 : Int) (S : iS) : Option iS := (if ¬ (jI S 82 30) = (0 : Int) then (j_X7_readArc_257 l1 l2 l3 l4 l5 l6 S) else (if l5 = (0 : Int) then (j_X7_readArc_257 l1 l2 l3 l4 l5 l6 S) else (if ¬ (jI S 82 3) = (1 : Int) then (j_X7_readArc_257 l1 l2 l3 l4 l5 l6 S) else (if 1 < (jA S 96).length then (if rg (((jA S 96).getD 1 0) + (1 : Int)) then (j_X7_readArc_299 l1 l2 l3 l4 l5 l6 (kA S 96 ((jA S 96).set 1 (((jA S 96).getD 1 0) + (1 : Int))))) else none) else none))))
theorem jr_X7_readArc_224 {l1 : Int} {L1 : Int32} (h_l1 : L1.toInt = l1) {l2 : Int} {L2 : Int32} (h_l2 : L2.toInt = l2) {l3 : Int} {L3 : Int32} (h_l3 : L3.toInt = l3) {l4 : Int} {L4 : Int32} (h_l4 : L4.toInt = l4) {l5 : Int} {L5 : Int32} (h_l5 : L5.toInt = l5) {l6 : Int} {L6 : Int32} (h_l6 : L6.toInt = l6) {S : iS} {s : fS} (hs : sr S s) : rf rV (j_X7_readArc_224 l1 l2 l3 l4 l5 l6 S) (f_X7_readArc_224 L1 L2 L3 L4 L5 L6 s) := by
  unfold j_X7_readArc_224 f_X7_readArc_224
  exact (rf_if (c_not (c_eq (sr_gI hs rfl) li_0)) (jr_X7_readArc_257 h_l1 h_l2 h_l3 h_l4 h_l5 h_l6 hs) (rf_if (c_eq h_l5 li_0) (jr_X7_readArc_257 h_l1 h_l2 h_l3 h_l4 h_l5 h_l6 hs) (rf_if (c_not (c_eq (sr_gI hs rfl) li_1)) (jr_X7_readArc_257 h_l1 h_l2 h_l3 h_l4 h_l5 h_l6 hs) (rf_rg fun k1 => (rf_ck (k_inl ix_1 li_1 (sr_gA hs rfl) k1) (rf_ck (k_inl ix_1 li_1 (sr_gA hs rfl) k1) (rf_rg fun k2 => (jr_X7_readArc_299 h_l1 h_l2 h_l3 h_l4 h_l5 h_l6 (sr_A hs rfl (l_set (sr_gA hs rfl) ix_1 (i_add (l_getD (sr_gA hs rfl) ix_1) li_1 k2)))))))))))
def j_X7_readArc_203 (l1 : Int) (l2 : Int) (l3 : Int) (l4 : Int) (l5 : Int) (l6 : Int) (S : iS) : Option iS := ((j_X7_blanks S).bind fun qx1 => ((j_X7_here qx1).bind fun qx2 => (if qx2.1 = (-1 : Int) then (j_X7_readArc_224 l1 l2 l3 l4 l5 l6 qx2.2) else ((j_X7_wrong (1 : Int) (jI qx2.2 82 27) qx2.2).bind fun qx3 => (j_X7_readArc_224 l1 l2 l3 l4 l5 l6 qx3)))))
theorem jr_X7_readArc_203 {l1 : Int} {L1 : Int32} (h_l1 : L1.toInt = l1) {l2 : Int} {L2 : Int32} (h_l2 : L2.toInt = l2) {l3 : Int} {L3 : Int32} (h_l3 : L3.toInt = l3) {l4 : Int} {L4 : Int32} (h_l4 : L4.toInt = l4) {l5 : Int} {L5 : Int32} (h_l5 : L5.toInt = l5) {l6 : Int} {L6 : Int32} (h_l6 : L6.toInt = l6) {S : iS} {s : fS} (hs : sr S s) : rf rV (j_X7_readArc_203 l1 l2 l3 l4 l5 l6 S) (f_X7_readArc_203 L1 L2 L3 L4 L5 L6 s) := by
  unfold j_X7_readArc_203 f_X7_readArc_203
  exact (rf_bind (jr_X7_blanks hs) fun qx1 QX1 h_qx1 => (rf_bind (jr_X7_here h_qx1) fun qx2 QX2 h_qx2 => (rf_if (c_eq h_qx2.1 li_m1) (jr_X7_readArc_224 h_l1 h_l2 h_l3 h_l4 h_l5 h_l6 h_qx2.2) (rf_bind (jr_X7_wrong li_1 (sr_gI h_qx2.2 rfl) h_qx2.2) fun qx3 QX3 h_qx3 => (jr_X7_readArc_224 h_l1 h_l2 h_l3 h_l4 h_l5 h_l6 h_qx3)))))
def j_X7_readArc_123  : Nat → Int → Int → Int → Int → Int → Int → iS → Option iS
  | 0, _, _, _, _, _, _, _ => none
  | n + 1, l1, l2, l3, l4, l5, l6, S => (if 1 < (jA S 90).length then (if ((jA S 90).getD 1 0) ≤ l6 then (j_X7_readArc_203 l1 l2 l3 l4 l5 l6 S) else (if ¬ (jI S 82 30) = (0 : Int) then (j_X7_readArc_203 l1 l2 l3 l4 l5 l6 S) else ((j_X7_blanks S).bind fun qx1 => (if rg ((3 : Int) + l6) then (if (0 ≤ ((3 : Int) + l6) ∧ ((3 : Int) + l6) < (jA qx1 91).length) then ((j_X7_readValue ((jA qx1 91).getD ((3 : Int) + l6).toNat 0) qx1).bind fun qx2 => ((j_X7_ended qx2).bind fun qx3 => (if (0 ≤ l6 ∧ l6 < (jA qx3 106).length) then (if (0 ≤ l6 ∧ l6 < (jA qx3 107).length) then (if rg ((9 : Int) * l6) then ((j_X7_layName 108 ((9 : Int) * l6) (kA (kA qx3 106 ((jA qx3 106).set l6.toNat (jI qx3 82 33))) 107 ((jA qx3 107).set l6.toNat (jI qx3 82 34)))).bind fun qx4 => (if rg (l6 + (1 : Int)) then (j_X7_readArc_123 n l1 l2 l3 l4 l5 (l6 + (1 : Int)) qx4) else none)) else none) else none) else none))) else none) else none)))) else none)
theorem jr_X7_readArc_123  (n : Nat) : ∀ {l1 : Int} {L1 : Int32} (h_l1 : L1.toInt = l1) {l2 : Int} {L2 : Int32} (h_l2 : L2.toInt = l2) {l3 : Int} {L3 : Int32} (h_l3 : L3.toInt = l3) {l4 : Int} {L4 : Int32} (h_l4 : L4.toInt = l4) {l5 : Int} {L5 : Int32} (h_l5 : L5.toInt = l5) {l6 : Int} {L6 : Int32} (h_l6 : L6.toInt = l6) {S : iS} {s : fS} (hs : sr S s), rf rV (j_X7_readArc_123 n l1 l2 l3 l4 l5 l6 S) (f_X7_readArc_123 n L1 L2 L3 L4 L5 L6 s) := by
  induction n with
  | zero => intros; exact rf_none
  | succ n ih =>
    intro l1 L1 h_l1 l2 L2 h_l2 l3 L3 h_l3 l4 L4 h_l4 l5 L5 h_l5 l6 L6 h_l6 S s hs
    rw [j_X7_readArc_123, f_X7_readArc_123]
    exact (rf_rg fun k1 => (rf_ck (k_inl ix_1 li_1 (sr_gA hs rfl) k1) (rf_if (c_le (l_getD (sr_gA hs rfl) ix_1) h_l6) (jr_X7_readArc_203 h_l1 h_l2 h_l3 h_l4 h_l5 h_l6 hs) (rf_if (c_not (c_eq (sr_gI hs rfl) li_0)) (jr_X7_readArc_203 h_l1 h_l2 h_l3 h_l4 h_l5 h_l6 hs) (rf_bind (jr_X7_blanks hs) fun qx1 QX1 h_qx1 => (rf_rg fun k2 => (rf_rg fun k3 => (rf_ck (k_in (i_add li_3 h_l6 k2) (sr_gA h_qx1 rfl) k3) (rf_bind (jr_X7_readValue (l_getD (sr_gA h_qx1 rfl) (i_nat (i_add li_3 h_l6 k2))) h_qx1) fun qx2 QX2 h_qx2 => (rf_bind (jr_X7_ended h_qx2) fun qx3 QX3 h_qx3 => (rf_rg fun k4 => (rf_ck (k_in h_l6 (sr_gA h_qx3 rfl) k4) (rf_rg fun k5 => (rf_ck (k_in h_l6 (sr_gA h_qx3 rfl) k5) (rf_rg fun k6 => (rf_bind (jr_X7_layName rfl (i_mul li_9 h_l6 k6) (sr_A (sr_A h_qx3 rfl (l_set (sr_gA h_qx3 rfl) (i_nat h_l6) (sr_gI h_qx3 rfl))) rfl (l_set (sr_gA h_qx3 rfl) (i_nat h_l6) (sr_gI h_qx3 rfl)))) fun qx4 QX4 h_qx4 => (rf_rg fun k7 => (ih h_l1 h_l2 h_l3 h_l4 h_l5 (i_add h_l6 lo_1 k7) h_qx4))))))))))))))))))
def j_X7_readArc_111 (l1 : Int) (l2 : Int) (l3 : Int) (l4 : Int) (l5 : Int) (S : iS) : Option iS := ((j_X7_ended S).bind fun qx1 => (j_X7_readArc_123 fuel l1 l2 l3 l4 l5 (0 : Int) (kI qx1 82 38 (1 : Int))))
theorem jr_X7_readArc_111 {l1 : Int} {L1 : Int32} (h_l1 : L1.toInt = l1) {l2 : Int} {L2 : Int32} (h_l2 : L2.toInt = l2) {l3 : Int} {L3 : Int32} (h_l3 : L3.toInt = l3) {l4 : Int} {L4 : Int32} (h_l4 : L4.toInt = l4) {l5 : Int} {L5 : Int32} (h_l5 : L5.toInt = l5) {S : iS} {s : fS} (hs : sr S s) : rf rV (j_X7_readArc_111 l1 l2 l3 l4 l5 S) (f_X7_readArc_111 L1 L2 L3 L4 L5 s) := by
  unfold j_X7_readArc_111 f_X7_readArc_111
  exact (rf_bind (jr_X7_ended hs) fun qx1 QX1 h_qx1 => (jr_X7_readArc_123 fuel h_l1 h_l2 h_l3 h_l4 h_l5 li_0 (sr_I h_qx1 rfl li_1)))
def j_X7_readArc_90 (l1 : Int) (l2 : Int) (l3 : Int) (l4 : Int) (t0 : Int) (S : iS) : Option iS := (if t0 = (0 : Int) then (j_X7_readArc_111 l1 l2 l3 l4 t0 S) else (if ¬ (jI S 82 3) = (2 : Int) then (j_X7_readArc_111 l1 l2 l3 l4 t0 S) else ((j_X7_wrong (5 : Int) l3 S).bind fun qx1 => (j_X7_readArc_111 l1 l2 l3 l4 t0 qx1))))
theorem jr_X7_readArc_90 {l1 : Int} {L1 : Int32} (h_l1 : L1.toInt = l1) {l2 : Int} {L2 : Int32} (h_l2 : L2.toInt = l2) {l3 : Int} {L3 : Int32} (h_l3 : L3.toInt = l3) {l4 : Int} {L4 : Int32} (h_l4 : L4.toInt = l4) {t0 : Int} {T0 : Int32} (h_t0 : T0.toInt = t0) {S : iS} {s : fS} (hs : sr S s) : rf rV (j_X7_readArc_90 l1 l2 l3 l4 t0 S) (f_X7_readArc_90 L1 L2 L3 L4 T0 s) := by
  unfold j_X7_readArc_90 f_X7_readArc_90
  exact (rf_if (c_eq h_t0 li_0) (jr_X7_readArc_111 h_l1 h_l2 h_l3 h_l4 h_t0 hs) (rf_if (c_not (c_eq (sr_gI hs rfl) li_2)) (jr_X7_readArc_111 h_l1 h_l2 h_l3 h_l4 h_t0 hs) (rf_bind (jr_X7_wrong li_5 h_l3 hs) fun qx1 QX1 h_qx1 => (jr_X7_readArc_111 h_l1 h_l2 h_l3 h_l4 h_t0 h_qx1))))
def j_X7_readArc_89 (l1 : Int) (l2 : Int) (l3 : Int) (l4 : Int) (S : iS) : Option iS := (j_X7_readArc_90 l1 l2 l3 l4 (0 : Int) S)
theorem jr_X7_readArc_89 {l1 : Int} {L1 : Int32} (h_l1 : L1.toInt = l1) {l2 : Int} {L2 : Int32} (h_l2 : L2.toInt = l2) {l3 : Int} {L3 : Int32} (h_l3 : L3.toInt = l3) {l4 : Int} {L4 : Int32} (h_l4 : L4.toInt = l4) {S : iS} {s : fS} (hs : sr S s) : rf rV (j_X7_readArc_89 l1 l2 l3 l4 S) (f_X7_readArc_89 L1 L2 L3 L4 s) := by
  unfold j_X7_readArc_89 f_X7_readArc_89
  exact (jr_X7_readArc_90 h_l1 h_l2 h_l3 h_l4 li_0 hs)
def j_X7_readArc_66 (l1 : Int) (l2 : Int) (l3 : Int) (t0 : Int) (S : iS) : Option iS := (if ¬ (jI S 82 30) = (0 : Int) then (j_X7_readArc_89 l1 l2 l3 t0 S) else ((j_X7_isDoubled l2 t0 S).bind fun qx1 => (if qx1.1 = (0 : Int) then (j_X7_readArc_89 l1 l2 l3 t0 qx1.2) else (j_X7_readArc_90 l1 l2 l3 t0 (1 : Int) qx1.2))))
theorem jr_X7_readArc_66 {l1 : Int} {L1 : Int32} (h_l1 : L1.toInt = l1) {l2 : Int} {L2 : Int32} (h_l2 : L2.toInt = l2) {l3 : Int} {L3 : Int32} (h_l3 : L3.toInt = l3) {t0 : Int} {T0 : Int32} (h_t0 : T0.toInt = t0) {S : iS} {s : fS} (hs : sr S s) : rf rV (j_X7_readArc_66 l1 l2 l3 t0 S) (f_X7_readArc_66 L1 L2 L3 T0 s) := by
  unfold j_X7_readArc_66 f_X7_readArc_66
  exact (rf_if (c_not (c_eq (sr_gI hs rfl) li_0)) (jr_X7_readArc_89 h_l1 h_l2 h_l3 h_t0 hs) (rf_bind (jr_X7_isDoubled h_l2 h_t0 hs) fun qx1 QX1 h_qx1 => (rf_if (c_eq h_qx1.1 li_0) (jr_X7_readArc_89 h_l1 h_l2 h_l3 h_t0 h_qx1.2) (jr_X7_readArc_90 h_l1 h_l2 h_l3 h_t0 li_1 h_qx1.2))))
def j_X7_readArc_50 (l1 : Int) (l2 : Int) (l3 : Int) (S : iS) : Option iS := (if ¬ (jI S 82 30) = (0 : Int) then (j_X7_readArc_66 l1 l2 l3 (-1 : Int) S) else ((j_X7_nodeOf l3 S).bind fun qx1 => (j_X7_readArc_66 l1 l2 l3 qx1.1 qx1.2)))
theorem jr_X7_readArc_50 {l1 : Int} {L1 : Int32} (h_l1 : L1.toInt = l1) {l2 : Int} {L2 : Int32} (h_l2 : L2.toInt = l2) {l3 : Int} {L3 : Int32} (h_l3 : L3.toInt = l3) {S : iS} {s : fS} (hs : sr S s) : rf rV (j_X7_readArc_50 l1 l2 l3 S) (f_X7_readArc_50 L1 L2 L3 s) := by
  unfold j_X7_readArc_50 f_X7_readArc_50
  exact (rf_if (c_not (c_eq (sr_gI hs rfl) li_0)) (jr_X7_readArc_66 h_l1 h_l2 h_l3 li_m1 hs) (rf_bind (jr_X7_nodeOf h_l3 hs) fun qx1 QX1 h_qx1 => (jr_X7_readArc_66 h_l1 h_l2 h_l3 h_qx1.1 h_qx1.2)))
def j_X7_readArc_25 (l1 : Int) (t0 : Int) (S : iS) : Option iS := ((j_X7_ended S).bind fun qx1 => ((j_X7_blanks qx1).bind fun qx2 => (if ¬ (jI qx2 82 30) = (0 : Int) then (j_X7_readArc_50 l1 t0 (jI qx2 82 27) qx2) else ((j_X7_readName qx2).bind fun qx3 => (j_X7_readArc_50 l1 t0 (jI qx2 82 27) qx3)))))
theorem jr_X7_readArc_25 {l1 : Int} {L1 : Int32} (h_l1 : L1.toInt = l1) {t0 : Int} {T0 : Int32} (h_t0 : T0.toInt = t0) {S : iS} {s : fS} (hs : sr S s) : rf rV (j_X7_readArc_25 l1 t0 S) (f_X7_readArc_25 L1 T0 s) := by
  unfold j_X7_readArc_25 f_X7_readArc_25
  exact (rf_bind (jr_X7_ended hs) fun qx1 QX1 h_qx1 => (rf_bind (jr_X7_blanks h_qx1) fun qx2 QX2 h_qx2 => (rf_if (c_not (c_eq (sr_gI h_qx2 rfl) li_0)) (jr_X7_readArc_50 h_l1 h_t0 (sr_gI h_qx2 rfl) h_qx2) (rf_bind (jr_X7_readName h_qx2) fun qx3 QX3 h_qx3 => (jr_X7_readArc_50 h_l1 h_t0 (sr_gI h_qx2 rfl) h_qx3)))))
def j_X7_readArc_0 (S : iS) : Option iS := ((j_X7_readName S).bind fun qx1 => (if ¬ (jI qx1 82 30) = (0 : Int) then (j_X7_readArc_25 (jI S 82 27) (-1 : Int) qx1) else ((j_X7_nodeOf (jI S 82 27) qx1).bind fun qx2 => (j_X7_readArc_25 (jI S 82 27) qx2.1 qx2.2))))
theorem jr_X7_readArc_0 {S : iS} {s : fS} (hs : sr S s) : rf rV (j_X7_readArc_0 S) (f_X7_readArc_0 s) := by
  unfold j_X7_readArc_0 f_X7_readArc_0
  exact (rf_bind (jr_X7_readName hs) fun qx1 QX1 h_qx1 => (rf_if (c_not (c_eq (sr_gI h_qx1 rfl) li_0)) (jr_X7_readArc_25 (sr_gI hs rfl) li_m1 h_qx1) (rf_bind (jr_X7_nodeOf (sr_gI hs rfl) h_qx1) fun qx2 QX2 h_qx2 => (jr_X7_readArc_25 (sr_gI hs rfl) h_qx2.1 h_qx2.2))))
def j_X7_readArc (S : iS) : Option iS := (j_X7_readArc_0 S)
theorem jr_X7_readArc {S : iS} {s : fS} (hs : sr S s) : rf rV (j_X7_readArc S) (f_X7_readArc s) := by
  unfold j_X7_readArc f_X7_readArc
  exact (jr_X7_readArc_0 hs)
def j_X7_readLine_78 (l1 : Int) (S : iS) : Option iS := (some S)
theorem jr_X7_readLine_78 {l1 : Int} {L1 : Int32} (h_l1 : L1.toInt = l1) {S : iS} {s : fS} (hs : sr S s) : rf rV (j_X7_readLine_78 l1 S) (f_X7_readLine_78 L1 s) := by
  unfold j_X7_readLine_78 f_X7_readLine_78
  exact (rf_some hs)
def j_X7_readLine_57 (l1 : Int) (S : iS) : Option iS := ((j_X7_blanks S).bind fun qx1 => ((j_X7_here qx1).bind fun qx2 => (if qx2.1 = (-1 : Int) then (j_X7_readLine_78 l1 qx2.2) else ((j_X7_wrong (1 : Int) (jI qx2.2 82 27) qx2.2).bind fun qx3 => (j_X7_readLine_78 l1 qx3)))))
theorem jr_X7_readLine_57 {l1 : Int} {L1 : Int32} (h_l1 : L1.toInt = l1) {S : iS} {s : fS} (hs : sr S s) : rf rV (j_X7_readLine_57 l1 S) (f_X7_readLine_57 L1 s) := by
  unfold j_X7_readLine_57 f_X7_readLine_57
  exact (rf_bind (jr_X7_blanks hs) fun qx1 QX1 h_qx1 => (rf_bind (jr_X7_here h_qx1) fun qx2 QX2 h_qx2 => (rf_if (c_eq h_qx2.1 li_m1) (jr_X7_readLine_78 h_l1 h_qx2.2) (rf_bind (jr_X7_wrong li_1 (sr_gI h_qx2.2 rfl) h_qx2.2) fun qx3 QX3 h_qx3 => (jr_X7_readLine_78 h_l1 h_qx3)))))
def j_X7_readLine_0 (S : iS) : Option iS := ((j_X7_blanks S).bind fun qx1 => ((j_X7_here qx1).bind fun qx2 => (if ¬ qx2.1 = (35 : Int) then (if ¬ qx2.1 = (33 : Int) then (if ¬ qx2.1 = (37 : Int) then (if qx2.1 = (-1 : Int) then (j_X7_readLine_57 qx2.1 qx2.2) else ((j_X7_readArc qx2.2).bind fun qx3 => (j_X7_readLine_57 qx2.1 qx3))) else ((j_X7_readHead qx2.2).bind fun qx4 => (j_X7_readLine_57 qx2.1 qx4))) else ((j_X7_readCount qx2.2).bind fun qx5 => (j_X7_readLine_57 qx2.1 qx5))) else ((j_X7_readComment qx2.2).bind fun qx6 => (j_X7_readLine_57 qx2.1 qx6)))))
theorem jr_X7_readLine_0 {S : iS} {s : fS} (hs : sr S s) : rf rV (j_X7_readLine_0 S) (f_X7_readLine_0 s) := by
  unfold j_X7_readLine_0 f_X7_readLine_0
  exact (rf_bind (jr_X7_blanks hs) fun qx1 QX1 h_qx1 => (rf_bind (jr_X7_here h_qx1) fun qx2 QX2 h_qx2 => (rf_if (c_not (c_eq h_qx2.1 li_35)) (rf_if (c_not (c_eq h_qx2.1 li_33)) (rf_if (c_not (c_eq h_qx2.1 li_37)) (rf_if (c_eq h_qx2.1 li_m1) (jr_X7_readLine_57 h_qx2.1 h_qx2.2) (rf_bind (jr_X7_readArc h_qx2.2) fun qx3 QX3 h_qx3 => (jr_X7_readLine_57 h_qx2.1 h_qx3))) (rf_bind (jr_X7_readHead h_qx2.2) fun qx4 QX4 h_qx4 => (jr_X7_readLine_57 h_qx2.1 h_qx4))) (rf_bind (jr_X7_readCount h_qx2.2) fun qx5 QX5 h_qx5 => (jr_X7_readLine_57 h_qx2.1 h_qx5))) (rf_bind (jr_X7_readComment h_qx2.2) fun qx6 QX6 h_qx6 => (jr_X7_readLine_57 h_qx2.1 h_qx6)))))
def j_X7_readLine (S : iS) : Option iS := (j_X7_readLine_0 S)
theorem jr_X7_readLine {S : iS} {s : fS} (hs : sr S s) : rf rV (j_X7_readLine S) (f_X7_readLine s) := by
  unfold j_X7_readLine f_X7_readLine
  exact (jr_X7_readLine_0 hs)
def j_X7_guessKinds_88 (r2 : Int → iS → Option iS) (l1 : Int) (S : iS) : Option iS := (if rg (l1 + (1 : Int)) then (r2 (l1 + (1 : Int)) S) else none)
theorem jr_X7_guessKinds_88 {r2 : Int → iS → Option iS} {R2 : Int32 → fS → Option fS} (h_r2 : ∀ {y0 : Int} {Y0 : Int32} (h_y0 : Y0.toInt = y0) {S : iS} {s : fS} (hs : sr S s), rf rV (r2 y0 S) (R2 Y0 s)) {l1 : Int} {L1 : Int32} (h_l1 : L1.toInt = l1) {S : iS} {s : fS} (hs : sr S s) : rf rV (j_X7_guessKinds_88 r2 l1 S) (f_X7_guessKinds_88 R2 L1 s) := by
  unfold j_X7_guessKinds_88 f_X7_guessKinds_88
  exact (rf_rg fun k1 => (h_r2 (i_add h_l1 lo_1 k1) hs))
def j_X7_guessKinds_70 (r2 : Int → iS → Option iS) (r29 : Int → Int → Int → iS → Option iS) (l1 : Int) (l2 : Int) (l3 : Int) (t0 : Int) (S : iS) : Option iS := (if rg (l3 + (1 : Int)) then (r29 l1 t0 (l3 + (1 : Int)) S) else none)
theorem jr_X7_guessKinds_70 {r2 : Int → iS → Option iS} {R2 : Int32 → fS → Option fS} (h_r2 : ∀ {y0 : Int} {Y0 : Int32} (h_y0 : Y0.toInt = y0) {S : iS} {s : fS} (hs : sr S s), rf rV (r2 y0 S) (R2 Y0 s)) {r29 : Int → Int → Int → iS → Option iS} {R29 : Int32 → Int32 → Int32 → fS → Option fS} (h_r29 : ∀ {y0 : Int} {Y0 : Int32} (h_y0 : Y0.toInt = y0) {y1 : Int} {Y1 : Int32} (h_y1 : Y1.toInt = y1) {y2 : Int} {Y2 : Int32} (h_y2 : Y2.toInt = y2) {S : iS} {s : fS} (hs : sr S s), rf rV (r29 y0 y1 y2 S) (R29 Y0 Y1 Y2 s)) {l1 : Int} {L1 : Int32} (h_l1 : L1.toInt = l1) {l2 : Int} {L2 : Int32} (h_l2 : L2.toInt = l2) {l3 : Int} {L3 : Int32} (h_l3 : L3.toInt = l3) {t0 : Int} {T0 : Int32} (h_t0 : T0.toInt = t0) {S : iS} {s : fS} (hs : sr S s) : rf rV (j_X7_guessKinds_70 r2 r29 l1 l2 l3 t0 S) (f_X7_guessKinds_70 R2 R29 L1 L2 L3 T0 s) := by
  unfold j_X7_guessKinds_70 f_X7_guessKinds_70
  exact (rf_rg fun k1 => (h_r29 h_l1 h_t0 (i_add h_l3 lo_1 k1) hs))
def j_X7_guessKinds_29 (r2 : Int → iS → Option iS) : Nat → Int → Int → Int → iS → Option iS
  | 0, _, _, _, _ => none
  | n + 1, l1, l2, l3, S => (if 1 < (jA S 86).length then (if rg ((40 : Int) + ((jA S 86).getD 1 0)) then (if ((40 : Int) + ((jA S 86).getD 1 0)) ≤ l3 then (if rg ((3 : Int) + l1) then (if (0 ≤ ((3 : Int) + l1) ∧ ((3 : Int) + l1) < (jA S 91).length) then (if rg (l2 - (1 : Int)) then (j_X7_guessKinds_88 r2 l1 (kA S 91 ((jA S 91).set ((3 : Int) + l1).toNat (l2 - (1 : Int))))) else none) else none) else none) else (if rg ((3 : Int) * l3) then (if rg (((3 : Int) * l3) + l1) then (if (0 ≤ (((3 : Int) * l3) + l1) ∧ (((3 : Int) * l3) + l1) < (jA S 93).length) then (if ((jA S 93).getD (((3 : Int) * l3) + l1).toNat 0) ≤ l2 then (j_X7_guessKinds_70 r2 (fun l1' l2' l3' S' => j_X7_guessKinds_29 r2 n l1' l2' l3' S') l1 l2 l3 l2 S) else (j_X7_guessKinds_70 r2 (fun l1' l2' l3' S' => j_X7_guessKinds_29 r2 n l1' l2' l3' S') l1 l2 l3 ((jA S 93).getD (((3 : Int) * l3) + l1).toNat 0) S)) else none) else none) else none)) else none) else none)
theorem jr_X7_guessKinds_29 {r2 : Int → iS → Option iS} {R2 : Int32 → fS → Option fS} (h_r2 : ∀ {y0 : Int} {Y0 : Int32} (h_y0 : Y0.toInt = y0) {S : iS} {s : fS} (hs : sr S s), rf rV (r2 y0 S) (R2 Y0 s)) (n : Nat) : ∀ {l1 : Int} {L1 : Int32} (h_l1 : L1.toInt = l1) {l2 : Int} {L2 : Int32} (h_l2 : L2.toInt = l2) {l3 : Int} {L3 : Int32} (h_l3 : L3.toInt = l3) {S : iS} {s : fS} (hs : sr S s), rf rV (j_X7_guessKinds_29 r2 n l1 l2 l3 S) (f_X7_guessKinds_29 R2 n L1 L2 L3 s) := by
  induction n with
  | zero => intros; exact rf_none
  | succ n ih =>
    intro l1 L1 h_l1 l2 L2 h_l2 l3 L3 h_l3 S s hs
    rw [j_X7_guessKinds_29, f_X7_guessKinds_29]
    exact (rf_rg fun k1 => (rf_ck (k_inl ix_1 li_1 (sr_gA hs rfl) k1) (rf_rg fun k2 => (rf_if (c_le (i_add li_40 (l_getD (sr_gA hs rfl) ix_1) k2) h_l3) (rf_rg fun k3 => (rf_rg fun k4 => (rf_ck (k_in (i_add li_3 h_l1 k3) (sr_gA hs rfl) k4) (rf_rg fun k5 => (jr_X7_guessKinds_88 h_r2 h_l1 (sr_A hs rfl (l_set (sr_gA hs rfl) (i_nat (i_add li_3 h_l1 k3)) (i_sub h_l2 li_1 k5)))))))) (rf_rg fun k6 => (rf_rg fun k7 => (rf_rg fun k8 => (rf_ck (k_in (i_add (i_mul li_3 h_l3 k6) h_l1 k7) (sr_gA hs rfl) k8) (rf_if (c_le (l_getD (sr_gA hs rfl) (i_nat (i_add (i_mul li_3 h_l3 k6) h_l1 k7))) h_l2) (jr_X7_guessKinds_70 h_r2 (@fun _ _ h_l1' _ _ h_l2' _ _ h_l3' _ _ hs' => (ih h_l1' h_l2' h_l3' hs')) h_l1 h_l2 h_l3 h_l2 hs) (rf_ck (k_in (i_add (i_mul li_3 h_l3 k6) h_l1 k7) (sr_gA hs rfl) k8) (jr_X7_guessKinds_70 h_r2 (@fun _ _ h_l1' _ _ h_l2' _ _ h_l3' _ _ hs' => (ih h_l1' h_l2' h_l3' hs')) h_l1 h_l2 h_l3 (l_getD (sr_gA hs rfl) (i_nat (i_add (i_mul li_3 h_l3 k6) h_l1 k7))) hs)))))))))))
def j_X7_guessKinds_2  : Nat → Int → iS → Option iS
  | 0, _, _ => none
  | n + 1, l1, S => (if 1 < (jA S 90).length then (if ((jA S 90).getD 1 0) ≤ l1 then (some S) else (if rg ((3 : Int) + l1) then (if (0 ≤ ((3 : Int) + l1) ∧ ((3 : Int) + l1) < (jA S 91).length) then (if ¬ ((jA S 91).getD ((3 : Int) + l1).toNat 0) = (3 : Int) then (j_X7_guessKinds_88 (fun l1' S' => j_X7_guessKinds_2 n l1' S') l1 S) else (j_X7_guessKinds_29 (fun l1' S' => j_X7_guessKinds_2 n l1' S') fuel l1 (1 : Int) (40 : Int) S)) else none) else none)) else none)
theorem jr_X7_guessKinds_2  (n : Nat) : ∀ {l1 : Int} {L1 : Int32} (h_l1 : L1.toInt = l1) {S : iS} {s : fS} (hs : sr S s), rf rV (j_X7_guessKinds_2 n l1 S) (f_X7_guessKinds_2 n L1 s) := by
  induction n with
  | zero => intros; exact rf_none
  | succ n ih =>
    intro l1 L1 h_l1 S s hs
    rw [j_X7_guessKinds_2, f_X7_guessKinds_2]
    exact (rf_rg fun k1 => (rf_ck (k_inl ix_1 li_1 (sr_gA hs rfl) k1) (rf_if (c_le (l_getD (sr_gA hs rfl) ix_1) h_l1) (rf_some hs) (rf_rg fun k2 => (rf_rg fun k3 => (rf_ck (k_in (i_add li_3 h_l1 k2) (sr_gA hs rfl) k3) (rf_if (c_not (c_eq (l_getD (sr_gA hs rfl) (i_nat (i_add li_3 h_l1 k2))) li_3)) (jr_X7_guessKinds_88 (@fun _ _ h_l1' _ _ hs' => (ih h_l1' hs')) h_l1 hs) (jr_X7_guessKinds_29 (@fun _ _ h_l1' _ _ hs' => (ih h_l1' hs')) fuel h_l1 li_1 li_40 hs))))))))
def j_X7_guessKinds_0 (S : iS) : Option iS := (j_X7_guessKinds_2 fuel (0 : Int) S)
theorem jr_X7_guessKinds_0 {S : iS} {s : fS} (hs : sr S s) : rf rV (j_X7_guessKinds_0 S) (f_X7_guessKinds_0 s) := by
  unfold j_X7_guessKinds_0 f_X7_guessKinds_0
  exact (jr_X7_guessKinds_2 fuel li_0 hs)
def j_X7_guessKinds (S : iS) : Option iS := (j_X7_guessKinds_0 S)
theorem jr_X7_guessKinds {S : iS} {s : fS} (hs : sr S s) : rf rV (j_X7_guessKinds S) (f_X7_guessKinds s) := by
  unfold j_X7_guessKinds f_X7_guessKinds
  exact (jr_X7_guessKinds_0 hs)
def j_X7_takeRow_2 (a0 : Nat) : Nat → Int → Int → iS → Option iS
  | 0, _, _, _ => none
  | n + 1, l1, l2, S => (if l1 ≤ l2 then (some S) else (if rg (l1 + l2) then (if (0 ≤ (l1 + l2) ∧ (l1 + l2) < (jA S a0).length) then (if (0 ≤ l2 ∧ l2 < (jA S a0).length) then (if rg (l2 + (1 : Int)) then (j_X7_takeRow_2 a0 n l1 (l2 + (1 : Int)) (kA S a0 ((jA S a0).set l2.toNat ((jA S a0).getD (l1 + l2).toNat 0)))) else none) else none) else none) else none))
theorem jr_X7_takeRow_2 {a0 A0 : Nat} (h_a0 : A0 = a0) (n : Nat) : ∀ {l1 : Int} {L1 : Int32} (h_l1 : L1.toInt = l1) {l2 : Int} {L2 : Int32} (h_l2 : L2.toInt = l2) {S : iS} {s : fS} (hs : sr S s), rf rV (j_X7_takeRow_2 a0 n l1 l2 S) (f_X7_takeRow_2 A0 n L1 L2 s) := by
  induction n with
  | zero => intros; exact rf_none
  | succ n ih =>
    intro l1 L1 h_l1 l2 L2 h_l2 S s hs
    rw [j_X7_takeRow_2, f_X7_takeRow_2]
    exact (rf_if (c_le h_l1 h_l2) (rf_some hs) (rf_rg fun k1 => (rf_rg fun k2 => (rf_ck (k_in (i_add h_l1 h_l2 k1) (sr_gA hs h_a0) k2) (rf_rg fun k3 => (rf_ck (k_in h_l2 (sr_gA hs h_a0) k3) (rf_rg fun k4 => (ih h_l1 (i_add h_l2 lo_1 k4) (sr_A hs h_a0 (l_set (sr_gA hs h_a0) (i_nat h_l2) (l_getD (sr_gA hs h_a0) (i_nat (i_add h_l1 h_l2 k1)))))))))))))
def j_X7_takeRow_0 (a0 : Nat) (l1 : Int) (S : iS) : Option iS := (j_X7_takeRow_2 a0 fuel l1 (0 : Int) S)
theorem jr_X7_takeRow_0 {a0 A0 : Nat} (h_a0 : A0 = a0) {l1 : Int} {L1 : Int32} (h_l1 : L1.toInt = l1) {S : iS} {s : fS} (hs : sr S s) : rf rV (j_X7_takeRow_0 a0 l1 S) (f_X7_takeRow_0 A0 L1 s) := by
  unfold j_X7_takeRow_0 f_X7_takeRow_0
  exact (jr_X7_takeRow_2 h_a0 fuel h_l1 li_0 hs)
def j_X7_takeRow (a0 : Nat) (l1 : Int) (S : iS) : Option iS := (j_X7_takeRow_0 a0 l1 S)
theorem jr_X7_takeRow {a0 A0 : Nat} (h_a0 : A0 = a0) {l1 : Int} {L1 : Int32} (h_l1 : L1.toInt = l1) {S : iS} {s : fS} (hs : sr S s) : rf rV (j_X7_takeRow a0 l1 S) (f_X7_takeRow A0 L1 s) := by
  unfold j_X7_takeRow f_X7_takeRow
  exact (jr_X7_takeRow_0 h_a0 h_l1 hs)
def j_X7_takeOver_0 (S : iS) : Option iS := (if 1 < (jA S 84).length then (if 0 < (jA S 84).length then (if 1 < (jA S 86).length then (if 0 < (jA S 86).length then (if 1 < (jA S 90).length then (if 0 < (jA S 90).length then (if 1 < (jA S 96).length then (if 0 < (jA S 96).length then (if 1 < (jA S 97).length then (if 0 < (jA S 97).length then (if 1 < (jA S 99).length then (if 0 < (jA S 99).length then (if 2 < (jA S 101).length then (if 0 < (jA S 101).length then (if 3 < ((jA S 101).set 0 ((jA S 101).getD 2 0)).length then (if 1 < ((jA S 101).set 0 ((jA S 101).getD 2 0)).length then ((j_X7_takeRow 85 (270 : Int) (kA (kA (kA (kA (kA (kA (kA (kA (kI S 82 6 (1 : Int)) 84 ((jA S 84).set 0 ((jA S 84).getD 1 0))) 86 ((jA S 86).set 0 ((jA S 86).getD 1 0))) 90 ((jA S 90).set 0 ((jA S 90).getD 1 0))) 96 ((jA S 96).set 0 ((jA S 96).getD 1 0))) 97 ((jA S 97).set 0 ((jA S 97).getD 1 0))) 99 ((jA S 99).set 0 ((jA S 99).getD 1 0))) 101 ((jA S 101).set 0 ((jA S 101).getD 2 0))) 101 (((jA S 101).set 0 ((jA S 101).getD 2 0)).set 1 (((jA S 101).set 0 ((jA S 101).getD 2 0)).getD 3 0)))).bind fun qx1 => ((j_X7_takeRow 87 (40 : Int) qx1).bind fun qx2 => ((j_X7_takeRow 88 (40 : Int) qx2).bind fun qx3 => ((j_X7_takeRow 89 (40 : Int) qx3).bind fun qx4 => ((j_X7_takeRow 91 (3 : Int) qx4).bind fun qx5 => ((j_X7_takeRow 92 (27 : Int) qx5).bind fun qx6 => ((j_X7_takeRow 93 (120 : Int) qx6).bind fun qx7 => ((j_X7_takeRow 94 (120 : Int) qx7).bind fun qx8 => ((j_X7_takeRow 95 (1080 : Int) qx8).bind fun qx9 => ((j_X7_takeRow 98 (6300 : Int) qx9).bind fun qx10 => ((j_X7_takeRow 100 (601 : Int) qx10).bind fun qx11 => (some qx11)))))))))))) else none) else none) else none) else none) else none) else none) else none) else none) else none) else none) else none) else none) else none) else none) else none) else none)
theorem jr_X7_takeOver_0 {S : iS} {s : fS} (hs : sr S s) : rf rV (j_X7_takeOver_0 S) (f_X7_takeOver_0 s) := by
  unfold j_X7_takeOver_0 f_X7_takeOver_0
  exact (rf_rg fun k1 => (rf_ck (k_inl ix_1 li_1 (sr_gA hs rfl) k1) (rf_rg fun k2 => (rf_ck (k_inl ix_0 li_0 (sr_gA hs rfl) k2) (rf_rg fun k3 => (rf_ck (k_inl ix_1 li_1 (sr_gA hs rfl) k3) (rf_rg fun k4 => (rf_ck (k_inl ix_0 li_0 (sr_gA hs rfl) k4) (rf_rg fun k5 => (rf_ck (k_inl ix_1 li_1 (sr_gA hs rfl) k5) (rf_rg fun k6 => (rf_ck (k_inl ix_0 li_0 (sr_gA hs rfl) k6) (rf_rg fun k7 => (rf_ck (k_inl ix_1 li_1 (sr_gA hs rfl) k7) (rf_rg fun k8 => (rf_ck (k_inl ix_0 li_0 (sr_gA hs rfl) k8) (rf_rg fun k9 => (rf_ck (k_inl ix_1 li_1 (sr_gA hs rfl) k9) (rf_rg fun k10 => (rf_ck (k_inl ix_0 li_0 (sr_gA hs rfl) k10) (rf_rg fun k11 => (rf_ck (k_inl ix_1 li_1 (sr_gA hs rfl) k11) (rf_rg fun k12 => (rf_ck (k_inl ix_0 li_0 (sr_gA hs rfl) k12) (rf_rg fun k13 => (rf_ck (k_inl ix_2 li_2 (sr_gA hs rfl) k13) (rf_rg fun k14 => (rf_ck (k_inl ix_0 li_0 (sr_gA hs rfl) k14) (rf_rg fun k15 => (rf_ck (k_inl ix_3 li_3 (l_set (sr_gA hs rfl) ix_0 (l_getD (sr_gA hs rfl) ix_2)) k15) (rf_rg fun k16 => (rf_ck (k_inl ix_1 li_1 (l_set (sr_gA hs rfl) ix_0 (l_getD (sr_gA hs rfl) ix_2)) k16) (rf_bind (jr_X7_takeRow rfl li_270 (sr_A (sr_A (sr_A (sr_A (sr_A (sr_A (sr_A (sr_A (sr_I hs rfl li_1) rfl (l_set (sr_gA hs rfl) ix_0 (l_getD (sr_gA hs rfl) ix_1))) rfl (l_set (sr_gA hs rfl) ix_0 (l_getD (sr_gA hs rfl) ix_1))) rfl (l_set (sr_gA hs rfl) ix_0 (l_getD (sr_gA hs rfl) ix_1))) rfl (l_set (sr_gA hs rfl) ix_0 (l_getD (sr_gA hs rfl) ix_1))) rfl (l_set (sr_gA hs rfl) ix_0 (l_getD (sr_gA hs rfl) ix_1))) rfl (l_set (sr_gA hs rfl) ix_0 (l_getD (sr_gA hs rfl) ix_1))) rfl (l_set (sr_gA hs rfl) ix_0 (l_getD (sr_gA hs rfl) ix_2))) rfl (l_set (l_set (sr_gA hs rfl) ix_0 (l_getD (sr_gA hs rfl) ix_2)) ix_1 (l_getD (l_set (sr_gA hs rfl) ix_0 (l_getD (sr_gA hs rfl) ix_2)) ix_3)))) fun qx1 QX1 h_qx1 => (rf_bind (jr_X7_takeRow rfl li_40 h_qx1) fun qx2 QX2 h_qx2 => (rf_bind (jr_X7_takeRow rfl li_40 h_qx2) fun qx3 QX3 h_qx3 => (rf_bind (jr_X7_takeRow rfl li_40 h_qx3) fun qx4 QX4 h_qx4 => (rf_bind (jr_X7_takeRow rfl li_3 h_qx4) fun qx5 QX5 h_qx5 => (rf_bind (jr_X7_takeRow rfl li_27 h_qx5) fun qx6 QX6 h_qx6 => (rf_bind (jr_X7_takeRow rfl li_120 h_qx6) fun qx7 QX7 h_qx7 => (rf_bind (jr_X7_takeRow rfl li_120 h_qx7) fun qx8 QX8 h_qx8 => (rf_bind (jr_X7_takeRow rfl li_1080 h_qx8) fun qx9 QX9 h_qx9 => (rf_bind (jr_X7_takeRow rfl li_6300 h_qx9) fun qx10 QX10 h_qx10 => (rf_bind (jr_X7_takeRow rfl li_601 h_qx10) fun qx11 QX11 h_qx11 => (rf_some h_qx11))))))))))))))))))))))))))))))))))))))))))))
def j_X7_takeOver (S : iS) : Option iS := (j_X7_takeOver_0 S)
theorem jr_X7_takeOver {S : iS} {s : fS} (hs : sr S s) : rf rV (j_X7_takeOver S) (f_X7_takeOver s) := by
  unfold j_X7_takeOver f_X7_takeOver
  exact (jr_X7_takeOver_0 hs)
def j_X7_lie_94 (l1 : Int) (l2 : Int) (S : iS) : Option iS := (some S)
theorem jr_X7_lie_94 {l1 : Int} {L1 : Int32} (h_l1 : L1.toInt = l1) {l2 : Int} {L2 : Int32} (h_l2 : L2.toInt = l2) {S : iS} {s : fS} (hs : sr S s) : rf rV (j_X7_lie_94 l1 l2 S) (f_X7_lie_94 L1 L2 s) := by
  unfold j_X7_lie_94 f_X7_lie_94
  exact (rf_some hs)
def j_X7_lie_58  : Nat → Int → Int → iS → Option iS
  | 0, _, _, _ => none
  | n + 1, l1, l2, S => (if (jI S 82 29) ≤ (0 : Int) then (j_X7_lie_94 l1 l2 S) else (if rg ((jI S 82 29) - (1 : Int)) then (if (0 ≤ ((jI S 82 29) - (1 : Int)) ∧ ((jI S 82 29) - (1 : Int)) < (jA S 83).length) then (if ((jA S 83).getD ((jI S 82 29) - (1 : Int)).toNat 0) = (10 : Int) then (j_X7_lie_94 l1 l2 S) else (j_X7_lie_58 n l1 l2 (kI S 82 29 ((jI S 82 29) - (1 : Int))))) else none) else none))
theorem jr_X7_lie_58  (n : Nat) : ∀ {l1 : Int} {L1 : Int32} (h_l1 : L1.toInt = l1) {l2 : Int} {L2 : Int32} (h_l2 : L2.toInt = l2) {S : iS} {s : fS} (hs : sr S s), rf rV (j_X7_lie_58 n l1 l2 S) (f_X7_lie_58 n L1 L2 s) := by
  induction n with
  | zero => intros; exact rf_none
  | succ n ih =>
    intro l1 L1 h_l1 l2 L2 h_l2 S s hs
    rw [j_X7_lie_58, f_X7_lie_58]
    exact (rf_if (c_le (sr_gI hs rfl) li_0) (jr_X7_lie_94 h_l1 h_l2 hs) (rf_rg fun k1 => (rf_rg fun k2 => (rf_ck (k_in (i_sub (sr_gI hs rfl) li_1 k1) (sr_gA hs rfl) k2) (rf_if (c_eq (l_getD (sr_gA hs rfl) (i_nat (i_sub (sr_gI hs rfl) li_1 k1))) li_10) (jr_X7_lie_94 h_l1 h_l2 hs) (ih h_l1 h_l2 (sr_I hs rfl (i_sub (sr_gI hs rfl) li_1 k1))))))))
