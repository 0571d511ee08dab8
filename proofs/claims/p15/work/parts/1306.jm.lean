def j_X7_plainSort_124 (l1 : Int) (l2 : Int) (t0 : Int) (S : iS) : Option (Int × iS) := (some (t0, S))
theorem jr_X7_plainSort_124 {l1 : Int} {L1 : Int32} (h_l1 : L1.toInt = l1) {l2 : Int} {L2 : Int32} (h_l2 : L2.toInt = l2) {t0 : Int} {T0 : Int32} (h_t0 : T0.toInt = t0) {S : iS} {s : fS} (hs : sr S s) : rf rI (j_X7_plainSort_124 l1 l2 t0 S) (f_X7_plainSort_124 L1 L2 T0 s) := by
  unfold j_X7_plainSort_124 f_X7_plainSort_124
  exact (rf_some ⟨h_t0, hs⟩)
def j_X7_plainSort_123 (l1 : Int) (l2 : Int) (S : iS) : Option (Int × iS) := (j_X7_plainSort_124 l1 l2 (3 : Int) S)
theorem jr_X7_plainSort_123 {l1 : Int} {L1 : Int32} (h_l1 : L1.toInt = l1) {l2 : Int} {L2 : Int32} (h_l2 : L2.toInt = l2) {S : iS} {s : fS} (hs : sr S s) : rf rI (j_X7_plainSort_123 l1 l2 S) (f_X7_plainSort_123 L1 L2 s) := by
  unfold j_X7_plainSort_123 f_X7_plainSort_123
  exact (jr_X7_plainSort_124 h_l1 h_l2 li_3 hs)
def j_X7_plainSort_119 (l1 : Int) (l2 : Int) (S : iS) : Option (Int × iS) := (j_X7_plainSort_124 l1 l2 (1 : Int) S)
theorem jr_X7_plainSort_119 {l1 : Int} {L1 : Int32} (h_l1 : L1.toInt = l1) {l2 : Int} {L2 : Int32} (h_l2 : L2.toInt = l2) {S : iS} {s : fS} (hs : sr S s) : rf rI (j_X7_plainSort_119 l1 l2 S) (f_X7_plainSort_119 L1 L2 s) := by
  unfold j_X7_plainSort_119 f_X7_plainSort_119
  exact (jr_X7_plainSort_124 h_l1 h_l2 li_1 hs)
def j_X7_plainSort_80 (l1 : Int) (l2 : Int) (S : iS) : Option (Int × iS) := (if l2 = (0 : Int) then (j_X7_plainSort_123 l1 l2 S) else (if rg (l1 - (jI S 82 27)) then (if (6 : Int) < (l1 - (jI S 82 27)) then (j_X7_plainSort_123 l1 l2 S) else (if (l1 - (jI S 82 27)) = (1 : Int) then (j_X7_plainSort_119 l1 l2 S) else (if (0 ≤ (jI S 82 27) ∧ (jI S 82 27) < (jA S 83).length) then (if ((jA S 83).getD (jI S 82 27).toNat 0) = (48 : Int) then (j_X7_plainSort_123 l1 l2 S) else (j_X7_plainSort_119 l1 l2 S)) else none))) else none))
theorem jr_X7_plainSort_80 {l1 : Int} {L1 : Int32} (h_l1 : L1.toInt = l1) {l2 : Int} {L2 : Int32} (h_l2 : L2.toInt = l2) {S : iS} {s : fS} (hs : sr S s) : rf rI (j_X7_plainSort_80 l1 l2 S) (f_X7_plainSort_80 L1 L2 s) := by
  unfold j_X7_plainSort_80 f_X7_plainSort_80
  exact (rf_if (c_eq h_l2 li_0) (jr_X7_plainSort_123 h_l1 h_l2 hs) (rf_rg fun k1 => (rf_if (c_lt li_6 (i_sub h_l1 (sr_gI hs rfl) k1)) (jr_X7_plainSort_123 h_l1 h_l2 hs) (rf_if (c_eq (i_sub h_l1 (sr_gI hs rfl) k1) li_1) (jr_X7_plainSort_119 h_l1 h_l2 hs) (rf_rg fun k2 => (rf_ck (k_in (sr_gI hs rfl) (sr_gA hs rfl) k2) (rf_if (c_eq (l_getD (sr_gA hs rfl) (i_nat (sr_gI hs rfl))) li_48) (jr_X7_plainSort_123 h_l1 h_l2 hs) (jr_X7_plainSort_119 h_l1 h_l2 hs))))))))
def j_X7_plainSort_55 (l1 : Int) (l2 : Int) (S : iS) : Option (Int × iS) := (if l2 = (0 : Int) then (j_X7_plainSort_80 l1 l2 S) else (if (jI S 82 2) ≤ l1 then (j_X7_plainSort_80 l1 l2 S) else (if (0 ≤ l1 ∧ l1 < (jA S 83).length) then (if ¬ ((jA S 83).getD l1.toNat 0) = (46 : Int) then (j_X7_plainSort_80 l1 l2 S) else (some ((2 : Int), S))) else none)))
theorem jr_X7_plainSort_55 {l1 : Int} {L1 : Int32} (h_l1 : L1.toInt = l1) {l2 : Int} {L2 : Int32} (h_l2 : L2.toInt = l2) {S : iS} {s : fS} (hs : sr S s) : rf rI (j_X7_plainSort_55 l1 l2 S) (f_X7_plainSort_55 L1 L2 s) := by
  unfold j_X7_plainSort_55 f_X7_plainSort_55
  exact (rf_if (c_eq h_l2 li_0) (jr_X7_plainSort_80 h_l1 h_l2 hs) (rf_if (c_le (sr_gI hs rfl) h_l1) (jr_X7_plainSort_80 h_l1 h_l2 hs) (rf_rg fun k1 => (rf_ck (k_in h_l1 (sr_gA hs rfl) k1) (rf_if (c_not (c_eq (l_getD (sr_gA hs rfl) (i_nat h_l1)) li_46)) (jr_X7_plainSort_80 h_l1 h_l2 hs) (rf_some ⟨li_2, hs⟩))))))
def j_X7_plainSort_48 (r7 : Int → Int → iS → Option (Int × iS)) (l1 : Int) (l2 : Int) (t0 : Int) (S : iS) : Option (Int × iS) := (if rg (l1 + (1 : Int)) then (r7 (l1 + (1 : Int)) t0 S) else none)
theorem jr_X7_plainSort_48 {r7 : Int → Int → iS → Option (Int × iS)} {R7 : Int32 → Int32 → fS → Option (Int32 × fS)} (h_r7 : ∀ {y0 : Int} {Y0 : Int32} (h_y0 : Y0.toInt = y0) {y1 : Int} {Y1 : Int32} (h_y1 : Y1.toInt = y1) {S : iS} {s : fS} (hs : sr S s), rf rI (r7 y0 y1 S) (R7 Y0 Y1 s)) {l1 : Int} {L1 : Int32} (h_l1 : L1.toInt = l1) {l2 : Int} {L2 : Int32} (h_l2 : L2.toInt = l2) {t0 : Int} {T0 : Int32} (h_t0 : T0.toInt = t0) {S : iS} {s : fS} (hs : sr S s) : rf rI (j_X7_plainSort_48 r7 l1 l2 t0 S) (f_X7_plainSort_48 R7 L1 L2 T0 s) := by
  unfold j_X7_plainSort_48 f_X7_plainSort_48
  exact (rf_rg fun k1 => (h_r7 (i_add h_l1 lo_1 k1) h_t0 hs))
def j_X7_plainSort_47 (r7 : Int → Int → iS → Option (Int × iS)) (l1 : Int) (l2 : Int) (S : iS) : Option (Int × iS) := (j_X7_plainSort_48 r7 l1 l2 (0 : Int) S)
theorem jr_X7_plainSort_47 {r7 : Int → Int → iS → Option (Int × iS)} {R7 : Int32 → Int32 → fS → Option (Int32 × fS)} (h_r7 : ∀ {y0 : Int} {Y0 : Int32} (h_y0 : Y0.toInt = y0) {y1 : Int} {Y1 : Int32} (h_y1 : Y1.toInt = y1) {S : iS} {s : fS} (hs : sr S s), rf rI (r7 y0 y1 S) (R7 Y0 Y1 s)) {l1 : Int} {L1 : Int32} (h_l1 : L1.toInt = l1) {l2 : Int} {L2 : Int32} (h_l2 : L2.toInt = l2) {S : iS} {s : fS} (hs : sr S s) : rf rI (j_X7_plainSort_47 r7 l1 l2 S) (f_X7_plainSort_47 R7 L1 L2 s) := by
  unfold j_X7_plainSort_47 f_X7_plainSort_47
  exact (jr_X7_plainSort_48 h_r7 h_l1 h_l2 li_0 hs)
def j_X7_plainSort_7  : Nat → Int → Int → iS → Option (Int × iS)
  | 0, _, _, _ => none
  | n + 1, l1, l2, S => (if (jI S 82 2) ≤ l1 then (j_X7_plainSort_55 l1 l2 S) else (if (0 ≤ l1 ∧ l1 < (jA S 83).length) then ((j_X7_isPlain ((jA S 83).getD l1.toNat 0) S).bind fun qx1 => (if qx1.1 = (0 : Int) then (j_X7_plainSort_55 l1 l2 qx1.2) else (if l2 = (0 : Int) then (j_X7_plainSort_47 (fun l1' l2' S' => j_X7_plainSort_7 n l1' l2' S') l1 l2 qx1.2) else (if (0 ≤ l1 ∧ l1 < (jA qx1.2 83).length) then ((j_X7_isFigure ((jA qx1.2 83).getD l1.toNat 0) qx1.2).bind fun qx2 => (if qx2.1 = (0 : Int) then (j_X7_plainSort_47 (fun l1' l2' S' => j_X7_plainSort_7 n l1' l2' S') l1 l2 qx2.2) else (j_X7_plainSort_48 (fun l1' l2' S' => j_X7_plainSort_7 n l1' l2' S') l1 l2 (1 : Int) qx2.2))) else none)))) else none))
theorem jr_X7_plainSort_7  (n : Nat) : ∀ {l1 : Int} {L1 : Int32} (h_l1 : L1.toInt = l1) {l2 : Int} {L2 : Int32} (h_l2 : L2.toInt = l2) {S : iS} {s : fS} (hs : sr S s), rf rI (j_X7_plainSort_7 n l1 l2 S) (f_X7_plainSort_7 n L1 L2 s) := by
  induction n with
  | zero => intros; exact rf_none
  | succ n ih =>
    intro l1 L1 h_l1 l2 L2 h_l2 S s hs
    rw [j_X7_plainSort_7, f_X7_plainSort_7]
    exact (rf_if (c_le (sr_gI hs rfl) h_l1) (jr_X7_plainSort_55 h_l1 h_l2 hs) (rf_rg fun k1 => (rf_ck (k_in h_l1 (sr_gA hs rfl) k1) (rf_bind (jr_X7_isPlain (l_getD (sr_gA hs rfl) (i_nat h_l1)) hs) fun qx1 QX1 h_qx1 => (rf_if (c_eq h_qx1.1 li_0) (jr_X7_plainSort_55 h_l1 h_l2 h_qx1.2) (rf_if (c_eq h_l2 li_0) (jr_X7_plainSort_47 (@fun _ _ h_l1' _ _ h_l2' _ _ hs' => (ih h_l1' h_l2' hs')) h_l1 h_l2 h_qx1.2) (rf_rg fun k2 => (rf_ck (k_in h_l1 (sr_gA h_qx1.2 rfl) k2) (rf_bind (jr_X7_isFigure (l_getD (sr_gA h_qx1.2 rfl) (i_nat h_l1)) h_qx1.2) fun qx2 QX2 h_qx2 => (rf_if (c_eq h_qx2.1 li_0) (jr_X7_plainSort_47 (@fun _ _ h_l1' _ _ h_l2' _ _ hs' => (ih h_l1' h_l2' hs')) h_l1 h_l2 h_qx2.2) (jr_X7_plainSort_48 (@fun _ _ h_l1' _ _ h_l2' _ _ hs' => (ih h_l1' h_l2' hs')) h_l1 h_l2 li_1 h_qx2.2)))))))))))
def j_X7_plainSort_0 (S : iS) : Option (Int × iS) := (j_X7_plainSort_7 fuel (jI S 82 27) (1 : Int) S)
theorem jr_X7_plainSort_0 {S : iS} {s : fS} (hs : sr S s) : rf rI (j_X7_plainSort_0 S) (f_X7_plainSort_0 s) := by
  unfold j_X7_plainSort_0 f_X7_plainSort_0
  exact (jr_X7_plainSort_7 fuel (sr_gI hs rfl) li_1 hs)
def j_X7_plainSort (S : iS) : Option (Int × iS) := (j_X7_plainSort_0 S)
theorem jr_X7_plainSort {S : iS} {s : fS} (hs : sr S s) : rf rI (j_X7_plainSort S) (f_X7_plainSort s) := by
  unfold j_X7_plainSort f_X7_plainSort
  exact (jr_X7_plainSort_0 hs)
def j_X7_readPlainDecimal_89 (l1 : Int) (S : iS) : Option iS := (some S)
theorem jr_X7_readPlainDecimal_89 {l1 : Int} {L1 : Int32} (h_l1 : L1.toInt = l1) {S : iS} {s : fS} (hs : sr S s) : rf rV (j_X7_readPlainDecimal_89 l1 S) (f_X7_readPlainDecimal_89 L1 s) := by
  unfold j_X7_readPlainDecimal_89 f_X7_readPlainDecimal_89
  exact (rf_some hs)
def j_X7_readPlainDecimal_60 (l1 : Int) (S : iS) : Option iS := (if rg (l1 - (jI S 82 27)) then (if (l1 - (jI S 82 27)) ≤ (3 : Int) then ((j_X7_readNumber (0 : Int) S).bind fun qx1 => (j_X7_readPlainDecimal_89 l1 qx1)) else (if rg ((jI S 82 27) + (3 : Int)) then ((j_X7_wrong (2 : Int) ((jI S 82 27) + (3 : Int)) S).bind fun qx2 => (j_X7_readPlainDecimal_89 l1 qx2)) else none)) else none)
theorem jr_X7_readPlainDecimal_60 {l1 : Int} {L1 : Int32} (h_l1 : L1.toInt = l1) {S : iS} {s : fS} (hs : sr S s) : rf rV (j_X7_readPlainDecimal_60 l1 S) (f_X7_readPlainDecimal_60 L1 s) := by
  unfold j_X7_readPlainDecimal_60 f_X7_readPlainDecimal_60
  exact (rf_rg fun k1 => (rf_if (c_le (i_sub h_l1 (sr_gI hs rfl) k1) li_3) (rf_bind (jr_X7_readNumber li_0 hs) fun qx1 QX1 h_qx1 => (jr_X7_readPlainDecimal_89 h_l1 h_qx1)) (rf_rg fun k2 => (rf_bind (jr_X7_wrong li_2 (i_add (sr_gI hs rfl) li_3 k2) hs) fun qx2 QX2 h_qx2 => (jr_X7_readPlainDecimal_89 h_l1 h_qx2)))))
def j_X7_readPlainDecimal_5  : Nat → Int → iS → Option iS
  | 0, _, _ => none
  | n + 1, l1, S => (if (0 ≤ l1 ∧ l1 < (jA S 83).length) then (if ((jA S 83).getD l1.toNat 0) = (46 : Int) then (if (0 ≤ (jI S 82 27) ∧ (jI S 82 27) < (jA S 83).length) then (if ¬ ((jA S 83).getD (jI S 82 27).toNat 0) = (48 : Int) then (j_X7_readPlainDecimal_60 l1 S) else (if rg (l1 - (jI S 82 27)) then (if (l1 - (jI S 82 27)) ≤ (1 : Int) then (j_X7_readPlainDecimal_60 l1 S) else (if rg ((jI S 82 27) + (1 : Int)) then ((j_X7_wrong (1 : Int) ((jI S 82 27) + (1 : Int)) S).bind fun qx1 => (j_X7_readPlainDecimal_89 l1 qx1)) else none)) else none)) else none) else (if rg (l1 + (1 : Int)) then (j_X7_readPlainDecimal_5 n (l1 + (1 : Int)) S) else none)) else none)
theorem jr_X7_readPlainDecimal_5  (n : Nat) : ∀ {l1 : Int} {L1 : Int32} (h_l1 : L1.toInt = l1) {S : iS} {s : fS} (hs : sr S s), rf rV (j_X7_readPlainDecimal_5 n l1 S) (f_X7_readPlainDecimal_5 n L1 s) := by
  induction n with
  | zero => intros; exact rf_none
  | succ n ih =>
    intro l1 L1 h_l1 S s hs
    rw [j_X7_readPlainDecimal_5, f_X7_readPlainDecimal_5]
    exact (rf_rg fun k1 => (rf_ck (k_in h_l1 (sr_gA hs rfl) k1) (rf_if (c_eq (l_getD (sr_gA hs rfl) (i_nat h_l1)) li_46) (rf_rg fun k2 => (rf_ck (k_in (sr_gI hs rfl) (sr_gA hs rfl) k2) (rf_if (c_not (c_eq (l_getD (sr_gA hs rfl) (i_nat (sr_gI hs rfl))) li_48)) (jr_X7_readPlainDecimal_60 h_l1 hs) (rf_rg fun k3 => (rf_if (c_le (i_sub h_l1 (sr_gI hs rfl) k3) li_1) (jr_X7_readPlainDecimal_60 h_l1 hs) (rf_rg fun k4 => (rf_bind (jr_X7_wrong li_1 (i_add (sr_gI hs rfl) li_1 k4) hs) fun qx1 QX1 h_qx1 => (jr_X7_readPlainDecimal_89 h_l1 h_qx1)))))))) (rf_rg fun k5 => (ih (i_add h_l1 lo_1 k5) hs)))))
def j_X7_readPlainDecimal_0 (S : iS) : Option iS := (j_X7_readPlainDecimal_5 fuel (jI S 82 27) S)
theorem jr_X7_readPlainDecimal_0 {S : iS} {s : fS} (hs : sr S s) : rf rV (j_X7_readPlainDecimal_0 S) (f_X7_readPlainDecimal_0 s) := by
  unfold j_X7_readPlainDecimal_0 f_X7_readPlainDecimal_0
  exact (jr_X7_readPlainDecimal_5 fuel (sr_gI hs rfl) hs)
def j_X7_readPlainDecimal (S : iS) : Option iS := (j_X7_readPlainDecimal_0 S)
theorem jr_X7_readPlainDecimal {S : iS} {s : fS} (hs : sr S s) : rf rV (j_X7_readPlainDecimal S) (f_X7_readPlainDecimal s) := by
  unfold j_X7_readPlainDecimal f_X7_readPlainDecimal
  exact (jr_X7_readPlainDecimal_0 hs)
def j_X7_readAny_66 (l1 : Int) (l2 : Int) (S : iS) : Option iS := (some S)
theorem jr_X7_readAny_66 {l1 : Int} {L1 : Int32} (h_l1 : L1.toInt = l1) {l2 : Int} {L2 : Int32} (h_l2 : L2.toInt = l2) {S : iS} {s : fS} (hs : sr S s) : rf rV (j_X7_readAny_66 l1 l2 S) (f_X7_readAny_66 L1 L2 s) := by
  unfold j_X7_readAny_66 f_X7_readAny_66
  exact (rf_some hs)
def j_X7_readAny_54 (l1 : Int) (l2 : Int) (S : iS) : Option iS := ((j_X7_readNumber (0 : Int) S).bind fun qx1 => (j_X7_readAny_66 l1 l2 qx1))
theorem jr_X7_readAny_54 {l1 : Int} {L1 : Int32} (h_l1 : L1.toInt = l1) {l2 : Int} {L2 : Int32} (h_l2 : L2.toInt = l2) {S : iS} {s : fS} (hs : sr S s) : rf rV (j_X7_readAny_54 l1 l2 S) (f_X7_readAny_54 L1 L2 s) := by
  unfold j_X7_readAny_54 f_X7_readAny_54
  exact (rf_bind (jr_X7_readNumber li_0 hs) fun qx1 QX1 h_qx1 => (jr_X7_readAny_66 h_l1 h_l2 h_qx1))
def j_X7_readAny_25 (l1 : Int) (t0 : Int) (S : iS) : Option iS := (if ¬ t0 = (3 : Int) then (if l1 = (45 : Int) then (j_X7_readAny_54 l1 t0 S) else (if ¬ t0 = (1 : Int) then ((j_X7_readPlainDecimal S).bind fun qx1 => (j_X7_readAny_66 l1 t0 qx1)) else (j_X7_readAny_54 l1 t0 S))) else ((j_X7_readName (kI S 82 33 (3 : Int))).bind fun qx2 => (j_X7_readAny_66 l1 t0 qx2)))
theorem jr_X7_readAny_25 {l1 : Int} {L1 : Int32} (h_l1 : L1.toInt = l1) {t0 : Int} {T0 : Int32} (h_t0 : T0.toInt = t0) {S : iS} {s : fS} (hs : sr S s) : rf rV (j_X7_readAny_25 l1 t0 S) (f_X7_readAny_25 L1 T0 s) := by
  unfold j_X7_readAny_25 f_X7_readAny_25
  exact (rf_if (c_not (c_eq h_t0 li_3)) (rf_if (c_eq h_l1 li_45) (jr_X7_readAny_54 h_l1 h_t0 hs) (rf_if (c_not (c_eq h_t0 li_1)) (rf_bind (jr_X7_readPlainDecimal hs) fun qx1 QX1 h_qx1 => (jr_X7_readAny_66 h_l1 h_t0 h_qx1)) (jr_X7_readAny_54 h_l1 h_t0 hs))) (rf_bind (jr_X7_readName (sr_I hs rfl li_3)) fun qx2 QX2 h_qx2 => (jr_X7_readAny_66 h_l1 h_t0 h_qx2)))
def j_X7_readAny_0 (l1 : Int) (S : iS) : Option iS := (if ¬ l1 = (45 : Int) then ((j_X7_isPlain l1 S).bind fun qx1 => (if qx1.1 = (0 : Int) then (j_X7_readAny_25 l1 (3 : Int) qx1.2) else ((j_X7_plainSort qx1.2).bind fun qx2 => (j_X7_readAny_25 l1 qx2.1 qx2.2)))) else (j_X7_readAny_25 l1 (2 : Int) S))
theorem jr_X7_readAny_0 {l1 : Int} {L1 : Int32} (h_l1 : L1.toInt = l1) {S : iS} {s : fS} (hs : sr S s) : rf rV (j_X7_readAny_0 l1 S) (f_X7_readAny_0 L1 s) := by
  unfold j_X7_readAny_0 f_X7_readAny_0
  exact (rf_if (c_not (c_eq h_l1 li_45)) (rf_bind (jr_X7_isPlain h_l1 hs) fun qx1 QX1 h_qx1 => (rf_if (c_eq h_qx1.1 li_0) (jr_X7_readAny_25 h_l1 li_3 h_qx1.2) (rf_bind (jr_X7_plainSort h_qx1.2) fun qx2 QX2 h_qx2 => (jr_X7_readAny_25 h_l1 h_qx2.1 h_qx2.2)))) (jr_X7_readAny_25 h_l1 li_2 hs))
def j_X7_readAny (l1 : Int) (S : iS) : Option iS := (j_X7_readAny_0 l1 S)
theorem jr_X7_readAny {l1 : Int} {L1 : Int32} (h_l1 : L1.toInt = l1) {S : iS} {s : fS} (hs : sr S s) : rf rV (j_X7_readAny l1 S) (f_X7_readAny L1 s) := by
  unfold j_X7_readAny f_X7_readAny
  exact (jr_X7_readAny_0 h_l1 hs)
def j_X7_readValue_216 (l1 : Int) (l2 : Int) (l3 : Int) (S : iS) : Option iS := (some S)
theorem jr_X7_readValue_216 {l1 : Int} {L1 : Int32} (h_l1 : L1.toInt = l1) {l2 : Int} {L2 : Int32} (h_l2 : L2.toInt = l2) {l3 : Int} {L3 : Int32} (h_l3 : L3.toInt = l3) {S : iS} {s : fS} (hs : sr S s) : rf rV (j_X7_readValue_216 l1 l2 l3 S) (f_X7_readValue_216 L1 L2 L3 s) := by
  unfold j_X7_readValue_216 f_X7_readValue_216
  exact (rf_some hs)
def j_X7_readValue_158 (l1 : Int) (l2 : Int) (l3 : Int) (S : iS) : Option iS := ((j_X7_wrong (3 : Int) (jI S 82 27) S).bind fun qx1 => (j_X7_readValue_216 l1 l2 l3 qx1))
theorem jr_X7_readValue_158 {l1 : Int} {L1 : Int32} (h_l1 : L1.toInt = l1) {l2 : Int} {L2 : Int32} (h_l2 : L2.toInt = l2) {l3 : Int} {L3 : Int32} (h_l3 : L3.toInt = l3) {S : iS} {s : fS} (hs : sr S s) : rf rV (j_X7_readValue_158 l1 l2 l3 S) (f_X7_readValue_158 L1 L2 L3 s) := by
  unfold j_X7_readValue_158 f_X7_readValue_158
  exact (rf_bind (jr_X7_wrong li_3 (sr_gI hs rfl) hs) fun qx1 QX1 h_qx1 => (jr_X7_readValue_216 h_l1 h_l2 h_l3 h_qx1))
def j_X7_readValue_193 (l1 : Int) (l2 : Int) (l3 : Int) (t0 : Int) (S : iS) : Option iS := ((j_X7_readNumber t0 S).bind fun qx1 => (j_X7_readValue_216 l1 l2 l3 qx1))
theorem jr_X7_readValue_193 {l1 : Int} {L1 : Int32} (h_l1 : L1.toInt = l1) {l2 : Int} {L2 : Int32} (h_l2 : L2.toInt = l2) {l3 : Int} {L3 : Int32} (h_l3 : L3.toInt = l3) {t0 : Int} {T0 : Int32} (h_t0 : T0.toInt = t0) {S : iS} {s : fS} (hs : sr S s) : rf rV (j_X7_readValue_193 l1 l2 l3 t0 S) (f_X7_readValue_193 L1 L2 L3 T0 s) := by
  unfold j_X7_readValue_193 f_X7_readValue_193
  exact (rf_bind (jr_X7_readNumber h_t0 hs) fun qx1 QX1 h_qx1 => (jr_X7_readValue_216 h_l1 h_l2 h_l3 h_qx1))
def j_X7_readValue_183 (l1 : Int) (l2 : Int) (l3 : Int) (S : iS) : Option iS := (if ¬ l1 = (0 : Int) then (j_X7_readValue_193 l1 l2 l3 (0 : Int) S) else (j_X7_readValue_193 l1 l2 l3 (1 : Int) S))
theorem jr_X7_readValue_183 {l1 : Int} {L1 : Int32} (h_l1 : L1.toInt = l1) {l2 : Int} {L2 : Int32} (h_l2 : L2.toInt = l2) {l3 : Int} {L3 : Int32} (h_l3 : L3.toInt = l3) {S : iS} {s : fS} (hs : sr S s) : rf rV (j_X7_readValue_183 l1 l2 l3 S) (f_X7_readValue_183 L1 L2 L3 s) := by
  unfold j_X7_readValue_183 f_X7_readValue_183
  exact (rf_if (c_not (c_eq h_l1 li_0)) (jr_X7_readValue_193 h_l1 h_l2 h_l3 li_0 hs) (jr_X7_readValue_193 h_l1 h_l2 h_l3 li_1 hs))
def j_X7_readValue_170 (l1 : Int) (l2 : Int) (l3 : Int) (S : iS) : Option iS := (if l2 = (45 : Int) then (j_X7_readValue_183 l1 l2 l3 S) else ((j_X7_isFigure l2 S).bind fun qx1 => (if qx1.1 = (0 : Int) then ((j_X7_wrong (1 : Int) (jI qx1.2 82 27) qx1.2).bind fun qx2 => (j_X7_readValue_216 l1 l2 l3 qx2)) else (j_X7_readValue_183 l1 l2 l3 qx1.2))))
theorem jr_X7_readValue_170 {l1 : Int} {L1 : Int32} (h_l1 : L1.toInt = l1) {l2 : Int} {L2 : Int32} (h_l2 : L2.toInt = l2) {l3 : Int} {L3 : Int32} (h_l3 : L3.toInt = l3) {S : iS} {s : fS} (hs : sr S s) : rf rV (j_X7_readValue_170 l1 l2 l3 S) (f_X7_readValue_170 L1 L2 L3 s) := by
  unfold j_X7_readValue_170 f_X7_readValue_170
  exact (rf_if (c_eq h_l2 li_45) (jr_X7_readValue_183 h_l1 h_l2 h_l3 hs) (rf_bind (jr_X7_isFigure h_l2 hs) fun qx1 QX1 h_qx1 => (rf_if (c_eq h_qx1.1 li_0) (rf_bind (jr_X7_wrong li_1 (sr_gI h_qx1.2 rfl) h_qx1.2) fun qx2 QX2 h_qx2 => (jr_X7_readValue_216 h_l1 h_l2 h_l3 h_qx2)) (jr_X7_readValue_183 h_l1 h_l2 h_l3 h_qx1.2))))
def j_X7_readValue_73 (l1 : Int) (l2 : Int) (t0 : Int) (S : iS) : Option iS := (if t0 = (0 : Int) then (if ¬ l1 = (2 : Int) then (if (2 : Int) ≤ l1 then ((j_X7_readAny l2 S).bind fun qx1 => (j_X7_readValue_216 l1 l2 t0 qx1)) else (if l2 = (34 : Int) then (j_X7_readValue_158 l1 l2 t0 S) else ((j_X7_isPlain l2 S).bind fun qx2 => (if qx2.1 = (0 : Int) then (j_X7_readValue_170 l1 l2 t0 qx2.2) else ((j_X7_isFigure l2 qx2.2).bind fun qx3 => (if ¬ qx3.1 = (0 : Int) then (j_X7_readValue_170 l1 l2 t0 qx3.2) else (j_X7_readValue_158 l1 l2 t0 qx3.2))))))) else (if ¬ l2 = (45 : Int) then ((j_X7_readName (kI S 82 33 (3 : Int))).bind fun qx4 => (j_X7_readValue_216 l1 l2 t0 qx4)) else (if rg ((jI S 82 27) + (1 : Int)) then ((j_X7_wrong (1 : Int) ((jI S 82 27) + (1 : Int)) (kI S 82 33 (3 : Int))).bind fun qx5 => (j_X7_readValue_216 l1 l2 t0 qx5)) else none))) else (if rg ((jI S 82 27) + (1 : Int)) then (j_X7_readValue_216 l1 l2 t0 (kI (kI S 82 33 (0 : Int)) 82 27 ((jI S 82 27) + (1 : Int)))) else none))
theorem jr_X7_readValue_73 {l1 : Int} {L1 : Int32} (h_l1 : L1.toInt = l1) {l2 : Int} {L2 : Int32} (h_l2 : L2.toInt = l2) {t0 : Int} {T0 : Int32} (h_t0 : T0.toInt = t0) {S : iS} {s : fS} (hs : sr S s) : rf rV (j_X7_readValue_73 l1 l2 t0 S) (f_X7_readValue_73 L1 L2 T0 s) := by
  unfold j_X7_readValue_73 f_X7_readValue_73
  exact (rf_if (c_eq h_t0 li_0) (rf_if (c_not (c_eq h_l1 li_2)) (rf_if (c_le li_2 h_l1) (rf_bind (jr_X7_readAny h_l2 hs) fun qx1 QX1 h_qx1 => (jr_X7_readValue_216 h_l1 h_l2 h_t0 h_qx1)) (rf_if (c_eq h_l2 li_34) (jr_X7_readValue_158 h_l1 h_l2 h_t0 hs) (rf_bind (jr_X7_isPlain h_l2 hs) fun qx2 QX2 h_qx2 => (rf_if (c_eq h_qx2.1 li_0) (jr_X7_readValue_170 h_l1 h_l2 h_t0 h_qx2.2) (rf_bind (jr_X7_isFigure h_l2 h_qx2.2) fun qx3 QX3 h_qx3 => (rf_if (c_not (c_eq h_qx3.1 li_0)) (jr_X7_readValue_170 h_l1 h_l2 h_t0 h_qx3.2) (jr_X7_readValue_158 h_l1 h_l2 h_t0 h_qx3.2))))))) (rf_if (c_not (c_eq h_l2 li_45)) (rf_bind (jr_X7_readName (sr_I hs rfl li_3)) fun qx4 QX4 h_qx4 => (jr_X7_readValue_216 h_l1 h_l2 h_t0 h_qx4)) (rf_rg fun k1 => (rf_bind (jr_X7_wrong li_1 (i_add (sr_gI hs rfl) li_1 k1) (sr_I hs rfl li_3)) fun qx5 QX5 h_qx5 => (jr_X7_readValue_216 h_l1 h_l2 h_t0 h_qx5))))) (rf_rg fun k2 => (jr_X7_readValue_216 h_l1 h_l2 h_t0 (sr_I (sr_I hs rfl li_0) rfl (i_add (sr_gI hs rfl) li_1 k2)))))
def j_X7_readValue_72 (l1 : Int) (l2 : Int) (S : iS) : Option iS := (j_X7_readValue_73 l1 l2 (0 : Int) S)
theorem jr_X7_readValue_72 {l1 : Int} {L1 : Int32} (h_l1 : L1.toInt = l1) {l2 : Int} {L2 : Int32} (h_l2 : L2.toInt = l2) {S : iS} {s : fS} (hs : sr S s) : rf rV (j_X7_readValue_72 l1 l2 S) (f_X7_readValue_72 L1 L2 s) := by
  unfold j_X7_readValue_72 f_X7_readValue_72
  exact (jr_X7_readValue_73 h_l1 h_l2 li_0 hs)
def j_X7_readValue_68 (l1 : Int) (l2 : Int) (S : iS) : Option iS := (j_X7_readValue_73 l1 l2 (1 : Int) S)
theorem jr_X7_readValue_68 {l1 : Int} {L1 : Int32} (h_l1 : L1.toInt = l1) {l2 : Int} {L2 : Int32} (h_l2 : L2.toInt = l2) {S : iS} {s : fS} (hs : sr S s) : rf rV (j_X7_readValue_68 l1 l2 S) (f_X7_readValue_68 L1 L2 s) := by
  unfold j_X7_readValue_68 f_X7_readValue_68
  exact (jr_X7_readValue_73 h_l1 h_l2 li_1 hs)
def j_X7_readValue_0 (l1 : Int) (S : iS) : Option iS := (if 0 < (jA S 103).length then ((j_X7_here (kI (kA S 103 ((jA S 103).set 0 (0 : Int))) 82 34 (0 : Int))).bind fun qx1 => (if ¬ qx1.1 = (45 : Int) then (j_X7_readValue_72 l1 qx1.1 qx1.2) else (if rg ((jI qx1.2 82 27) + (1 : Int)) then (if (jI qx1.2 82 2) ≤ ((jI qx1.2 82 27) + (1 : Int)) then (j_X7_readValue_68 l1 qx1.1 qx1.2) else (if (0 ≤ ((jI qx1.2 82 27) + (1 : Int)) ∧ ((jI qx1.2 82 27) + (1 : Int)) < (jA qx1.2 83).length) then (if ((jA qx1.2 83).getD ((jI qx1.2 82 27) + (1 : Int)).toNat 0) = (32 : Int) then (j_X7_readValue_68 l1 qx1.1 qx1.2) else (if ¬ ((jA qx1.2 83).getD ((jI qx1.2 82 27) + (1 : Int)).toNat 0) = (10 : Int) then (j_X7_readValue_72 l1 qx1.1 qx1.2) else (j_X7_readValue_68 l1 qx1.1 qx1.2))) else none)) else none))) else none)
theorem jr_X7_readValue_0 {l1 : Int} {L1 : Int32} (h_l1 : L1.toInt = l1) {S : iS} {s : fS} (hs : sr S s) : rf rV (j_X7_readValue_0 l1 S) (f_X7_readValue_0 L1 s) := by
  unfold j_X7_readValue_0 f_X7_readValue_0
  exact (rf_rg fun k1 => (rf_ck (k_inl ix_0 li_0 (sr_gA hs rfl) k1) (rf_bind (jr_X7_here (sr_I (sr_A hs rfl (l_set (sr_gA hs rfl) ix_0 li_0)) rfl li_0)) fun qx1 QX1 h_qx1 => (rf_if (c_not (c_eq h_qx1.1 li_45)) (jr_X7_readValue_72 h_l1 h_qx1.1 h_qx1.2) (rf_rg fun k2 => (rf_if (c_le (sr_gI h_qx1.2 rfl) (i_add (sr_gI h_qx1.2 rfl) li_1 k2)) (jr_X7_readValue_68 h_l1 h_qx1.1 h_qx1.2) (rf_rg fun k3 => (rf_ck (k_in (i_add (sr_gI h_qx1.2 rfl) li_1 k2) (sr_gA h_qx1.2 rfl) k3) (rf_if (c_eq (l_getD (sr_gA h_qx1.2 rfl) (i_nat (i_add (sr_gI h_qx1.2 rfl) li_1 k2))) li_32) (jr_X7_readValue_68 h_l1 h_qx1.1 h_qx1.2) (rf_ck (k_in (i_add (sr_gI h_qx1.2 rfl) li_1 k2) (sr_gA h_qx1.2 rfl) k3) (rf_if (c_not (c_eq (l_getD (sr_gA h_qx1.2 rfl) (i_nat (i_add (sr_gI h_qx1.2 rfl) li_1 k2))) li_10)) (jr_X7_readValue_72 h_l1 h_qx1.1 h_qx1.2) (jr_X7_readValue_68 h_l1 h_qx1.1 h_qx1.2))))))))))))
def j_X7_readValue (l1 : Int) (S : iS) : Option iS := (j_X7_readValue_0 l1 S)
theorem jr_X7_readValue {l1 : Int} {L1 : Int32} (h_l1 : L1.toInt = l1) {S : iS} {s : fS} (hs : sr S s) : rf rV (j_X7_readValue l1 S) (f_X7_readValue L1 s) := by
  unfold j_X7_readValue f_X7_readValue
  exact (jr_X7_readValue_0 h_l1 hs)
def j_X7_isSame_64 (a1 : Nat) (l2 : Int) (l3 : Int) (l4 : Int) (S : iS) : Option (Int × iS) := (if (l3 = 0 ∨ l3 = 1) then (some (l3, S)) else none)
theorem jr_X7_isSame_64 {a1 A1 : Nat} (h_a1 : A1 = a1) {l2 : Int} {L2 : Int32} (h_l2 : L2.toInt = l2) {l3 : Int} {L3 : Int32} (h_l3 : L3.toInt = l3) {l4 : Int} {L4 : Int32} (h_l4 : L4.toInt = l4) {S : iS} {s : fS} (hs : sr S s) : rf rI (j_X7_isSame_64 a1 l2 l3 l4 S) (f_X7_isSame_64 A1 L2 L3 L4 s) := by
  unfold j_X7_isSame_64 f_X7_isSame_64
  exact (rf_rg fun k1 => (rf_ck (k_fbl h_l3 k1) (rf_some ⟨h_l3, hs⟩)))
def j_X7_isSame_57 (a1 : Nat) (r21 : Int → Int → Int → iS → Option (Int × iS)) (l2 : Int) (l3 : Int) (l4 : Int) (t0 : Int) (S : iS) : Option (Int × iS) := (if rg (l4 + (1 : Int)) then (r21 l2 t0 (l4 + (1 : Int)) S) else none)
theorem jr_X7_isSame_57 {a1 A1 : Nat} (h_a1 : A1 = a1) {r21 : Int → Int → Int → iS → Option (Int × iS)} {R21 : Int32 → Int32 → Int32 → fS → Option (Int32 × fS)} (h_r21 : ∀ {y0 : Int} {Y0 : Int32} (h_y0 : Y0.toInt = y0) {y1 : Int} {Y1 : Int32} (h_y1 : Y1.toInt = y1) {y2 : Int} {Y2 : Int32} (h_y2 : Y2.toInt = y2) {S : iS} {s : fS} (hs : sr S s), rf rI (r21 y0 y1 y2 S) (R21 Y0 Y1 Y2 s)) {l2 : Int} {L2 : Int32} (h_l2 : L2.toInt = l2) {l3 : Int} {L3 : Int32} (h_l3 : L3.toInt = l3) {l4 : Int} {L4 : Int32} (h_l4 : L4.toInt = l4) {t0 : Int} {T0 : Int32} (h_t0 : T0.toInt = t0) {S : iS} {s : fS} (hs : sr S s) : rf rI (j_X7_isSame_57 a1 r21 l2 l3 l4 t0 S) (f_X7_isSame_57 A1 R21 L2 L3 L4 T0 s) := by
  unfold j_X7_isSame_57 f_X7_isSame_57
  exact (rf_rg fun k1 => (h_r21 h_l2 h_t0 (i_add h_l4 lo_1 k1) hs))
def j_X7_isSame_21 (a1 : Nat) : Nat → Int → Int → Int → iS → Option (Int × iS)
  | 0, _, _, _, _ => none
  | n + 1, l2, l3, l4, S => (if 0 < (jA S 103).length then (if ((jA S 103).getD 0 0) < l4 then (j_X7_isSame_64 a1 l2 l3 l4 S) else (if l3 = (0 : Int) then (j_X7_isSame_64 a1 l2 l3 l4 S) else (if rg (l2 + l4) then (if (0 ≤ (l2 + l4) ∧ (l2 + l4) < (jA S a1).length) then (if (0 ≤ l4 ∧ l4 < (jA S 103).length) then (if ¬ ((jA S a1).getD (l2 + l4).toNat 0) = ((jA S 103).getD l4.toNat 0) then (j_X7_isSame_57 a1 (fun l2' l3' l4' S' => j_X7_isSame_21 a1 n l2' l3' l4' S') l2 l3 l4 (0 : Int) S) else (j_X7_isSame_57 a1 (fun l2' l3' l4' S' => j_X7_isSame_21 a1 n l2' l3' l4' S') l2 l3 l4 (1 : Int) S)) else none) else none) else none))) else none)
theorem jr_X7_isSame_21 {a1 A1 : Nat} (h_a1 : A1 = a1) (n : Nat) : ∀ {l2 : Int} {L2 : Int32} (h_l2 : L2.toInt = l2) {l3 : Int} {L3 : Int32} (h_l3 : L3.toInt = l3) {l4 : Int} {L4 : Int32} (h_l4 : L4.toInt = l4) {S : iS} {s : fS} (hs : sr S s), rf rI (j_X7_isSame_21 a1 n l2 l3 l4 S) (f_X7_isSame_21 A1 n L2 L3 L4 s) := by
  induction n with
  | zero => intros; exact rf_none
  | succ n ih =>
    intro l2 L2 h_l2 l3 L3 h_l3 l4 L4 h_l4 S s hs
    rw [j_X7_isSame_21, f_X7_isSame_21]
    exact (rf_rg fun k1 => (rf_ck (k_inl ix_0 li_0 (sr_gA hs rfl) k1) (rf_if (c_lt (l_getD (sr_gA hs rfl) ix_0) h_l4) (jr_X7_isSame_64 h_a1 h_l2 h_l3 h_l4 hs) (rf_if (c_eq h_l3 li_0) (jr_X7_isSame_64 h_a1 h_l2 h_l3 h_l4 hs) (rf_rg fun k2 => (rf_rg fun k3 => (rf_ck (k_in (i_add h_l2 h_l4 k2) (sr_gA hs h_a1) k3) (rf_rg fun k4 => (rf_ck (k_in h_l4 (sr_gA hs rfl) k4) (rf_if (c_not (c_eq (l_getD (sr_gA hs h_a1) (i_nat (i_add h_l2 h_l4 k2))) (l_getD (sr_gA hs rfl) (i_nat h_l4)))) (jr_X7_isSame_57 h_a1 (@fun _ _ h_l2' _ _ h_l3' _ _ h_l4' _ _ hs' => (ih h_l2' h_l3' h_l4' hs')) h_l2 h_l3 h_l4 li_0 hs) (jr_X7_isSame_57 h_a1 (@fun _ _ h_l2' _ _ h_l3' _ _ h_l4' _ _ hs' => (ih h_l2' h_l3' h_l4' hs')) h_l2 h_l3 h_l4 li_1 hs)))))))))))
def j_X7_isSame_17 (a1 : Nat) (l2 : Int) (t0 : Int) (S : iS) : Option (Int × iS) := (j_X7_isSame_21 a1 fuel l2 t0 (1 : Int) S)
theorem jr_X7_isSame_17 {a1 A1 : Nat} (h_a1 : A1 = a1) {l2 : Int} {L2 : Int32} (h_l2 : L2.toInt = l2) {t0 : Int} {T0 : Int32} (h_t0 : T0.toInt = t0) {S : iS} {s : fS} (hs : sr S s) : rf rI (j_X7_isSame_17 a1 l2 t0 S) (f_X7_isSame_17 A1 L2 T0 s) := by
  unfold j_X7_isSame_17 f_X7_isSame_17
  exact (jr_X7_isSame_21 h_a1 fuel h_l2 h_t0 li_1 hs)
def j_X7_isSame_0 (a1 : Nat) (l2 : Int) (S : iS) : Option (Int × iS) := (if (0 ≤ l2 ∧ l2 < (jA S a1).length) then (if 0 < (jA S 103).length then (if ¬ ((jA S a1).getD l2.toNat 0) = ((jA S 103).getD 0 0) then (j_X7_isSame_17 a1 l2 (0 : Int) S) else (j_X7_isSame_17 a1 l2 (1 : Int) S)) else none) else none)
theorem jr_X7_isSame_0 {a1 A1 : Nat} (h_a1 : A1 = a1) {l2 : Int} {L2 : Int32} (h_l2 : L2.toInt = l2) {S : iS} {s : fS} (hs : sr S s) : rf rI (j_X7_isSame_0 a1 l2 S) (f_X7_isSame_0 A1 L2 s) := by
  unfold j_X7_isSame_0 f_X7_isSame_0
  exact (rf_rg fun k1 => (rf_ck (k_in h_l2 (sr_gA hs h_a1) k1) (rf_rg fun k2 => (rf_ck (k_inl ix_0 li_0 (sr_gA hs rfl) k2) (rf_if (c_not (c_eq (l_getD (sr_gA hs h_a1) (i_nat h_l2)) (l_getD (sr_gA hs rfl) ix_0))) (jr_X7_isSame_17 h_a1 h_l2 li_0 hs) (jr_X7_isSame_17 h_a1 h_l2 li_1 hs))))))
def j_X7_isSame (a1 : Nat) (l2 : Int) (S : iS) : Option (Int × iS) := (j_X7_isSame_0 a1 l2 S)
theorem jr_X7_isSame {a1 A1 : Nat} (h_a1 : A1 = a1) {l2 : Int} {L2 : Int32} (h_l2 : L2.toInt = l2) {S : iS} {s : fS} (hs : sr S s) : rf rI (j_X7_isSame a1 l2 S) (f_X7_isSame A1 L2 s) := by
  unfold j_X7_isSame f_X7_isSame
  exact (jr_X7_isSame_0 h_a1 h_l2 hs)
def j_X7_layName_2 (a1 : Nat) : Nat → Int → Int → iS → Option iS
  | 0, _, _, _ => none
  | n + 1, l2, l3, S => (if 0 < (jA S 103).length then (if ((jA S 103).getD 0 0) < l3 then (some S) else (if (0 ≤ l3 ∧ l3 < (jA S 103).length) then (if rg (l2 + l3) then (if (0 ≤ (l2 + l3) ∧ (l2 + l3) < (jA S a1).length) then (if rg (l3 + (1 : Int)) then (j_X7_layName_2 a1 n l2 (l3 + (1 : Int)) (kA S a1 ((jA S a1).set (l2 + l3).toNat ((jA S 103).getD l3.toNat 0)))) else none) else none) else none) else none)) else none)
theorem jr_X7_layName_2 {a1 A1 : Nat} (h_a1 : A1 = a1) (n : Nat) : ∀ {l2 : Int} {L2 : Int32} (h_l2 : L2.toInt = l2) {l3 : Int} {L3 : Int32} (h_l3 : L3.toInt = l3) {S : iS} {s : fS} (hs : sr S s), rf rV (j_X7_layName_2 a1 n l2 l3 S) (f_X7_layName_2 A1 n L2 L3 s) := by
  induction n with
  | zero => intros; exact rf_none
  | succ n ih =>
    intro l2 L2 h_l2 l3 L3 h_l3 S s hs
    rw [j_X7_layName_2, f_X7_layName_2]
    exact (rf_rg fun k1 => (rf_ck (k_inl ix_0 li_0 (sr_gA hs rfl) k1) (rf_if (c_lt (l_getD (sr_gA hs rfl) ix_0) h_l3) (rf_some hs) (rf_rg fun k2 => (rf_ck (k_in h_l3 (sr_gA hs rfl) k2) (rf_rg fun k3 => (rf_rg fun k4 => (rf_ck (k_in (i_add h_l2 h_l3 k3) (sr_gA hs h_a1) k4) (rf_rg fun k5 => (ih h_l2 (i_add h_l3 lo_1 k5) (sr_A hs h_a1 (l_set (sr_gA hs h_a1) (i_nat (i_add h_l2 h_l3 k3)) (l_getD (sr_gA hs rfl) (i_nat h_l3))))))))))))))
def j_X7_layName_0 (a1 : Nat) (l2 : Int) (S : iS) : Option iS := (j_X7_layName_2 a1 fuel l2 (0 : Int) S)
theorem jr_X7_layName_0 {a1 A1 : Nat} (h_a1 : A1 = a1) {l2 : Int} {L2 : Int32} (h_l2 : L2.toInt = l2) {S : iS} {s : fS} (hs : sr S s) : rf rV (j_X7_layName_0 a1 l2 S) (f_X7_layName_0 A1 L2 s) := by
  unfold j_X7_layName_0 f_X7_layName_0
  exact (jr_X7_layName_2 h_a1 fuel h_l2 li_0 hs)
def j_X7_layName (a1 : Nat) (l2 : Int) (S : iS) : Option iS := (j_X7_layName_0 a1 l2 S)
theorem jr_X7_layName {a1 A1 : Nat} (h_a1 : A1 = a1) {l2 : Int} {L2 : Int32} (h_l2 : L2.toInt = l2) {S : iS} {s : fS} (hs : sr S s) : rf rV (j_X7_layName a1 l2 S) (f_X7_layName A1 L2 s) := by
  unfold j_X7_layName f_X7_layName
  exact (jr_X7_layName_0 h_a1 h_l2 hs)
def j_X7_laySort_0 (l1 : Int) (S : iS) : Option iS := (if 1 < (jA S 99).length then (if rg ((601 : Int) + ((jA S 99).getD 1 0)) then (if (0 ≤ ((601 : Int) + ((jA S 99).getD 1 0)) ∧ ((601 : Int) + ((jA S 99).getD 1 0)) < (jA S 100).length) then (if rg (((jA S 99).getD 1 0) + (1 : Int)) then (some (kA (kA S 100 ((jA S 100).set ((601 : Int) + ((jA S 99).getD 1 0)).toNat l1)) 99 ((jA S 99).set 1 (((jA S 99).getD 1 0) + (1 : Int))))) else none) else none) else none) else none)
theorem jr_X7_laySort_0 {l1 : Int} {L1 : Int32} (h_l1 : L1.toInt = l1) {S : iS} {s : fS} (hs : sr S s) : rf rV (j_X7_laySort_0 l1 S) (f_X7_laySort_0 L1 s) := by
  unfold j_X7_laySort_0 f_X7_laySort_0
  exact (rf_rg fun k1 => (rf_ck (k_inl ix_1 li_1 (sr_gA hs rfl) k1) (rf_rg fun k2 => (rf_rg fun k3 => (rf_ck (k_in (i_add li_601 (l_getD (sr_gA hs rfl) ix_1) k2) (sr_gA hs rfl) k3) (rf_ck (k_inl ix_1 li_1 (sr_gA hs rfl) k1) (rf_ck (k_inl ix_1 li_1 (sr_gA hs rfl) k1) (rf_rg fun k4 => (rf_some (sr_A (sr_A hs rfl (l_set (sr_gA hs rfl) (i_nat (i_add li_601 (l_getD (sr_gA hs rfl) ix_1) k2)) h_l1)) rfl (l_set (sr_gA hs rfl) ix_1 (i_add (l_getD (sr_gA hs rfl) ix_1) li_1 k4))))))))))))
def j_X7_laySort (l1 : Int) (S : iS) : Option iS := (j_X7_laySort_0 l1 S)
theorem jr_X7_laySort {l1 : Int} {L1 : Int32} (h_l1 : L1.toInt = l1) {S : iS} {s : fS} (hs : sr S s) : rf rV (j_X7_laySort l1 S) (f_X7_laySort L1 s) := by
  unfold j_X7_laySort f_X7_laySort
  exact (jr_X7_laySort_0 h_l1 hs)
def j_X7_readComment_113 (l1 : Int) (l2 : Int) (S : iS) : Option iS := (if (0 ≤ l1 ∧ l1 < (jA S 98).length) then (if 1 < (jA S 97).length then (if rg (((jA S 97).getD 1 0) + (1 : Int)) then ((j_X7_laySort (1 : Int) (kA (kA S 98 ((jA S 98).set l1.toNat l2)) 97 ((jA S 97).set 1 (((jA S 97).getD 1 0) + (1 : Int))))).bind fun qx1 => (some qx1)) else none) else none) else none)
theorem jr_X7_readComment_113 {l1 : Int} {L1 : Int32} (h_l1 : L1.toInt = l1) {l2 : Int} {L2 : Int32} (h_l2 : L2.toInt = l2) {S : iS} {s : fS} (hs : sr S s) : rf rV (j_X7_readComment_113 l1 l2 S) (f_X7_readComment_113 L1 L2 s) := by
  unfold j_X7_readComment_113 f_X7_readComment_113
  exact (rf_rg fun k1 => (rf_ck (k_in h_l1 (sr_gA hs rfl) k1) (rf_rg fun k2 => (rf_ck (k_inl ix_1 li_1 (sr_gA hs rfl) k2) (rf_ck (k_inl ix_1 li_1 (sr_gA hs rfl) k2) (rf_rg fun k3 => (rf_bind (jr_X7_laySort li_1 (sr_A (sr_A hs rfl (l_set (sr_gA hs rfl) (i_nat h_l1) h_l2)) rfl (l_set (sr_gA hs rfl) ix_1 (i_add (l_getD (sr_gA hs rfl) ix_1) li_1 k3)))) fun qx1 QX1 h_qx1 => (rf_some h_qx1))))))))
def j_X7_readComment_26  : Nat → Int → Int → iS → Option iS
  | 0, _, _, _ => none
  | n + 1, l1, l2, S => (if ¬ (jI S 82 30) = (0 : Int) then (j_X7_readComment_113 l1 l2 S) else ((j_X7_here S).bind fun qx1 => (if qx1.1 = (-1 : Int) then (j_X7_readComment_113 l1 l2 qx1.2) else ((j_X7_here qx1.2).bind fun qx2 => ((j_X7_in qx2.1 (32 : Int) (126 : Int) qx2.2).bind fun qx3 => (if ¬ qx3.1 = (0 : Int) then (if ¬ l2 = (20 : Int) then ((j_X7_here qx3.2).bind fun qx4 => (if rg (l2 + (1 : Int)) then (if rg (l1 + (l2 + (1 : Int))) then (if (0 ≤ (l1 + (l2 + (1 : Int))) ∧ (l1 + (l2 + (1 : Int))) < (jA qx4.2 98).length) then (if rg ((jI qx4.2 82 27) + (1 : Int)) then (j_X7_readComment_26 n l1 (l2 + (1 : Int)) (kI (kA qx4.2 98 ((jA qx4.2 98).set (l1 + (l2 + (1 : Int))).toNat qx4.1)) 82 27 ((jI qx4.2 82 27) + (1 : Int)))) else none) else none) else none) else none)) else ((j_X7_wrong (2 : Int) (jI qx3.2 82 27) qx3.2).bind fun qx5 => (j_X7_readComment_26 n l1 l2 qx5))) else ((j_X7_wrong (1 : Int) (jI qx3.2 82 27) qx3.2).bind fun qx6 => (j_X7_readComment_26 n l1 l2 qx6))))))))
theorem jr_X7_readComment_26  (n : Nat) : ∀ {l1 : Int} {L1 : Int32} (h_l1 : L1.toInt = l1) {l2 : Int} {L2 : Int32} (h_l2 : L2.toInt = l2) {S : iS} {s : fS} (hs : sr S s), rf rV (j_X7_readComment_26 n l1 l2 S) (f_X7_readComment_26 n L1 L2 s) := by
  induction n with
  | zero => intros; exact rf_none
  | succ n ih =>
    intro l1 L1 h_l1 l2 L2 h_l2 S s hs
    rw [j_X7_readComment_26, f_X7_readComment_26]
    exact (rf_if (c_not (c_eq (sr_gI hs rfl) li_0)) (jr_X7_readComment_113 h_l1 h_l2 hs) (rf_bind (jr_X7_here hs) fun qx1 QX1 h_qx1 => (rf_if (c_eq h_qx1.1 li_m1) (jr_X7_readComment_113 h_l1 h_l2 h_qx1.2) (rf_bind (jr_X7_here h_qx1.2) fun qx2 QX2 h_qx2 => (rf_bind (jr_X7_in h_qx2.1 li_32 li_126 h_qx2.2) fun qx3 QX3 h_qx3 => (rf_if (c_not (c_eq h_qx3.1 li_0)) (rf_if (c_not (c_eq h_l2 li_20)) (rf_bind (jr_X7_here h_qx3.2) fun qx4 QX4 h_qx4 => (rf_rg fun k1 => (rf_rg fun k2 => (rf_rg fun k3 => (rf_ck (k_in (i_add h_l1 (i_add h_l2 lo_1 k1) k2) (sr_gA h_qx4.2 rfl) k3) (rf_rg fun k4 => (ih h_l1 (i_add h_l2 lo_1 k1) (sr_I (sr_A h_qx4.2 rfl (l_set (sr_gA h_qx4.2 rfl) (i_nat (i_add h_l1 (i_add h_l2 lo_1 k1) k2)) h_qx4.1)) rfl (i_add (sr_gI h_qx4.2 rfl) li_1 k4))))))))) (rf_bind (jr_X7_wrong li_2 (sr_gI h_qx3.2 rfl) h_qx3.2) fun qx5 QX5 h_qx5 => (ih h_l1 h_l2 h_qx5))) (rf_bind (jr_X7_wrong li_1 (sr_gI h_qx3.2 rfl) h_qx3.2) fun qx6 QX6 h_qx6 => (ih h_l1 h_l2 h_qx6))))))))
def j_X7_readComment_0 (S : iS) : Option iS := (if 1 < (jA S 97).length then (if rg ((21 : Int) * ((jA S 97).getD 1 0)) then (if rg ((6300 : Int) + ((21 : Int) * ((jA S 97).getD 1 0))) then (if rg ((jI S 82 27) + (1 : Int)) then (j_X7_readComment_26 fuel ((6300 : Int) + ((21 : Int) * ((jA S 97).getD 1 0))) (0 : Int) (kI S 82 27 ((jI S 82 27) + (1 : Int)))) else none) else none) else none) else none)
theorem jr_X7_readComment_0 {S : iS} {s : fS} (hs : sr S s) : rf rV (j_X7_readComment_0 S) (f_X7_readComment_0 s) := by
  unfold j_X7_readComment_0 f_X7_readComment_0
  exact (rf_rg fun k1 => (rf_ck (k_inl ix_1 li_1 (sr_gA hs rfl) k1) (rf_rg fun k2 => (rf_rg fun k3 => (rf_rg fun k4 => (jr_X7_readComment_26 fuel (i_add li_6300 (i_mul li_21 (l_getD (sr_gA hs rfl) ix_1) k2) k3) li_0 (sr_I hs rfl (i_add (sr_gI hs rfl) li_1 k4))))))))
def j_X7_readComment (S : iS) : Option iS := (j_X7_readComment_0 S)
theorem jr_X7_readComment {S : iS} {s : fS} (hs : sr S s) : rf rV (j_X7_readComment S) (f_X7_readComment s) := by
  unfold j_X7_readComment f_X7_readComment
  exact (jr_X7_readComment_0 hs)
def j_X7_readCount_171 (l1 : Int) (S : iS) : Option iS := ((j_X7_ended S).bind fun qx1 => ((j_X7_laySort (2 : Int) qx1).bind fun qx2 => (some qx2)))
theorem jr_X7_readCount_171 {l1 : Int} {L1 : Int32} (h_l1 : L1.toInt = l1) {S : iS} {s : fS} (hs : sr S s) : rf rV (j_X7_readCount_171 l1 S) (f_X7_readCount_171 L1 s) := by
  unfold j_X7_readCount_171 f_X7_readCount_171
  exact (rf_bind (jr_X7_ended hs) fun qx1 QX1 h_qx1 => (rf_bind (jr_X7_laySort li_2 h_qx1) fun qx2 QX2 h_qx2 => (rf_some h_qx2)))
def j_X7_readCount_156 (r33 : Int → iS → Option iS) (l1 : Int) (l2 : Int) (l3 : Int) (S : iS) : Option iS := (if rg ((2 : Int) + l1) then (if (0 ≤ ((2 : Int) + l1) ∧ ((2 : Int) + l1) < (jA S 101).length) then (if rg (l1 + (1 : Int)) then (r33 (l1 + (1 : Int)) (kA S 101 ((jA S 101).set ((2 : Int) + l1).toNat l3))) else none) else none) else none)
theorem jr_X7_readCount_156 {r33 : Int → iS → Option iS} {R33 : Int32 → fS → Option fS} (h_r33 : ∀ {y0 : Int} {Y0 : Int32} (h_y0 : Y0.toInt = y0) {S : iS} {s : fS} (hs : sr S s), rf rV (r33 y0 S) (R33 Y0 s)) {l1 : Int} {L1 : Int32} (h_l1 : L1.toInt = l1) {l2 : Int} {L2 : Int32} (h_l2 : L2.toInt = l2) {l3 : Int} {L3 : Int32} (h_l3 : L3.toInt = l3) {S : iS} {s : fS} (hs : sr S s) : rf rV (j_X7_readCount_156 r33 l1 l2 l3 S) (f_X7_readCount_156 R33 L1 L2 L3 s) := by
  unfold j_X7_readCount_156 f_X7_readCount_156
  exact (rf_rg fun k1 => (rf_rg fun k2 => (rf_ck (k_in (i_add li_2 h_l1 k1) (sr_gA hs rfl) k2) (rf_rg fun k3 => (h_r33 (i_add h_l1 lo_1 k3) (sr_A hs rfl (l_set (sr_gA hs rfl) (i_nat (i_add li_2 h_l1 k1)) h_l3)))))))
def j_X7_readCount_127 (r33 : Int → iS → Option iS) (r96 : Int → Int → Int → iS → Option iS) (l1 : Int) (l2 : Int) (l3 : Int) (S : iS) : Option iS := ((j_X7_here S).bind fun qx1 => (if rg (l2 + (1 : Int)) then (if rg ((10 : Int) * l3) then (if rg (((10 : Int) * l3) + qx1.1) then (if rg ((((10 : Int) * l3) + qx1.1) - (48 : Int)) then (if rg ((jI qx1.2 82 27) + (1 : Int)) then (r96 l1 (l2 + (1 : Int)) ((((10 : Int) * l3) + qx1.1) - (48 : Int)) (kI qx1.2 82 27 ((jI qx1.2 82 27) + (1 : Int)))) else none) else none) else none) else none) else none))
theorem jr_X7_readCount_127 {r33 : Int → iS → Option iS} {R33 : Int32 → fS → Option fS} (h_r33 : ∀ {y0 : Int} {Y0 : Int32} (h_y0 : Y0.toInt = y0) {S : iS} {s : fS} (hs : sr S s), rf rV (r33 y0 S) (R33 Y0 s)) {r96 : Int → Int → Int → iS → Option iS} {R96 : Int32 → Int32 → Int32 → fS → Option fS} (h_r96 : ∀ {y0 : Int} {Y0 : Int32} (h_y0 : Y0.toInt = y0) {y1 : Int} {Y1 : Int32} (h_y1 : Y1.toInt = y1) {y2 : Int} {Y2 : Int32} (h_y2 : Y2.toInt = y2) {S : iS} {s : fS} (hs : sr S s), rf rV (r96 y0 y1 y2 S) (R96 Y0 Y1 Y2 s)) {l1 : Int} {L1 : Int32} (h_l1 : L1.toInt = l1) {l2 : Int} {L2 : Int32} (h_l2 : L2.toInt = l2) {l3 : Int} {L3 : Int32} (h_l3 : L3.toInt = l3) {S : iS} {s : fS} (hs : sr S s) : rf rV (j_X7_readCount_127 r33 r96 l1 l2 l3 S) (f_X7_readCount_127 R33 R96 L1 L2 L3 s) := by
  unfold j_X7_readCount_127 f_X7_readCount_127
  exact (rf_bind (jr_X7_here hs) fun qx1 QX1 h_qx1 => (rf_rg fun k1 => (rf_rg fun k2 => (rf_rg fun k3 => (rf_rg fun k4 => (rf_rg fun k5 => (h_r96 h_l1 (i_add h_l2 lo_1 k1) (i_sub (i_add (i_mul li_10 h_l3 k2) h_qx1.1 k3) li_48 k4) (sr_I h_qx1.2 rfl (i_add (sr_gI h_qx1.2 rfl) li_1 k5)))))))))
def j_X7_readCount_96 (r33 : Int → iS → Option iS) : Nat → Int → Int → Int → iS → Option iS
  | 0, _, _, _, _ => none
  | n + 1, l1, l2, l3, S => (if ¬ (jI S 82 30) = (0 : Int) then (j_X7_readCount_156 r33 l1 l2 l3 S) else ((j_X7_here S).bind fun qx1 => ((j_X7_isFigure qx1.1 qx1.2).bind fun qx2 => (if qx2.1 = (0 : Int) then (j_X7_readCount_156 r33 l1 l2 l3 qx2.2) else (if ¬ l2 = (2 : Int) then (j_X7_readCount_127 r33 (fun l1' l2' l3' S' => j_X7_readCount_96 r33 n l1' l2' l3' S') l1 l2 l3 qx2.2) else ((j_X7_wrong (2 : Int) (jI qx2.2 82 27) qx2.2).bind fun qx3 => (j_X7_readCount_127 r33 (fun l1' l2' l3' S' => j_X7_readCount_96 r33 n l1' l2' l3' S') l1 l2 l3 qx3)))))))
theorem jr_X7_readCount_96 {r33 : Int → iS → Option iS} {R33 : Int32 → fS → Option fS} (h_r33 : ∀ {y0 : Int} {Y0 : Int32} (h_y0 : Y0.toInt = y0) {S : iS} {s : fS} (hs : sr S s), rf rV (r33 y0 S) (R33 Y0 s)) (n : Nat) : ∀ {l1 : Int} {L1 : Int32} (h_l1 : L1.toInt = l1) {l2 : Int} {L2 : Int32} (h_l2 : L2.toInt = l2) {l3 : Int} {L3 : Int32} (h_l3 : L3.toInt = l3) {S : iS} {s : fS} (hs : sr S s), rf rV (j_X7_readCount_96 r33 n l1 l2 l3 S) (f_X7_readCount_96 R33 n L1 L2 L3 s) := by
  induction n with
  | zero => intros; exact rf_none
  | succ n ih =>
    intro l1 L1 h_l1 l2 L2 h_l2 l3 L3 h_l3 S s hs
    rw [j_X7_readCount_96, f_X7_readCount_96]
    exact (rf_if (c_not (c_eq (sr_gI hs rfl) li_0)) (jr_X7_readCount_156 h_r33 h_l1 h_l2 h_l3 hs) (rf_bind (jr_X7_here hs) fun qx1 QX1 h_qx1 => (rf_bind (jr_X7_isFigure h_qx1.1 h_qx1.2) fun qx2 QX2 h_qx2 => (rf_if (c_eq h_qx2.1 li_0) (jr_X7_readCount_156 h_r33 h_l1 h_l2 h_l3 h_qx2.2) (rf_if (c_not (c_eq h_l2 li_2)) (jr_X7_readCount_127 h_r33 (@fun _ _ h_l1' _ _ h_l2' _ _ h_l3' _ _ hs' => (ih h_l1' h_l2' h_l3' hs')) h_l1 h_l2 h_l3 h_qx2.2) (rf_bind (jr_X7_wrong li_2 (sr_gI h_qx2.2 rfl) h_qx2.2) fun qx3 QX3 h_qx3 => (jr_X7_readCount_127 h_r33 (@fun _ _ h_l1' _ _ h_l2' _ _ h_l3' _ _ hs' => (ih h_l1' h_l2' h_l3' hs')) h_l1 h_l2 h_l3 h_qx3)))))))
def j_X7_readCount_33  : Nat → Int → iS → Option iS
  | 0, _, _ => none
  | n + 1, l1, S => (if (2 : Int) ≤ l1 then (j_X7_readCount_171 l1 S) else (if ¬ (jI S 82 30) = (0 : Int) then (j_X7_readCount_171 l1 S) else ((j_X7_ended S).bind fun qx1 => ((j_X7_blanks qx1).bind fun qx2 => (if (0 ≤ l1 ∧ l1 < (jA qx2 104).length) then (if (0 ≤ l1 ∧ l1 < (jA qx2 105).length) then ((j_X7_here (kA (kA qx2 104 ((jA qx2 104).set l1.toNat (jI qx2 82 27))) 105 ((jA qx2 105).set l1.toNat (jI qx2 82 28)))).bind fun qx3 => ((j_X7_isFigure qx3.1 qx3.2).bind fun qx4 => (if ¬ qx4.1 = (0 : Int) then (j_X7_readCount_96 (fun l1' S' => j_X7_readCount_33 n l1' S') fuel l1 (0 : Int) (0 : Int) qx4.2) else ((j_X7_wrong (1 : Int) (jI qx4.2 82 27) qx4.2).bind fun qx5 => (j_X7_readCount_96 (fun l1' S' => j_X7_readCount_33 n l1' S') fuel l1 (0 : Int) (0 : Int) qx5))))) else none) else none)))))
theorem jr_X7_readCount_33  (n : Nat) : ∀ {l1 : Int} {L1 : Int32} (h_l1 : L1.toInt = l1) {S : iS} {s : fS} (hs : sr S s), rf rV (j_X7_readCount_33 n l1 S) (f_X7_readCount_33 n L1 s) := by
  induction n with
  | zero => intros; exact rf_none
  | succ n ih =>
    intro l1 L1 h_l1 S s hs
    rw [j_X7_readCount_33, f_X7_readCount_33]
    exact (rf_if (c_le li_2 h_l1) (jr_X7_readCount_171 h_l1 hs) (rf_if (c_not (c_eq (sr_gI hs rfl) li_0)) (jr_X7_readCount_171 h_l1 hs) (rf_bind (jr_X7_ended hs) fun qx1 QX1 h_qx1 => (rf_bind (jr_X7_blanks h_qx1) fun qx2 QX2 h_qx2 => (rf_rg fun k1 => (rf_ck (k_in h_l1 (sr_gA h_qx2 rfl) k1) (rf_rg fun k2 => (rf_ck (k_in h_l1 (sr_gA h_qx2 rfl) k2) (rf_bind (jr_X7_here (sr_A (sr_A h_qx2 rfl (l_set (sr_gA h_qx2 rfl) (i_nat h_l1) (sr_gI h_qx2 rfl))) rfl (l_set (sr_gA h_qx2 rfl) (i_nat h_l1) (sr_gI h_qx2 rfl)))) fun qx3 QX3 h_qx3 => (rf_bind (jr_X7_isFigure h_qx3.1 h_qx3.2) fun qx4 QX4 h_qx4 => (rf_if (c_not (c_eq h_qx4.1 li_0)) (jr_X7_readCount_96 (@fun _ _ h_l1' _ _ hs' => (ih h_l1' hs')) fuel h_l1 li_0 li_0 h_qx4.2) (rf_bind (jr_X7_wrong li_1 (sr_gI h_qx4.2 rfl) h_qx4.2) fun qx5 QX5 h_qx5 => (jr_X7_readCount_96 (@fun _ _ h_l1' _ _ hs' => (ih h_l1' hs')) fuel h_l1 li_0 li_0 h_qx5)))))))))))))
def j_X7_readCount_16 (S : iS) : Option iS := (if rg ((jI S 82 27) + (1 : Int)) then (j_X7_readCount_33 fuel (0 : Int) (kI (kI S 82 27 ((jI S 82 27) + (1 : Int))) 82 35 (1 : Int))) else none)
theorem jr_X7_readCount_16 {S : iS} {s : fS} (hs : sr S s) : rf rV (j_X7_readCount_16 S) (f_X7_readCount_16 s) := by
  unfold j_X7_readCount_16 f_X7_readCount_16
  exact (rf_rg fun k1 => (jr_X7_readCount_33 fuel li_0 (sr_I (sr_I hs rfl (i_add (sr_gI hs rfl) li_1 k1)) rfl li_1)))
def j_X7_readCount_0 (S : iS) : Option iS := (if (jI S 82 35) = (0 : Int) then (j_X7_readCount_16 S) else ((j_X7_wrong (4 : Int) (jI S 82 27) S).bind fun qx1 => (j_X7_readCount_16 qx1)))
theorem jr_X7_readCount_0 {S : iS} {s : fS} (hs : sr S s) : rf rV (j_X7_readCount_0 S) (f_X7_readCount_0 s) := by
  unfold j_X7_readCount_0 f_X7_readCount_0
  exact (rf_if (c_eq (sr_gI hs rfl) li_0) (jr_X7_readCount_16 hs) (rf_bind (jr_X7_wrong li_4 (sr_gI hs rfl) hs) fun qx1 QX1 h_qx1 => (jr_X7_readCount_16 h_qx1)))
def j_X7_readCount (S : iS) : Option iS := (j_X7_readCount_0 S)
theorem jr_X7_readCount {S : iS} {s : fS} (hs : sr S s) : rf rV (j_X7_readCount S) (f_X7_readCount s) := by
  unfold j_X7_readCount f_X7_readCount
  exact (jr_X7_readCount_0 hs)
def j_X7_readHead_248 (l1 : Int) (l2 : Int) (l3 : Int) (S : iS) : Option iS := (some S)
theorem jr_X7_readHead_248 {l1 : Int} {L1 : Int32} (h_l1 : L1.toInt = l1) {l2 : Int} {L2 : Int32} (h_l2 : L2.toInt = l2) {l3 : Int} {L3 : Int32} (h_l3 : L3.toInt = l3) {S : iS} {s : fS} (hs : sr S s) : rf rV (j_X7_readHead_248 l1 l2 l3 S) (f_X7_readHead_248 L1 L2 L3 s) := by
  unfold j_X7_readHead_248 f_X7_readHead_248
  exact (rf_some hs)
def j_X7_readHead_178 (l1 : Int) (l2 : Int) (l3 : Int) (S : iS) : Option iS := (if rg ((jI S 82 27) + (1 : Int)) then ((j_X7_ended (kI S 82 27 ((jI S 82 27) + (1 : Int)))).bind fun qx1 => (if ¬ (jI qx1 82 30) = (0 : Int) then (j_X7_readHead_248 l1 l2 l3 qx1) else (if 1 < (jA qx1 90).length then (if rg ((9 : Int) * ((jA qx1 90).getD 1 0)) then (if rg ((27 : Int) + ((9 : Int) * ((jA qx1 90).getD 1 0))) then ((j_X7_layName 92 ((27 : Int) + ((9 : Int) * ((jA qx1 90).getD 1 0))) qx1).bind fun qx2 => (if 1 < (jA qx2 90).length then (if rg ((3 : Int) + ((jA qx2 90).getD 1 0)) then (if (0 ≤ ((3 : Int) + ((jA qx2 90).getD 1 0)) ∧ ((3 : Int) + ((jA qx2 90).getD 1 0)) < (jA qx2 91).length) then (if rg (((jA qx2 90).getD 1 0) + (1 : Int)) then ((j_X7_laySort (3 : Int) (kA (kA qx2 91 ((jA qx2 91).set ((3 : Int) + ((jA qx2 90).getD 1 0)).toNat l3)) 90 ((jA qx2 90).set 1 (((jA qx2 90).getD 1 0) + (1 : Int))))).bind fun qx3 => (j_X7_readHead_248 l1 l2 l3 qx3)) else none) else none) else none) else none)) else none) else none) else none))) else none)
theorem jr_X7_readHead_178 {l1 : Int} {L1 : Int32} (h_l1 : L1.toInt = l1) {l2 : Int} {L2 : Int32} (h_l2 : L2.toInt = l2) {l3 : Int} {L3 : Int32} (h_l3 : L3.toInt = l3) {S : iS} {s : fS} (hs : sr S s) : rf rV (j_X7_readHead_178 l1 l2 l3 S) (f_X7_readHead_178 L1 L2 L3 s) := by
  unfold j_X7_readHead_178 f_X7_readHead_178
  exact (rf_rg fun k1 => (rf_bind (jr_X7_ended (sr_I hs rfl (i_add (sr_gI hs rfl) li_1 k1))) fun qx1 QX1 h_qx1 => (rf_if (c_not (c_eq (sr_gI h_qx1 rfl) li_0)) (jr_X7_readHead_248 h_l1 h_l2 h_l3 h_qx1) (rf_rg fun k2 => (rf_ck (k_inl ix_1 li_1 (sr_gA h_qx1 rfl) k2) (rf_rg fun k3 => (rf_rg fun k4 => (rf_bind (jr_X7_layName rfl (i_add li_27 (i_mul li_9 (l_getD (sr_gA h_qx1 rfl) ix_1) k3) k4) h_qx1) fun qx2 QX2 h_qx2 => (rf_rg fun k5 => (rf_ck (k_inl ix_1 li_1 (sr_gA h_qx2 rfl) k5) (rf_rg fun k6 => (rf_rg fun k7 => (rf_ck (k_in (i_add li_3 (l_getD (sr_gA h_qx2 rfl) ix_1) k6) (sr_gA h_qx2 rfl) k7) (rf_ck (k_inl ix_1 li_1 (sr_gA h_qx2 rfl) k5) (rf_ck (k_inl ix_1 li_1 (sr_gA h_qx2 rfl) k5) (rf_rg fun k8 => (rf_bind (jr_X7_laySort li_3 (sr_A (sr_A h_qx2 rfl (l_set (sr_gA h_qx2 rfl) (i_nat (i_add li_3 (l_getD (sr_gA h_qx2 rfl) ix_1) k6)) h_l3)) rfl (l_set (sr_gA h_qx2 rfl) ix_1 (i_add (l_getD (sr_gA h_qx2 rfl) ix_1) li_1 k8)))) fun qx3 QX3 h_qx3 => (jr_X7_readHead_248 h_l1 h_l2 h_l3 h_qx3))))))))))))))))))
def j_X7_readHead_163 (l1 : Int) (l2 : Int) (t0 : Int) (S : iS) : Option iS := (if ¬ t0 = (-1 : Int) then (j_X7_readHead_178 l1 l2 t0 S) else ((j_X7_wrong (1 : Int) (jI S 82 27) S).bind fun qx1 => (j_X7_readHead_178 l1 l2 t0 qx1)))
theorem jr_X7_readHead_163 {l1 : Int} {L1 : Int32} (h_l1 : L1.toInt = l1) {l2 : Int} {L2 : Int32} (h_l2 : L2.toInt = l2) {t0 : Int} {T0 : Int32} (h_t0 : T0.toInt = t0) {S : iS} {s : fS} (hs : sr S s) : rf rV (j_X7_readHead_163 l1 l2 t0 S) (f_X7_readHead_163 L1 L2 T0 s) := by
  unfold j_X7_readHead_163 f_X7_readHead_163
  exact (rf_if (c_not (c_eq h_t0 li_m1)) (jr_X7_readHead_178 h_l1 h_l2 h_t0 hs) (rf_bind (jr_X7_wrong li_1 (sr_gI hs rfl) hs) fun qx1 QX1 h_qx1 => (jr_X7_readHead_178 h_l1 h_l2 h_t0 h_qx1)))
def j_X7_readHead_109 (l1 : Int) (l2 : Int) (S : iS) : Option iS := ((j_X7_ended S).bind fun qx1 => ((j_X7_blanks qx1).bind fun qx2 => ((j_X7_here qx2).bind fun qx3 => (if ¬ qx3.1 = (119 : Int) then (if ¬ qx3.1 = (100 : Int) then (if ¬ qx3.1 = (116 : Int) then (if ¬ qx3.1 = (103 : Int) then (j_X7_readHead_163 l1 qx3.1 (-1 : Int) qx3.2) else (j_X7_readHead_163 l1 qx3.1 (3 : Int) qx3.2)) else (j_X7_readHead_163 l1 qx3.1 (2 : Int) qx3.2)) else (j_X7_readHead_163 l1 qx3.1 (1 : Int) qx3.2)) else (j_X7_readHead_163 l1 qx3.1 (0 : Int) qx3.2)))))
theorem jr_X7_readHead_109 {l1 : Int} {L1 : Int32} (h_l1 : L1.toInt = l1) {l2 : Int} {L2 : Int32} (h_l2 : L2.toInt = l2) {S : iS} {s : fS} (hs : sr S s) : rf rV (j_X7_readHead_109 l1 l2 S) (f_X7_readHead_109 L1 L2 s) := by
  unfold j_X7_readHead_109 f_X7_readHead_109
  exact (rf_bind (jr_X7_ended hs) fun qx1 QX1 h_qx1 => (rf_bind (jr_X7_blanks h_qx1) fun qx2 QX2 h_qx2 => (rf_bind (jr_X7_here h_qx2) fun qx3 QX3 h_qx3 => (rf_if (c_not (c_eq h_qx3.1 li_119)) (rf_if (c_not (c_eq h_qx3.1 li_100)) (rf_if (c_not (c_eq h_qx3.1 li_116)) (rf_if (c_not (c_eq h_qx3.1 li_103)) (jr_X7_readHead_163 h_l1 h_qx3.1 li_m1 h_qx3.2) (jr_X7_readHead_163 h_l1 h_qx3.1 li_3 h_qx3.2)) (jr_X7_readHead_163 h_l1 h_qx3.1 li_2 h_qx3.2)) (jr_X7_readHead_163 h_l1 h_qx3.1 li_1 h_qx3.2)) (jr_X7_readHead_163 h_l1 h_qx3.1 li_0 h_qx3.2)))))
def j_X7_readHead_103 (r62 : Int → Int → iS → Option iS) (l1 : Int) (l2 : Int) (S : iS) : Option iS := (if rg (l2 + (1 : Int)) then (r62 l1 (l2 + (1 : Int)) S) else none)
theorem jr_X7_readHead_103 {r62 : Int → Int → iS → Option iS} {R62 : Int32 → Int32 → fS → Option fS} (h_r62 : ∀ {y0 : Int} {Y0 : Int32} (h_y0 : Y0.toInt = y0) {y1 : Int} {Y1 : Int32} (h_y1 : Y1.toInt = y1) {S : iS} {s : fS} (hs : sr S s), rf rV (r62 y0 y1 S) (R62 Y0 Y1 s)) {l1 : Int} {L1 : Int32} (h_l1 : L1.toInt = l1) {l2 : Int} {L2 : Int32} (h_l2 : L2.toInt = l2) {S : iS} {s : fS} (hs : sr S s) : rf rV (j_X7_readHead_103 r62 l1 l2 S) (f_X7_readHead_103 R62 L1 L2 s) := by
  unfold j_X7_readHead_103 f_X7_readHead_103
  exact (rf_rg fun k1 => (h_r62 h_l1 (i_add h_l2 lo_1 k1) hs))
