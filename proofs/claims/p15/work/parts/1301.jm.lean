def j_X0_step_90 (l1 : Int) (t0 : Int) (S : iS) : Option iS := (some (kI S 81 2 t0))
theorem jr_X0_step_90 {l1 : Int} {L1 : Int32} (h_l1 : L1.toInt = l1) {t0 : Int} {T0 : Int32} (h_t0 : T0.toInt = t0) {S : iS} {s : fS} (hs : sr S s) : rf rV (j_X0_step_90 l1 t0 S) (f_X0_step_90 L1 T0 s) := by
  unfold j_X0_step_90 f_X0_step_90
  exact (rf_some (sr_I hs rfl h_t0))
def j_X0_step_89 (l1 : Int) (S : iS) : Option iS := (j_X0_step_90 l1 (-1 : Int) S)
theorem jr_X0_step_89 {l1 : Int} {L1 : Int32} (h_l1 : L1.toInt = l1) {S : iS} {s : fS} (hs : sr S s) : rf rV (j_X0_step_89 l1 S) (f_X0_step_89 L1 s) := by
  unfold j_X0_step_89 f_X0_step_89
  exact (jr_X0_step_90 h_l1 li_m1 hs)
def j_X0_step_51 (t0 : Int) (S : iS) : Option iS := (if t0 = (0 : Int) then (j_X0_step_89 t0 S) else (if (0 ≤ (jI S 81 1) ∧ (jI S 81 1) < (jA S 2).length) then (if ((jA S 2).getD (jI S 81 1).toNat 0) = (10 : Int) then (j_X0_step_89 t0 S) else (j_X0_step_90 t0 ((jA S 2).getD (jI S 81 1).toNat 0) S)) else none))
theorem jr_X0_step_51 {t0 : Int} {T0 : Int32} (h_t0 : T0.toInt = t0) {S : iS} {s : fS} (hs : sr S s) : rf rV (j_X0_step_51 t0 S) (f_X0_step_51 T0 s) := by
  unfold j_X0_step_51 f_X0_step_51
  exact (rf_if (c_eq h_t0 li_0) (jr_X0_step_89 h_t0 hs) (rf_rg fun k1 => (rf_ck (k_in (sr_gI hs rfl) (sr_gA hs rfl) k1) (rf_if (c_eq (l_getD (sr_gA hs rfl) (i_nat (sr_gI hs rfl))) li_10) (jr_X0_step_89 h_t0 hs) (rf_ck (k_in (sr_gI hs rfl) (sr_gA hs rfl) k1) (jr_X0_step_90 h_t0 (l_getD (sr_gA hs rfl) (i_nat (sr_gI hs rfl))) hs))))))
def j_X0_step_50 (S : iS) : Option iS := (j_X0_step_51 (0 : Int) S)
theorem jr_X0_step_50 {S : iS} {s : fS} (hs : sr S s) : rf rV (j_X0_step_50 S) (f_X0_step_50 s) := by
  unfold j_X0_step_50 f_X0_step_50
  exact (jr_X0_step_51 li_0 hs)
def j_X0_step_0 (S : iS) : Option iS := (if rg ((jI S 81 1) + (1 : Int)) then (if ((jI S 81 1) + (1 : Int)) < (0 : Int) then (j_X0_step_50 (kI S 81 1 ((jI S 81 1) + (1 : Int)))) else (if (jI S 1 1) ≤ ((jI S 81 1) + (1 : Int)) then (j_X0_step_50 (kI S 81 1 ((jI S 81 1) + (1 : Int)))) else (if (jA S 2).length < 2147483648 then (if ((jA S 2).length : Int) ≤ ((jI S 81 1) + (1 : Int)) then (j_X0_step_50 (kI S 81 1 ((jI S 81 1) + (1 : Int)))) else (j_X0_step_51 (1 : Int) (kI S 81 1 ((jI S 81 1) + (1 : Int))))) else none))) else none)
theorem jr_X0_step_0 {S : iS} {s : fS} (hs : sr S s) : rf rV (j_X0_step_0 S) (f_X0_step_0 s) := by
  unfold j_X0_step_0 f_X0_step_0
  exact (rf_rg fun k1 => (rf_if (c_lt (i_add (sr_gI hs rfl) li_1 k1) li_0) (jr_X0_step_50 (sr_I hs rfl (i_add (sr_gI hs rfl) li_1 k1))) (rf_if (c_le (sr_gI hs rfl) (i_add (sr_gI hs rfl) li_1 k1)) (jr_X0_step_50 (sr_I hs rfl (i_add (sr_gI hs rfl) li_1 k1))) (rf_rg fun k2 => (rf_if (c_le (i_len (sr_gA hs rfl) k2) (i_add (sr_gI hs rfl) li_1 k1)) (jr_X0_step_50 (sr_I hs rfl (i_add (sr_gI hs rfl) li_1 k1))) (jr_X0_step_51 li_1 (sr_I hs rfl (i_add (sr_gI hs rfl) li_1 k1))))))))
def j_X0_step (S : iS) : Option iS := (j_X0_step_0 S)
theorem jr_X0_step {S : iS} {s : fS} (hs : sr S s) : rf rV (j_X0_step S) (f_X0_step s) := by
  unfold j_X0_step f_X0_step
  exact (jr_X0_step_0 hs)
def j_X0_nextLine_0 (S : iS) : Option iS := ((j_X0_step S).bind fun qx1 => (if rg ((jI qx1 81 3) + (1 : Int)) then (some (kI (kI qx1 81 3 ((jI qx1 81 3) + (1 : Int))) 81 4 (jI qx1 81 1))) else none))
theorem jr_X0_nextLine_0 {S : iS} {s : fS} (hs : sr S s) : rf rV (j_X0_nextLine_0 S) (f_X0_nextLine_0 s) := by
  unfold j_X0_nextLine_0 f_X0_nextLine_0
  exact (rf_bind (jr_X0_step hs) fun qx1 QX1 h_qx1 => (rf_rg fun k1 => (rf_some (sr_I (sr_I h_qx1 rfl (i_add (sr_gI h_qx1 rfl) li_1 k1)) rfl (sr_gI h_qx1 rfl)))))
def j_X0_nextLine (S : iS) : Option iS := (j_X0_nextLine_0 S)
theorem jr_X0_nextLine {S : iS} {s : fS} (hs : sr S s) : rf rV (j_X0_nextLine S) (f_X0_nextLine s) := by
  unfold j_X0_nextLine f_X0_nextLine
  exact (jr_X0_nextLine_0 hs)
def j_X0_start_0 (S : iS) : Option iS := ((j_X0_nextLine (kI (kI (kI S 81 1 (-1 : Int)) 81 3 (0 : Int)) 81 5 (0 : Int))).bind fun qx1 => (some qx1))
theorem jr_X0_start_0 {S : iS} {s : fS} (hs : sr S s) : rf rV (j_X0_start_0 S) (f_X0_start_0 s) := by
  unfold j_X0_start_0 f_X0_start_0
  exact (rf_bind (jr_X0_nextLine (sr_I (sr_I (sr_I hs rfl li_m1) rfl li_0) rfl li_0)) fun qx1 QX1 h_qx1 => (rf_some h_qx1))
def j_X0_start (S : iS) : Option iS := (j_X0_start_0 S)
theorem jr_X0_start {S : iS} {s : fS} (hs : sr S s) : rf rV (j_X0_start S) (f_X0_start s) := by
  unfold j_X0_start f_X0_start
  exact (jr_X0_start_0 hs)
def j_X0_hasLine_19 (t0 : Int) (S : iS) : Option (Int × iS) := (if (t0 = 0 ∨ t0 = 1) then (some (t0, S)) else none)
theorem jr_X0_hasLine_19 {t0 : Int} {T0 : Int32} (h_t0 : T0.toInt = t0) {S : iS} {s : fS} (hs : sr S s) : rf rI (j_X0_hasLine_19 t0 S) (f_X0_hasLine_19 T0 s) := by
  unfold j_X0_hasLine_19 f_X0_hasLine_19
  exact (rf_rg fun k1 => (rf_ck (k_fbl h_t0 k1) (rf_some ⟨h_t0, hs⟩)))
def j_X0_hasLine_0 (S : iS) : Option (Int × iS) := (if (jI S 1 1) ≤ (jI S 81 1) then (j_X0_hasLine_19 (0 : Int) S) else (j_X0_hasLine_19 (1 : Int) S))
theorem jr_X0_hasLine_0 {S : iS} {s : fS} (hs : sr S s) : rf rI (j_X0_hasLine_0 S) (f_X0_hasLine_0 s) := by
  unfold j_X0_hasLine_0 f_X0_hasLine_0
  exact (rf_if (c_le (sr_gI hs rfl) (sr_gI hs rfl)) (jr_X0_hasLine_19 li_0 hs) (jr_X0_hasLine_19 li_1 hs))
def j_X0_hasLine (S : iS) : Option (Int × iS) := (j_X0_hasLine_0 S)
theorem jr_X0_hasLine {S : iS} {s : fS} (hs : sr S s) : rf rI (j_X0_hasLine S) (f_X0_hasLine s) := by
  unfold j_X0_hasLine f_X0_hasLine
  exact (jr_X0_hasLine_0 hs)
def j_X0_skipBlanks_28 (l1 : Int) (S : iS) : Option iS := (some S)
theorem jr_X0_skipBlanks_28 {l1 : Int} {L1 : Int32} (h_l1 : L1.toInt = l1) {S : iS} {s : fS} (hs : sr S s) : rf rV (j_X0_skipBlanks_28 l1 S) (f_X0_skipBlanks_28 L1 s) := by
  unfold j_X0_skipBlanks_28 f_X0_skipBlanks_28
  exact (rf_some hs)
def j_X0_skipBlanks_2  : Nat → Int → iS → Option iS
  | 0, _, _ => none
  | n + 1, l1, S => (if (600 : Int) ≤ l1 then (j_X0_skipBlanks_28 l1 S) else (if ¬ (jI S 81 2) = (32 : Int) then (j_X0_skipBlanks_28 l1 S) else ((j_X0_step S).bind fun qx1 => (if rg (l1 + (1 : Int)) then (j_X0_skipBlanks_2 n (l1 + (1 : Int)) qx1) else none))))
theorem jr_X0_skipBlanks_2  (n : Nat) : ∀ {l1 : Int} {L1 : Int32} (h_l1 : L1.toInt = l1) {S : iS} {s : fS} (hs : sr S s), rf rV (j_X0_skipBlanks_2 n l1 S) (f_X0_skipBlanks_2 n L1 s) := by
  induction n with
  | zero => intros; exact rf_none
  | succ n ih =>
    intro l1 L1 h_l1 S s hs
    rw [j_X0_skipBlanks_2, f_X0_skipBlanks_2]
    exact (rf_if (c_le li_600 h_l1) (jr_X0_skipBlanks_28 h_l1 hs) (rf_if (c_not (c_eq (sr_gI hs rfl) li_32)) (jr_X0_skipBlanks_28 h_l1 hs) (rf_bind (jr_X0_step hs) fun qx1 QX1 h_qx1 => (rf_rg fun k1 => (ih (i_add h_l1 lo_1 k1) h_qx1)))))
def j_X0_skipBlanks_0 (S : iS) : Option iS := (j_X0_skipBlanks_2 fuel (0 : Int) S)
theorem jr_X0_skipBlanks_0 {S : iS} {s : fS} (hs : sr S s) : rf rV (j_X0_skipBlanks_0 S) (f_X0_skipBlanks_0 s) := by
  unfold j_X0_skipBlanks_0 f_X0_skipBlanks_0
  exact (jr_X0_skipBlanks_2 fuel li_0 hs)
def j_X0_skipBlanks (S : iS) : Option iS := (j_X0_skipBlanks_0 S)
theorem jr_X0_skipBlanks {S : iS} {s : fS} (hs : sr S s) : rf rV (j_X0_skipBlanks S) (f_X0_skipBlanks s) := by
  unfold j_X0_skipBlanks f_X0_skipBlanks
  exact (jr_X0_skipBlanks_0 hs)
def j_X0_isWordEnd_22 (t0 : Int) (S : iS) : Option (Int × iS) := (if (t0 = 0 ∨ t0 = 1) then (some (t0, S)) else none)
theorem jr_X0_isWordEnd_22 {t0 : Int} {T0 : Int32} (h_t0 : T0.toInt = t0) {S : iS} {s : fS} (hs : sr S s) : rf rI (j_X0_isWordEnd_22 t0 S) (f_X0_isWordEnd_22 T0 s) := by
  unfold j_X0_isWordEnd_22 f_X0_isWordEnd_22
  exact (rf_rg fun k1 => (rf_ck (k_fbl h_t0 k1) (rf_some ⟨h_t0, hs⟩)))
def j_X0_isWordEnd_17 (S : iS) : Option (Int × iS) := (j_X0_isWordEnd_22 (1 : Int) S)
theorem jr_X0_isWordEnd_17 {S : iS} {s : fS} (hs : sr S s) : rf rI (j_X0_isWordEnd_17 S) (f_X0_isWordEnd_17 s) := by
  unfold j_X0_isWordEnd_17 f_X0_isWordEnd_17
  exact (jr_X0_isWordEnd_22 li_1 hs)
def j_X0_isWordEnd_0 (S : iS) : Option (Int × iS) := (if (jI S 81 2) = (32 : Int) then (j_X0_isWordEnd_17 S) else (if ¬ (jI S 81 2) = (-1 : Int) then (j_X0_isWordEnd_22 (0 : Int) S) else (j_X0_isWordEnd_17 S)))
theorem jr_X0_isWordEnd_0 {S : iS} {s : fS} (hs : sr S s) : rf rI (j_X0_isWordEnd_0 S) (f_X0_isWordEnd_0 s) := by
  unfold j_X0_isWordEnd_0 f_X0_isWordEnd_0
  exact (rf_if (c_eq (sr_gI hs rfl) li_32) (jr_X0_isWordEnd_17 hs) (rf_if (c_not (c_eq (sr_gI hs rfl) li_m1)) (jr_X0_isWordEnd_22 li_0 hs) (jr_X0_isWordEnd_17 hs)))
def j_X0_isWordEnd (S : iS) : Option (Int × iS) := (j_X0_isWordEnd_0 S)
theorem jr_X0_isWordEnd {S : iS} {s : fS} (hs : sr S s) : rf rI (j_X0_isWordEnd S) (f_X0_isWordEnd s) := by
  unfold j_X0_isWordEnd f_X0_isWordEnd
  exact (jr_X0_isWordEnd_0 hs)
def j_X0_placeOf_0 (l1 : Int) (S : iS) : Option (Int × iS) := (if rg (l1 - (jI S 81 4)) then (if rg ((l1 - (jI S 81 4)) + (1 : Int)) then (some (((l1 - (jI S 81 4)) + (1 : Int)), S)) else none) else none)
theorem jr_X0_placeOf_0 {l1 : Int} {L1 : Int32} (h_l1 : L1.toInt = l1) {S : iS} {s : fS} (hs : sr S s) : rf rI (j_X0_placeOf_0 l1 S) (f_X0_placeOf_0 L1 s) := by
  unfold j_X0_placeOf_0 f_X0_placeOf_0
  exact (rf_rg fun k1 => (rf_rg fun k2 => (rf_some ⟨(i_add (i_sub h_l1 (sr_gI hs rfl) k1) li_1 k2), hs⟩)))
def j_X0_placeOf (l1 : Int) (S : iS) : Option (Int × iS) := (j_X0_placeOf_0 l1 S)
theorem jr_X0_placeOf {l1 : Int} {L1 : Int32} (h_l1 : L1.toInt = l1) {S : iS} {s : fS} (hs : sr S s) : rf rI (j_X0_placeOf l1 S) (f_X0_placeOf L1 s) := by
  unfold j_X0_placeOf f_X0_placeOf
  exact (jr_X0_placeOf_0 h_l1 hs)
def j_X0_wrong_0 (l1 : Int) (l2 : Int) (S : iS) : Option (Int × iS) := (if rg (l2 - (jI S 81 4)) then (if rg ((l2 - (jI S 81 4)) + (1 : Int)) then (some ((0 : Int), (kI (kI (kI S 81 5 l1) 81 6 (jI S 81 3)) 81 7 ((l2 - (jI S 81 4)) + (1 : Int))))) else none) else none)
theorem jr_X0_wrong_0 {l1 : Int} {L1 : Int32} (h_l1 : L1.toInt = l1) {l2 : Int} {L2 : Int32} (h_l2 : L2.toInt = l2) {S : iS} {s : fS} (hs : sr S s) : rf rI (j_X0_wrong_0 l1 l2 S) (f_X0_wrong_0 L1 L2 s) := by
  unfold j_X0_wrong_0 f_X0_wrong_0
  exact (rf_rg fun k1 => (rf_rg fun k2 => (rf_some ⟨li_0, (sr_I (sr_I (sr_I hs rfl h_l1) rfl (sr_gI hs rfl)) rfl (i_add (i_sub h_l2 (sr_gI hs rfl) k1) li_1 k2))⟩)))
def j_X0_wrong (l1 : Int) (l2 : Int) (S : iS) : Option (Int × iS) := (j_X0_wrong_0 l1 l2 S)
theorem jr_X0_wrong {l1 : Int} {L1 : Int32} (h_l1 : L1.toInt = l1) {l2 : Int} {L2 : Int32} (h_l2 : L2.toInt = l2) {S : iS} {s : fS} (hs : sr S s) : rf rI (j_X0_wrong l1 l2 S) (f_X0_wrong L1 L2 s) := by
  unfold j_X0_wrong f_X0_wrong
  exact (jr_X0_wrong_0 h_l1 h_l2 hs)
def j_X0_wrongElsewhere_0 (l1 : Int) (l2 : Int) (l3 : Int) (S : iS) : Option (Int × iS) := (some ((0 : Int), (kI (kI (kI S 81 5 l1) 81 6 l2) 81 7 l3)))
theorem jr_X0_wrongElsewhere_0 {l1 : Int} {L1 : Int32} (h_l1 : L1.toInt = l1) {l2 : Int} {L2 : Int32} (h_l2 : L2.toInt = l2) {l3 : Int} {L3 : Int32} (h_l3 : L3.toInt = l3) {S : iS} {s : fS} (hs : sr S s) : rf rI (j_X0_wrongElsewhere_0 l1 l2 l3 S) (f_X0_wrongElsewhere_0 L1 L2 L3 s) := by
  unfold j_X0_wrongElsewhere_0 f_X0_wrongElsewhere_0
  exact (rf_some ⟨li_0, (sr_I (sr_I (sr_I hs rfl h_l1) rfl h_l2) rfl h_l3)⟩)
def j_X0_wrongElsewhere (l1 : Int) (l2 : Int) (l3 : Int) (S : iS) : Option (Int × iS) := (j_X0_wrongElsewhere_0 l1 l2 l3 S)
theorem jr_X0_wrongElsewhere {l1 : Int} {L1 : Int32} (h_l1 : L1.toInt = l1) {l2 : Int} {L2 : Int32} (h_l2 : L2.toInt = l2) {l3 : Int} {L3 : Int32} (h_l3 : L3.toInt = l3) {S : iS} {s : fS} (hs : sr S s) : rf rI (j_X0_wrongElsewhere l1 l2 l3 S) (f_X0_wrongElsewhere L1 L2 L3 s) := by
  unfold j_X0_wrongElsewhere f_X0_wrongElsewhere
  exact (jr_X0_wrongElsewhere_0 h_l1 h_l2 h_l3 hs)
def j_X3_clear_0 (a0 : Nat) (S : iS) : Option iS := (some (kI S a0 1 (0 : Int)))
theorem jr_X3_clear_0 {a0 A0 : Nat} (h_a0 : A0 = a0) {S : iS} {s : fS} (hs : sr S s) : rf rV (j_X3_clear_0 a0 S) (f_X3_clear_0 A0 s) := by
  unfold j_X3_clear_0 f_X3_clear_0
  exact (rf_some (sr_I hs h_a0 li_0))
def j_X3_clear (a0 : Nat) (S : iS) : Option iS := (j_X3_clear_0 a0 S)
theorem jr_X3_clear {a0 A0 : Nat} (h_a0 : A0 = a0) {S : iS} {s : fS} (hs : sr S s) : rf rV (j_X3_clear a0 S) (f_X3_clear A0 s) := by
  unfold j_X3_clear f_X3_clear
  exact (jr_X3_clear_0 h_a0 hs)
def j_X4_clear_0 (a0 : Nat) (S : iS) : Option iS := ((j_X3_clear (a0 + 1) S).bind fun qx1 => ((j_X3_clear (a0 + 3) qx1).bind fun qx2 => (some (kI qx2 a0 3 (0 : Int)))))
theorem jr_X4_clear_0 {a0 A0 : Nat} (h_a0 : A0 = a0) {S : iS} {s : fS} (hs : sr S s) : rf rV (j_X4_clear_0 a0 S) (f_X4_clear_0 A0 s) := by
  unfold j_X4_clear_0 f_X4_clear_0
  exact (rf_bind (jr_X3_clear (e_add h_a0) hs) fun qx1 QX1 h_qx1 => (rf_bind (jr_X3_clear (e_add h_a0) h_qx1) fun qx2 QX2 h_qx2 => (rf_some (sr_I h_qx2 h_a0 li_0))))
def j_X4_clear (a0 : Nat) (S : iS) : Option iS := (j_X4_clear_0 a0 S)
theorem jr_X4_clear {a0 A0 : Nat} (h_a0 : A0 = a0) {S : iS} {s : fS} (hs : sr S s) : rf rV (j_X4_clear a0 S) (f_X4_clear A0 s) := by
  unfold j_X4_clear f_X4_clear
  exact (jr_X4_clear_0 h_a0 hs)
def j_X1_clear_0 (b0 : Bool) (S : iS) : Option iS := ((j_X3_clear ((gadr b0) + 1) S).bind fun qx1 => ((j_X4_clear ((gadr b0) + 3) qx1).bind fun qx2 => ((j_X4_clear ((gadr b0) + 8) qx2).bind fun qx3 => ((j_X4_clear ((gadr b0) + 13) qx3).bind fun qx4 => ((j_X3_clear ((gadr b0) + 18) qx4).bind fun qx5 => ((j_X3_clear ((gadr b0) + 20) qx5).bind fun qx6 => ((j_X3_clear ((gadr b0) + 22) qx6).bind fun qx7 => ((j_X3_clear ((gadr b0) + 24) qx7).bind fun qx8 => ((j_X4_clear ((gadr b0) + 26) qx8).bind fun qx9 => ((j_X3_clear ((gadr b0) + 31) qx9).bind fun qx10 => ((j_X3_clear ((gadr b0) + 33) qx10).bind fun qx11 => ((j_X3_clear ((gadr b0) + 35) qx11).bind fun qx12 => (some (kI (kI (kI qx12 (gadr b0) 12 (0 : Int)) (gadr b0) 13 (0 : Int)) (gadr b0) 14 (0 : Int)))))))))))))))
theorem jr_X1_clear_0 {b0 B0 : Bool} (h_b0 : B0 = b0) {S : iS} {s : fS} (hs : sr S s) : rf rV (j_X1_clear_0 b0 S) (f_X1_clear_0 B0 s) := by
  unfold j_X1_clear_0 f_X1_clear_0
  exact (rf_bind (jr_X3_clear (e_add (e_gad h_b0)) hs) fun qx1 QX1 h_qx1 => (rf_bind (jr_X4_clear (e_add (e_gad h_b0)) h_qx1) fun qx2 QX2 h_qx2 => (rf_bind (jr_X4_clear (e_add (e_gad h_b0)) h_qx2) fun qx3 QX3 h_qx3 => (rf_bind (jr_X4_clear (e_add (e_gad h_b0)) h_qx3) fun qx4 QX4 h_qx4 => (rf_bind (jr_X3_clear (e_add (e_gad h_b0)) h_qx4) fun qx5 QX5 h_qx5 => (rf_bind (jr_X3_clear (e_add (e_gad h_b0)) h_qx5) fun qx6 QX6 h_qx6 => (rf_bind (jr_X3_clear (e_add (e_gad h_b0)) h_qx6) fun qx7 QX7 h_qx7 => (rf_bind (jr_X3_clear (e_add (e_gad h_b0)) h_qx7) fun qx8 QX8 h_qx8 => (rf_bind (jr_X4_clear (e_add (e_gad h_b0)) h_qx8) fun qx9 QX9 h_qx9 => (rf_bind (jr_X3_clear (e_add (e_gad h_b0)) h_qx9) fun qx10 QX10 h_qx10 => (rf_bind (jr_X3_clear (e_add (e_gad h_b0)) h_qx10) fun qx11 QX11 h_qx11 => (rf_bind (jr_X3_clear (e_add (e_gad h_b0)) h_qx11) fun qx12 QX12 h_qx12 => (rf_some (sr_I (sr_I (sr_I h_qx12 (e_gad h_b0) li_0) (e_gad h_b0) li_0) (e_gad h_b0) li_0))))))))))))))
def j_X1_clear (b0 : Bool) (S : iS) : Option iS := (j_X1_clear_0 b0 S)
theorem jr_X1_clear {b0 B0 : Bool} (h_b0 : B0 = b0) {S : iS} {s : fS} (hs : sr S s) : rf rV (j_X1_clear b0 S) (f_X1_clear B0 s) := by
  unfold j_X1_clear f_X1_clear
  exact (jr_X1_clear_0 h_b0 hs)
def j_X1_arcCount_0 (b0 : Bool) (S : iS) : Option (Int × iS) := (some ((jI S ((gadr b0) + 20) 1), S))
theorem jr_X1_arcCount_0 {b0 B0 : Bool} (h_b0 : B0 = b0) {S : iS} {s : fS} (hs : sr S s) : rf rI (j_X1_arcCount_0 b0 S) (f_X1_arcCount_0 B0 s) := by
  unfold j_X1_arcCount_0 f_X1_arcCount_0
  exact (rf_some ⟨(sr_gI hs (e_add (e_gad h_b0))), hs⟩)
def j_X1_arcCount (b0 : Bool) (S : iS) : Option (Int × iS) := (j_X1_arcCount_0 b0 S)
theorem jr_X1_arcCount {b0 B0 : Bool} (h_b0 : B0 = b0) {S : iS} {s : fS} (hs : sr S s) : rf rI (j_X1_arcCount b0 S) (f_X1_arcCount B0 s) := by
  unfold j_X1_arcCount f_X1_arcCount
  exact (jr_X1_arcCount_0 h_b0 hs)
def j_X3_has_26 (a0 : Nat) (l1 : Int) (t0 : Int) (S : iS) : Option (Int × iS) := (if (t0 = 0 ∨ t0 = 1) then (some (t0, S)) else none)
theorem jr_X3_has_26 {a0 A0 : Nat} (h_a0 : A0 = a0) {l1 : Int} {L1 : Int32} (h_l1 : L1.toInt = l1) {t0 : Int} {T0 : Int32} (h_t0 : T0.toInt = t0) {S : iS} {s : fS} (hs : sr S s) : rf rI (j_X3_has_26 a0 l1 t0 S) (f_X3_has_26 A0 L1 T0 s) := by
  unfold j_X3_has_26 f_X3_has_26
  exact (rf_rg fun k1 => (rf_ck (k_fbl h_t0 k1) (rf_some ⟨h_t0, hs⟩)))
def j_X3_has_25 (a0 : Nat) (l1 : Int) (S : iS) : Option (Int × iS) := (j_X3_has_26 a0 l1 (0 : Int) S)
theorem jr_X3_has_25 {a0 A0 : Nat} (h_a0 : A0 = a0) {l1 : Int} {L1 : Int32} (h_l1 : L1.toInt = l1) {S : iS} {s : fS} (hs : sr S s) : rf rI (j_X3_has_25 a0 l1 S) (f_X3_has_25 A0 L1 s) := by
  unfold j_X3_has_25 f_X3_has_25
  exact (jr_X3_has_26 h_a0 h_l1 li_0 hs)
def j_X3_has_0 (a0 : Nat) (l1 : Int) (S : iS) : Option (Int × iS) := (if l1 < (0 : Int) then (j_X3_has_25 a0 l1 S) else (if (jI S a0 1) ≤ l1 then (j_X3_has_25 a0 l1 S) else (if (jA S (a0 + 1)).length < 2147483648 then (if ((jA S (a0 + 1)).length : Int) ≤ l1 then (j_X3_has_25 a0 l1 S) else (j_X3_has_26 a0 l1 (1 : Int) S)) else none)))
theorem jr_X3_has_0 {a0 A0 : Nat} (h_a0 : A0 = a0) {l1 : Int} {L1 : Int32} (h_l1 : L1.toInt = l1) {S : iS} {s : fS} (hs : sr S s) : rf rI (j_X3_has_0 a0 l1 S) (f_X3_has_0 A0 L1 s) := by
  unfold j_X3_has_0 f_X3_has_0
  exact (rf_if (c_lt h_l1 li_0) (jr_X3_has_25 h_a0 h_l1 hs) (rf_if (c_le (sr_gI hs h_a0) h_l1) (jr_X3_has_25 h_a0 h_l1 hs) (rf_rg fun k1 => (rf_if (c_le (i_len (sr_gA hs (e_add h_a0)) k1) h_l1) (jr_X3_has_25 h_a0 h_l1 hs) (jr_X3_has_26 h_a0 h_l1 li_1 hs)))))
def j_X3_has (a0 : Nat) (l1 : Int) (S : iS) : Option (Int × iS) := (j_X3_has_0 a0 l1 S)
theorem jr_X3_has {a0 A0 : Nat} (h_a0 : A0 = a0) {l1 : Int} {L1 : Int32} (h_l1 : L1.toInt = l1) {S : iS} {s : fS} (hs : sr S s) : rf rI (j_X3_has a0 l1 S) (f_X3_has A0 L1 s) := by
  unfold j_X3_has f_X3_has
  exact (jr_X3_has_0 h_a0 h_l1 hs)
def j_X4_has_17 (a0 : Nat) (l1 : Int) (t0 : Int) (S : iS) : Option (Int × iS) := (if (t0 = 0 ∨ t0 = 1) then (some (t0, S)) else none)
theorem jr_X4_has_17 {a0 A0 : Nat} (h_a0 : A0 = a0) {l1 : Int} {L1 : Int32} (h_l1 : L1.toInt = l1) {t0 : Int} {T0 : Int32} (h_t0 : T0.toInt = t0) {S : iS} {s : fS} (hs : sr S s) : rf rI (j_X4_has_17 a0 l1 t0 S) (f_X4_has_17 A0 L1 T0 s) := by
  unfold j_X4_has_17 f_X4_has_17
  exact (rf_rg fun k1 => (rf_ck (k_fbl h_t0 k1) (rf_some ⟨h_t0, hs⟩)))
def j_X4_has_16 (a0 : Nat) (l1 : Int) (S : iS) : Option (Int × iS) := (j_X4_has_17 a0 l1 (0 : Int) S)
theorem jr_X4_has_16 {a0 A0 : Nat} (h_a0 : A0 = a0) {l1 : Int} {L1 : Int32} (h_l1 : L1.toInt = l1) {S : iS} {s : fS} (hs : sr S s) : rf rI (j_X4_has_16 a0 l1 S) (f_X4_has_16 A0 L1 s) := by
  unfold j_X4_has_16 f_X4_has_16
  exact (jr_X4_has_17 h_a0 h_l1 li_0 hs)
def j_X4_has_0 (a0 : Nat) (l1 : Int) (S : iS) : Option (Int × iS) := (if l1 < (0 : Int) then (j_X4_has_16 a0 l1 S) else (if (jI S a0 3) ≤ l1 then (j_X4_has_16 a0 l1 S) else (j_X4_has_17 a0 l1 (1 : Int) S)))
theorem jr_X4_has_0 {a0 A0 : Nat} (h_a0 : A0 = a0) {l1 : Int} {L1 : Int32} (h_l1 : L1.toInt = l1) {S : iS} {s : fS} (hs : sr S s) : rf rI (j_X4_has_0 a0 l1 S) (f_X4_has_0 A0 L1 s) := by
  unfold j_X4_has_0 f_X4_has_0
  exact (rf_if (c_lt h_l1 li_0) (jr_X4_has_16 h_a0 h_l1 hs) (rf_if (c_le (sr_gI hs h_a0) h_l1) (jr_X4_has_16 h_a0 h_l1 hs) (jr_X4_has_17 h_a0 h_l1 li_1 hs)))
def j_X4_has (a0 : Nat) (l1 : Int) (S : iS) : Option (Int × iS) := (j_X4_has_0 a0 l1 S)
theorem jr_X4_has {a0 A0 : Nat} (h_a0 : A0 = a0) {l1 : Int} {L1 : Int32} (h_l1 : L1.toInt = l1) {S : iS} {s : fS} (hs : sr S s) : rf rI (j_X4_has a0 l1 S) (f_X4_has A0 L1 s) := by
  unfold j_X4_has f_X4_has
  exact (jr_X4_has_0 h_a0 h_l1 hs)
def j_X1_hasValue_27 (b0 : Bool) (l1 : Int) (l2 : Int) (t0 : Int) (S : iS) : Option (Int × iS) := (if (t0 = 0 ∨ t0 = 1) then (some (t0, S)) else none)
theorem jr_X1_hasValue_27 {b0 B0 : Bool} (h_b0 : B0 = b0) {l1 : Int} {L1 : Int32} (h_l1 : L1.toInt = l1) {l2 : Int} {L2 : Int32} (h_l2 : L2.toInt = l2) {t0 : Int} {T0 : Int32} (h_t0 : T0.toInt = t0) {S : iS} {s : fS} (hs : sr S s) : rf rI (j_X1_hasValue_27 b0 l1 l2 t0 S) (f_X1_hasValue_27 B0 L1 L2 T0 s) := by
  unfold j_X1_hasValue_27 f_X1_hasValue_27
  exact (rf_rg fun k1 => (rf_ck (k_fbl h_t0 k1) (rf_some ⟨h_t0, hs⟩)))
def j_X1_hasValue_26 (b0 : Bool) (l1 : Int) (l2 : Int) (S : iS) : Option (Int × iS) := (j_X1_hasValue_27 b0 l1 l2 (0 : Int) S)
theorem jr_X1_hasValue_26 {b0 B0 : Bool} (h_b0 : B0 = b0) {l1 : Int} {L1 : Int32} (h_l1 : L1.toInt = l1) {l2 : Int} {L2 : Int32} (h_l2 : L2.toInt = l2) {S : iS} {s : fS} (hs : sr S s) : rf rI (j_X1_hasValue_26 b0 l1 l2 S) (f_X1_hasValue_26 B0 L1 L2 s) := by
  unfold j_X1_hasValue_26 f_X1_hasValue_26
  exact (jr_X1_hasValue_27 h_b0 h_l1 h_l2 li_0 hs)
def j_X1_hasValue_0 (b0 : Bool) (l1 : Int) (l2 : Int) (S : iS) : Option (Int × iS) := ((j_X3_has ((gadr b0) + 20) l1 S).bind fun qx1 => (if qx1.1 = (0 : Int) then (j_X1_hasValue_26 b0 l1 l2 qx1.2) else ((j_X4_has ((gadr b0) + 8) l2 qx1.2).bind fun qx2 => (if qx2.1 = (0 : Int) then (j_X1_hasValue_26 b0 l1 l2 qx2.2) else (j_X1_hasValue_27 b0 l1 l2 (1 : Int) qx2.2)))))
theorem jr_X1_hasValue_0 {b0 B0 : Bool} (h_b0 : B0 = b0) {l1 : Int} {L1 : Int32} (h_l1 : L1.toInt = l1) {l2 : Int} {L2 : Int32} (h_l2 : L2.toInt = l2) {S : iS} {s : fS} (hs : sr S s) : rf rI (j_X1_hasValue_0 b0 l1 l2 S) (f_X1_hasValue_0 B0 L1 L2 s) := by
  unfold j_X1_hasValue_0 f_X1_hasValue_0
  exact (rf_bind (jr_X3_has (e_add (e_gad h_b0)) h_l1 hs) fun qx1 QX1 h_qx1 => (rf_if (c_eq h_qx1.1 li_0) (jr_X1_hasValue_26 h_b0 h_l1 h_l2 h_qx1.2) (rf_bind (jr_X4_has (e_add (e_gad h_b0)) h_l2 h_qx1.2) fun qx2 QX2 h_qx2 => (rf_if (c_eq h_qx2.1 li_0) (jr_X1_hasValue_26 h_b0 h_l1 h_l2 h_qx2.2) (jr_X1_hasValue_27 h_b0 h_l1 h_l2 li_1 h_qx2.2)))))
def j_X1_hasValue (b0 : Bool) (l1 : Int) (l2 : Int) (S : iS) : Option (Int × iS) := (j_X1_hasValue_0 b0 l1 l2 S)
theorem jr_X1_hasValue {b0 B0 : Bool} (h_b0 : B0 = b0) {l1 : Int} {L1 : Int32} (h_l1 : L1.toInt = l1) {l2 : Int} {L2 : Int32} (h_l2 : L2.toInt = l2) {S : iS} {s : fS} (hs : sr S s) : rf rI (j_X1_hasValue b0 l1 l2 S) (f_X1_hasValue B0 L1 L2 s) := by
  unfold j_X1_hasValue f_X1_hasValue
  exact (jr_X1_hasValue_0 h_b0 h_l1 h_l2 hs)
def j_X1_roomOf_0 (b0 : Bool) (l1 : Int) (l2 : Int) (S : iS) : Option (Int × iS) := (if rg (l1 * (jI S ((gadr b0) + 8) 3)) then (if rg ((l1 * (jI S ((gadr b0) + 8) 3)) + l2) then (some (((l1 * (jI S ((gadr b0) + 8) 3)) + l2), S)) else none) else none)
theorem jr_X1_roomOf_0 {b0 B0 : Bool} (h_b0 : B0 = b0) {l1 : Int} {L1 : Int32} (h_l1 : L1.toInt = l1) {l2 : Int} {L2 : Int32} (h_l2 : L2.toInt = l2) {S : iS} {s : fS} (hs : sr S s) : rf rI (j_X1_roomOf_0 b0 l1 l2 S) (f_X1_roomOf_0 B0 L1 L2 s) := by
  unfold j_X1_roomOf_0 f_X1_roomOf_0
  exact (rf_rg fun k1 => (rf_rg fun k2 => (rf_some ⟨(i_add (i_mul h_l1 (sr_gI hs (e_add (e_gad h_b0))) k1) h_l2 k2), hs⟩)))
def j_X1_roomOf (b0 : Bool) (l1 : Int) (l2 : Int) (S : iS) : Option (Int × iS) := (j_X1_roomOf_0 b0 l1 l2 S)
theorem jr_X1_roomOf {b0 B0 : Bool} (h_b0 : B0 = b0) {l1 : Int} {L1 : Int32} (h_l1 : L1.toInt = l1) {l2 : Int} {L2 : Int32} (h_l2 : L2.toInt = l2) {S : iS} {s : fS} (hs : sr S s) : rf rI (j_X1_roomOf b0 l1 l2 S) (f_X1_roomOf B0 L1 L2 s) := by
  unfold j_X1_roomOf f_X1_roomOf
  exact (jr_X1_roomOf_0 h_b0 h_l1 h_l2 hs)
def j_X3_at_31 (a0 : Nat) (l1 : Int) (t0 : Int) (S : iS) : Option (Int × iS) := (some (t0, S))
theorem jr_X3_at_31 {a0 A0 : Nat} (h_a0 : A0 = a0) {l1 : Int} {L1 : Int32} (h_l1 : L1.toInt = l1) {t0 : Int} {T0 : Int32} (h_t0 : T0.toInt = t0) {S : iS} {s : fS} (hs : sr S s) : rf rI (j_X3_at_31 a0 l1 t0 S) (f_X3_at_31 A0 L1 T0 s) := by
  unfold j_X3_at_31 f_X3_at_31
  exact (rf_some ⟨h_t0, hs⟩)
def j_X3_at_30 (a0 : Nat) (l1 : Int) (S : iS) : Option (Int × iS) := (j_X3_at_31 a0 l1 (-1 : Int) S)
theorem jr_X3_at_30 {a0 A0 : Nat} (h_a0 : A0 = a0) {l1 : Int} {L1 : Int32} (h_l1 : L1.toInt = l1) {S : iS} {s : fS} (hs : sr S s) : rf rI (j_X3_at_30 a0 l1 S) (f_X3_at_30 A0 L1 s) := by
  unfold j_X3_at_30 f_X3_at_30
  exact (jr_X3_at_31 h_a0 h_l1 li_m1 hs)
def j_X3_at_0 (a0 : Nat) (l1 : Int) (S : iS) : Option (Int × iS) := (if l1 < (0 : Int) then (j_X3_at_30 a0 l1 S) else (if (jI S a0 1) ≤ l1 then (j_X3_at_30 a0 l1 S) else (if (jA S (a0 + 1)).length < 2147483648 then (if ((jA S (a0 + 1)).length : Int) ≤ l1 then (j_X3_at_30 a0 l1 S) else (if (0 ≤ l1 ∧ l1 < (jA S (a0 + 1)).length) then (j_X3_at_31 a0 l1 ((jA S (a0 + 1)).getD l1.toNat 0) S) else none)) else none)))
theorem jr_X3_at_0 {a0 A0 : Nat} (h_a0 : A0 = a0) {l1 : Int} {L1 : Int32} (h_l1 : L1.toInt = l1) {S : iS} {s : fS} (hs : sr S s) : rf rI (j_X3_at_0 a0 l1 S) (f_X3_at_0 A0 L1 s) := by
  unfold j_X3_at_0 f_X3_at_0
  exact (rf_if (c_lt h_l1 li_0) (jr_X3_at_30 h_a0 h_l1 hs) (rf_if (c_le (sr_gI hs h_a0) h_l1) (jr_X3_at_30 h_a0 h_l1 hs) (rf_rg fun k1 => (rf_if (c_le (i_len (sr_gA hs (e_add h_a0)) k1) h_l1) (jr_X3_at_30 h_a0 h_l1 hs) (rf_rg fun k2 => (rf_ck (k_in h_l1 (sr_gA hs (e_add h_a0)) k2) (jr_X3_at_31 h_a0 h_l1 (l_getD (sr_gA hs (e_add h_a0)) (i_nat h_l1)) hs)))))))
def j_X3_at (a0 : Nat) (l1 : Int) (S : iS) : Option (Int × iS) := (j_X3_at_0 a0 l1 S)
theorem jr_X3_at {a0 A0 : Nat} (h_a0 : A0 = a0) {l1 : Int} {L1 : Int32} (h_l1 : L1.toInt = l1) {S : iS} {s : fS} (hs : sr S s) : rf rI (j_X3_at a0 l1 S) (f_X3_at A0 L1 s) := by
  unfold j_X3_at f_X3_at
  exact (jr_X3_at_0 h_a0 h_l1 hs)
def j_X1_missingOf_34 (b0 : Bool) (r4 : Int → Int → Int → iS → Option (Int × iS)) (l1 : Int) (l2 : Int) (l3 : Int) (S : iS) : Option (Int × iS) := (if rg (l3 + (1 : Int)) then (r4 l1 l2 (l3 + (1 : Int)) S) else none)
theorem jr_X1_missingOf_34 {b0 B0 : Bool} (h_b0 : B0 = b0) {r4 : Int → Int → Int → iS → Option (Int × iS)} {R4 : Int32 → Int32 → Int32 → fS → Option (Int32 × fS)} (h_r4 : ∀ {y0 : Int} {Y0 : Int32} (h_y0 : Y0.toInt = y0) {y1 : Int} {Y1 : Int32} (h_y1 : Y1.toInt = y1) {y2 : Int} {Y2 : Int32} (h_y2 : Y2.toInt = y2) {S : iS} {s : fS} (hs : sr S s), rf rI (r4 y0 y1 y2 S) (R4 Y0 Y1 Y2 s)) {l1 : Int} {L1 : Int32} (h_l1 : L1.toInt = l1) {l2 : Int} {L2 : Int32} (h_l2 : L2.toInt = l2) {l3 : Int} {L3 : Int32} (h_l3 : L3.toInt = l3) {S : iS} {s : fS} (hs : sr S s) : rf rI (j_X1_missingOf_34 b0 r4 l1 l2 l3 S) (f_X1_missingOf_34 B0 R4 L1 L2 L3 s) := by
  unfold j_X1_missingOf_34 f_X1_missingOf_34
  exact (rf_rg fun k1 => (h_r4 h_l1 h_l2 (i_add h_l3 lo_1 k1) hs))
def j_X1_missingOf_4 (b0 : Bool) : Nat → Int → Int → Int → iS → Option (Int × iS)
  | 0, _, _, _, _ => none
  | n + 1, l1, l2, l3, S => (if (jI S ((gadr b0) + 8) 3) ≤ l3 then (some (l2, S)) else ((j_X1_roomOf b0 l1 l3 S).bind fun qx1 => ((j_X3_at ((gadr b0) + 31) qx1.1 qx1.2).bind fun qx2 => (if ¬ qx2.1 = (0 : Int) then (j_X1_missingOf_34 b0 (fun l1' l2' l3' S' => j_X1_missingOf_4 b0 n l1' l2' l3' S') l1 l2 l3 qx2.2) else (if rg (l2 + (1 : Int)) then (j_X1_missingOf_34 b0 (fun l1' l2' l3' S' => j_X1_missingOf_4 b0 n l1' l2' l3' S') l1 (l2 + (1 : Int)) l3 qx2.2) else none)))))
theorem jr_X1_missingOf_4 {b0 B0 : Bool} (h_b0 : B0 = b0) (n : Nat) : ∀ {l1 : Int} {L1 : Int32} (h_l1 : L1.toInt = l1) {l2 : Int} {L2 : Int32} (h_l2 : L2.toInt = l2) {l3 : Int} {L3 : Int32} (h_l3 : L3.toInt = l3) {S : iS} {s : fS} (hs : sr S s), rf rI (j_X1_missingOf_4 b0 n l1 l2 l3 S) (f_X1_missingOf_4 B0 n L1 L2 L3 s) := by
  induction n with
  | zero => intros; exact rf_none
  | succ n ih =>
    intro l1 L1 h_l1 l2 L2 h_l2 l3 L3 h_l3 S s hs
    rw [j_X1_missingOf_4, f_X1_missingOf_4]
    exact (rf_if (c_le (sr_gI hs (e_add (e_gad h_b0))) h_l3) (rf_some ⟨h_l2, hs⟩) (rf_bind (jr_X1_roomOf h_b0 h_l1 h_l3 hs) fun qx1 QX1 h_qx1 => (rf_bind (jr_X3_at (e_add (e_gad h_b0)) h_qx1.1 h_qx1.2) fun qx2 QX2 h_qx2 => (rf_if (c_not (c_eq h_qx2.1 li_0)) (jr_X1_missingOf_34 h_b0 (@fun _ _ h_l1' _ _ h_l2' _ _ h_l3' _ _ hs' => (ih h_l1' h_l2' h_l3' hs')) h_l1 h_l2 h_l3 h_qx2.2) (rf_rg fun k1 => (jr_X1_missingOf_34 h_b0 (@fun _ _ h_l1' _ _ h_l2' _ _ h_l3' _ _ hs' => (ih h_l1' h_l2' h_l3' hs')) h_l1 (i_add h_l2 lo_1 k1) h_l3 h_qx2.2))))))
def j_X1_missingOf_0 (b0 : Bool) (l1 : Int) (S : iS) : Option (Int × iS) := (j_X1_missingOf_4 b0 fuel l1 (0 : Int) (0 : Int) S)
theorem jr_X1_missingOf_0 {b0 B0 : Bool} (h_b0 : B0 = b0) {l1 : Int} {L1 : Int32} (h_l1 : L1.toInt = l1) {S : iS} {s : fS} (hs : sr S s) : rf rI (j_X1_missingOf_0 b0 l1 S) (f_X1_missingOf_0 B0 L1 s) := by
  unfold j_X1_missingOf_0 f_X1_missingOf_0
  exact (jr_X1_missingOf_4 h_b0 fuel h_l1 li_0 li_0 hs)
def j_X1_missingOf (b0 : Bool) (l1 : Int) (S : iS) : Option (Int × iS) := (j_X1_missingOf_0 b0 l1 S)
theorem jr_X1_missingOf {b0 B0 : Bool} (h_b0 : B0 = b0) {l1 : Int} {L1 : Int32} (h_l1 : L1.toInt = l1) {S : iS} {s : fS} (hs : sr S s) : rf rI (j_X1_missingOf b0 l1 S) (f_X1_missingOf B0 L1 s) := by
  unfold j_X1_missingOf f_X1_missingOf
  exact (jr_X1_missingOf_0 h_b0 h_l1 hs)
def j_X1_hasArc_39 (b0 : Bool) (r2 : Int → Int → Int → iS → Option (Int × iS)) (l1 : Int) (l2 : Int) (l3 : Int) (S : iS) : Option (Int × iS) := (if rg (l3 + (1 : Int)) then (r2 l1 l2 (l3 + (1 : Int)) S) else none)
theorem jr_X1_hasArc_39 {b0 B0 : Bool} (h_b0 : B0 = b0) {r2 : Int → Int → Int → iS → Option (Int × iS)} {R2 : Int32 → Int32 → Int32 → fS → Option (Int32 × fS)} (h_r2 : ∀ {y0 : Int} {Y0 : Int32} (h_y0 : Y0.toInt = y0) {y1 : Int} {Y1 : Int32} (h_y1 : Y1.toInt = y1) {y2 : Int} {Y2 : Int32} (h_y2 : Y2.toInt = y2) {S : iS} {s : fS} (hs : sr S s), rf rI (r2 y0 y1 y2 S) (R2 Y0 Y1 Y2 s)) {l1 : Int} {L1 : Int32} (h_l1 : L1.toInt = l1) {l2 : Int} {L2 : Int32} (h_l2 : L2.toInt = l2) {l3 : Int} {L3 : Int32} (h_l3 : L3.toInt = l3) {S : iS} {s : fS} (hs : sr S s) : rf rI (j_X1_hasArc_39 b0 r2 l1 l2 l3 S) (f_X1_hasArc_39 B0 R2 L1 L2 L3 s) := by
  unfold j_X1_hasArc_39 f_X1_hasArc_39
  exact (rf_rg fun k1 => (h_r2 h_l1 h_l2 (i_add h_l3 lo_1 k1) hs))
def j_X1_hasArc_2 (b0 : Bool) : Nat → Int → Int → Int → iS → Option (Int × iS)
  | 0, _, _, _, _ => none
  | n + 1, l1, l2, l3, S => (if (jI S ((gadr b0) + 20) 1) ≤ l3 then (some ((0 : Int), S)) else ((j_X3_at ((gadr b0) + 20) l3 S).bind fun qx1 => (if ¬ qx1.1 = l1 then (j_X1_hasArc_39 b0 (fun l1' l2' l3' S' => j_X1_hasArc_2 b0 n l1' l2' l3' S') l1 l2 l3 qx1.2) else ((j_X3_at ((gadr b0) + 22) l3 qx1.2).bind fun qx2 => (if ¬ qx2.1 = l2 then (j_X1_hasArc_39 b0 (fun l1' l2' l3' S' => j_X1_hasArc_2 b0 n l1' l2' l3' S') l1 l2 l3 qx2.2) else (some ((1 : Int), qx2.2)))))))
theorem jr_X1_hasArc_2 {b0 B0 : Bool} (h_b0 : B0 = b0) (n : Nat) : ∀ {l1 : Int} {L1 : Int32} (h_l1 : L1.toInt = l1) {l2 : Int} {L2 : Int32} (h_l2 : L2.toInt = l2) {l3 : Int} {L3 : Int32} (h_l3 : L3.toInt = l3) {S : iS} {s : fS} (hs : sr S s), rf rI (j_X1_hasArc_2 b0 n l1 l2 l3 S) (f_X1_hasArc_2 B0 n L1 L2 L3 s) := by
  induction n with
  | zero => intros; exact rf_none
  | succ n ih =>
    intro l1 L1 h_l1 l2 L2 h_l2 l3 L3 h_l3 S s hs
    rw [j_X1_hasArc_2, f_X1_hasArc_2]
    exact (rf_if (c_le (sr_gI hs (e_add (e_gad h_b0))) h_l3) (rf_some ⟨li_0, hs⟩) (rf_bind (jr_X3_at (e_add (e_gad h_b0)) h_l3 hs) fun qx1 QX1 h_qx1 => (rf_if (c_not (c_eq h_qx1.1 h_l1)) (jr_X1_hasArc_39 h_b0 (@fun _ _ h_l1' _ _ h_l2' _ _ h_l3' _ _ hs' => (ih h_l1' h_l2' h_l3' hs')) h_l1 h_l2 h_l3 h_qx1.2) (rf_bind (jr_X3_at (e_add (e_gad h_b0)) h_l3 h_qx1.2) fun qx2 QX2 h_qx2 => (rf_if (c_not (c_eq h_qx2.1 h_l2)) (jr_X1_hasArc_39 h_b0 (@fun _ _ h_l1' _ _ h_l2' _ _ h_l3' _ _ hs' => (ih h_l1' h_l2' h_l3' hs')) h_l1 h_l2 h_l3 h_qx2.2) (rf_some ⟨li_1, h_qx2.2⟩))))))
def j_X1_hasArc_0 (b0 : Bool) (l1 : Int) (l2 : Int) (S : iS) : Option (Int × iS) := (j_X1_hasArc_2 b0 fuel l1 l2 (0 : Int) S)
theorem jr_X1_hasArc_0 {b0 B0 : Bool} (h_b0 : B0 = b0) {l1 : Int} {L1 : Int32} (h_l1 : L1.toInt = l1) {l2 : Int} {L2 : Int32} (h_l2 : L2.toInt = l2) {S : iS} {s : fS} (hs : sr S s) : rf rI (j_X1_hasArc_0 b0 l1 l2 S) (f_X1_hasArc_0 B0 L1 L2 s) := by
  unfold j_X1_hasArc_0 f_X1_hasArc_0
  exact (jr_X1_hasArc_2 h_b0 fuel h_l1 h_l2 li_0 hs)
def j_X1_hasArc (b0 : Bool) (l1 : Int) (l2 : Int) (S : iS) : Option (Int × iS) := (j_X1_hasArc_0 b0 l1 l2 S)
theorem jr_X1_hasArc {b0 B0 : Bool} (h_b0 : B0 = b0) {l1 : Int} {L1 : Int32} (h_l1 : L1.toInt = l1) {l2 : Int} {L2 : Int32} (h_l2 : L2.toInt = l2) {S : iS} {s : fS} (hs : sr S s) : rf rI (j_X1_hasArc b0 l1 l2 S) (f_X1_hasArc B0 L1 L2 s) := by
  unfold j_X1_hasArc f_X1_hasArc
  exact (jr_X1_hasArc_0 h_b0 h_l1 h_l2 hs)
def j_X3_add_39 (a0 : Nat) (l1 : Int) (S : iS) : Option iS := (some S)
theorem jr_X3_add_39 {a0 A0 : Nat} (h_a0 : A0 = a0) {l1 : Int} {L1 : Int32} (h_l1 : L1.toInt = l1) {S : iS} {s : fS} (hs : sr S s) : rf rV (j_X3_add_39 a0 l1 S) (f_X3_add_39 A0 L1 s) := by
  unfold j_X3_add_39 f_X3_add_39
  exact (rf_some hs)
def j_X3_add_0 (a0 : Nat) (l1 : Int) (S : iS) : Option iS := (if (jI S a0 1) < (0 : Int) then (j_X3_add_39 a0 l1 S) else (if (jA S (a0 + 1)).length < 2147483648 then (if ((jA S (a0 + 1)).length : Int) ≤ (jI S a0 1) then (j_X3_add_39 a0 l1 S) else (if (0 ≤ (jI S a0 1) ∧ (jI S a0 1) < (jA S (a0 + 1)).length) then (if rg ((jI S a0 1) + (1 : Int)) then (j_X3_add_39 a0 l1 (kI (kA S (a0 + 1) ((jA S (a0 + 1)).set (jI S a0 1).toNat l1)) a0 1 ((jI S a0 1) + (1 : Int)))) else none) else none)) else none))
theorem jr_X3_add_0 {a0 A0 : Nat} (h_a0 : A0 = a0) {l1 : Int} {L1 : Int32} (h_l1 : L1.toInt = l1) {S : iS} {s : fS} (hs : sr S s) : rf rV (j_X3_add_0 a0 l1 S) (f_X3_add_0 A0 L1 s) := by
  unfold j_X3_add_0 f_X3_add_0
  exact (rf_if (c_lt (sr_gI hs h_a0) li_0) (jr_X3_add_39 h_a0 h_l1 hs) (rf_rg fun k1 => (rf_if (c_le (i_len (sr_gA hs (e_add h_a0)) k1) (sr_gI hs h_a0)) (jr_X3_add_39 h_a0 h_l1 hs) (rf_rg fun k2 => (rf_ck (k_in (sr_gI hs h_a0) (sr_gA hs (e_add h_a0)) k2) (rf_rg fun k3 => (jr_X3_add_39 h_a0 h_l1 (sr_I (sr_A hs (e_add h_a0) (l_set (sr_gA hs (e_add h_a0)) (i_nat (sr_gI hs h_a0)) h_l1)) h_a0 (i_add (sr_gI hs h_a0) li_1 k3)))))))))
def j_X3_add (a0 : Nat) (l1 : Int) (S : iS) : Option iS := (j_X3_add_0 a0 l1 S)
theorem jr_X3_add {a0 A0 : Nat} (h_a0 : A0 = a0) {l1 : Int} {L1 : Int32} (h_l1 : L1.toInt = l1) {S : iS} {s : fS} (hs : sr S s) : rf rV (j_X3_add a0 l1 S) (f_X3_add A0 L1 s) := by
  unfold j_X3_add f_X3_add
  exact (jr_X3_add_0 h_a0 h_l1 hs)
def j_X1_addArc_0 (b0 : Bool) (l1 : Int) (l2 : Int) (l3 : Int) (S : iS) : Option iS := ((j_X3_add ((gadr b0) + 20) l1 S).bind fun qx1 => ((j_X3_add ((gadr b0) + 22) l2 qx1).bind fun qx2 => ((j_X3_add ((gadr b0) + 24) l3 qx2).bind fun qx3 => ((j_X3_add ((gadr b0) + 35) (3 : Int) qx3).bind fun qx4 => (some qx4)))))
theorem jr_X1_addArc_0 {b0 B0 : Bool} (h_b0 : B0 = b0) {l1 : Int} {L1 : Int32} (h_l1 : L1.toInt = l1) {l2 : Int} {L2 : Int32} (h_l2 : L2.toInt = l2) {l3 : Int} {L3 : Int32} (h_l3 : L3.toInt = l3) {S : iS} {s : fS} (hs : sr S s) : rf rV (j_X1_addArc_0 b0 l1 l2 l3 S) (f_X1_addArc_0 B0 L1 L2 L3 s) := by
  unfold j_X1_addArc_0 f_X1_addArc_0
  exact (rf_bind (jr_X3_add (e_add (e_gad h_b0)) h_l1 hs) fun qx1 QX1 h_qx1 => (rf_bind (jr_X3_add (e_add (e_gad h_b0)) h_l2 h_qx1) fun qx2 QX2 h_qx2 => (rf_bind (jr_X3_add (e_add (e_gad h_b0)) h_l3 h_qx2) fun qx3 QX3 h_qx3 => (rf_bind (jr_X3_add (e_add (e_gad h_b0)) li_3 h_qx3) fun qx4 QX4 h_qx4 => (rf_some h_qx4)))))
def j_X1_addArc (b0 : Bool) (l1 : Int) (l2 : Int) (l3 : Int) (S : iS) : Option iS := (j_X1_addArc_0 b0 l1 l2 l3 S)
theorem jr_X1_addArc {b0 B0 : Bool} (h_b0 : B0 = b0) {l1 : Int} {L1 : Int32} (h_l1 : L1.toInt = l1) {l2 : Int} {L2 : Int32} (h_l2 : L2.toInt = l2) {l3 : Int} {L3 : Int32} (h_l3 : L3.toInt = l3) {S : iS} {s : fS} (hs : sr S s) : rf rV (j_X1_addArc b0 l1 l2 l3 S) (f_X1_addArc B0 L1 L2 L3 s) := by
  unfold j_X1_addArc f_X1_addArc
  exact (jr_X1_addArc_0 h_b0 h_l1 h_l2 h_l3 hs)
def j_X4_add_0 (a0 : Nat) (l1 : Int) (l2 : Int) (S : iS) : Option iS := ((j_X3_add (a0 + 1) l1 S).bind fun qx1 => ((j_X3_add (a0 + 3) l2 qx1).bind fun qx2 => (some (kI qx2 a0 3 (jI qx2 (a0 + 3) 1)))))
theorem jr_X4_add_0 {a0 A0 : Nat} (h_a0 : A0 = a0) {l1 : Int} {L1 : Int32} (h_l1 : L1.toInt = l1) {l2 : Int} {L2 : Int32} (h_l2 : L2.toInt = l2) {S : iS} {s : fS} (hs : sr S s) : rf rV (j_X4_add_0 a0 l1 l2 S) (f_X4_add_0 A0 L1 L2 s) := by
  unfold j_X4_add_0 f_X4_add_0
  exact (rf_bind (jr_X3_add (e_add h_a0) h_l1 hs) fun qx1 QX1 h_qx1 => (rf_bind (jr_X3_add (e_add h_a0) h_l2 h_qx1) fun qx2 QX2 h_qx2 => (rf_some (sr_I h_qx2 h_a0 (sr_gI h_qx2 (e_add h_a0))))))
def j_X4_add (a0 : Nat) (l1 : Int) (l2 : Int) (S : iS) : Option iS := (j_X4_add_0 a0 l1 l2 S)
theorem jr_X4_add {a0 A0 : Nat} (h_a0 : A0 = a0) {l1 : Int} {L1 : Int32} (h_l1 : L1.toInt = l1) {l2 : Int} {L2 : Int32} (h_l2 : L2.toInt = l2) {S : iS} {s : fS} (hs : sr S s) : rf rV (j_X4_add a0 l1 l2 S) (f_X4_add A0 L1 L2 s) := by
  unfold j_X4_add f_X4_add
  exact (jr_X4_add_0 h_a0 h_l1 h_l2 hs)
def j_X1_addValue_0 (b0 : Bool) (l1 : Int) (l2 : Int) (l3 : Int) (S : iS) : Option iS := ((j_X3_add ((gadr b0) + 31) l1 S).bind fun qx1 => ((j_X3_add ((gadr b0) + 33) l2 qx1).bind fun qx2 => (if rg ((jI qx2 ((gadr b0) + 1) 1) - l3) then ((j_X4_add ((gadr b0) + 26) l3 ((jI qx2 ((gadr b0) + 1) 1) - l3) qx2).bind fun qx3 => (some qx3)) else none)))
theorem jr_X1_addValue_0 {b0 B0 : Bool} (h_b0 : B0 = b0) {l1 : Int} {L1 : Int32} (h_l1 : L1.toInt = l1) {l2 : Int} {L2 : Int32} (h_l2 : L2.toInt = l2) {l3 : Int} {L3 : Int32} (h_l3 : L3.toInt = l3) {S : iS} {s : fS} (hs : sr S s) : rf rV (j_X1_addValue_0 b0 l1 l2 l3 S) (f_X1_addValue_0 B0 L1 L2 L3 s) := by
  unfold j_X1_addValue_0 f_X1_addValue_0
  exact (rf_bind (jr_X3_add (e_add (e_gad h_b0)) h_l1 hs) fun qx1 QX1 h_qx1 => (rf_bind (jr_X3_add (e_add (e_gad h_b0)) h_l2 h_qx1) fun qx2 QX2 h_qx2 => (rf_rg fun k1 => (rf_bind (jr_X4_add (e_add (e_gad h_b0)) h_l3 (i_sub (sr_gI h_qx2 (e_add (e_gad h_b0))) h_l3 k1) h_qx2) fun qx3 QX3 h_qx3 => (rf_some h_qx3)))))
def j_X1_addValue (b0 : Bool) (l1 : Int) (l2 : Int) (l3 : Int) (S : iS) : Option iS := (j_X1_addValue_0 b0 l1 l2 l3 S)
theorem jr_X1_addValue {b0 B0 : Bool} (h_b0 : B0 = b0) {l1 : Int} {L1 : Int32} (h_l1 : L1.toInt = l1) {l2 : Int} {L2 : Int32} (h_l2 : L2.toInt = l2) {l3 : Int} {L3 : Int32} (h_l3 : L3.toInt = l3) {S : iS} {s : fS} (hs : sr S s) : rf rV (j_X1_addValue b0 l1 l2 l3 S) (f_X1_addValue B0 L1 L2 L3 s) := by
  unfold j_X1_addValue f_X1_addValue
  exact (jr_X1_addValue_0 h_b0 h_l1 h_l2 h_l3 hs)
def j_X3_cut_0 (a0 : Nat) (l1 : Int) (S : iS) : Option iS := (some (kI S a0 1 (if (0 : Int) < (if l1 < (jI S a0 1) then l1 else (jI S a0 1)) then (if l1 < (jI S a0 1) then l1 else (jI S a0 1)) else (0 : Int))))
theorem jr_X3_cut_0 {a0 A0 : Nat} (h_a0 : A0 = a0) {l1 : Int} {L1 : Int32} (h_l1 : L1.toInt = l1) {S : iS} {s : fS} (hs : sr S s) : rf rV (j_X3_cut_0 a0 l1 S) (f_X3_cut_0 A0 L1 s) := by
  unfold j_X3_cut_0 f_X3_cut_0
  exact (rf_some (sr_I hs h_a0 (i_ite (c_lt li_0 (i_ite (c_lt h_l1 (sr_gI hs h_a0)) h_l1 (sr_gI hs h_a0))) (i_ite (c_lt h_l1 (sr_gI hs h_a0)) h_l1 (sr_gI hs h_a0)) li_0)))
def j_X3_cut (a0 : Nat) (l1 : Int) (S : iS) : Option iS := (j_X3_cut_0 a0 l1 S)
theorem jr_X3_cut {a0 A0 : Nat} (h_a0 : A0 = a0) {l1 : Int} {L1 : Int32} (h_l1 : L1.toInt = l1) {S : iS} {s : fS} (hs : sr S s) : rf rV (j_X3_cut a0 l1 S) (f_X3_cut A0 L1 s) := by
  unfold j_X3_cut f_X3_cut
  exact (jr_X3_cut_0 h_a0 h_l1 hs)
def j_X4_cut_0 (a0 : Nat) (l1 : Int) (S : iS) : Option iS := ((j_X3_cut (a0 + 1) l1 S).bind fun qx1 => ((j_X3_cut (a0 + 3) l1 qx1).bind fun qx2 => (some (kI qx2 a0 3 (jI qx2 (a0 + 3) 1)))))
theorem jr_X4_cut_0 {a0 A0 : Nat} (h_a0 : A0 = a0) {l1 : Int} {L1 : Int32} (h_l1 : L1.toInt = l1) {S : iS} {s : fS} (hs : sr S s) : rf rV (j_X4_cut_0 a0 l1 S) (f_X4_cut_0 A0 L1 s) := by
  unfold j_X4_cut_0 f_X4_cut_0
  exact (rf_bind (jr_X3_cut (e_add h_a0) h_l1 hs) fun qx1 QX1 h_qx1 => (rf_bind (jr_X3_cut (e_add h_a0) h_l1 h_qx1) fun qx2 QX2 h_qx2 => (rf_some (sr_I h_qx2 h_a0 (sr_gI h_qx2 (e_add h_a0))))))
def j_X4_cut (a0 : Nat) (l1 : Int) (S : iS) : Option iS := (j_X4_cut_0 a0 l1 S)
theorem jr_X4_cut {a0 A0 : Nat} (h_a0 : A0 = a0) {l1 : Int} {L1 : Int32} (h_l1 : L1.toInt = l1) {S : iS} {s : fS} (hs : sr S s) : rf rV (j_X4_cut a0 l1 S) (f_X4_cut A0 L1 s) := by
  unfold j_X4_cut f_X4_cut
  exact (jr_X4_cut_0 h_a0 h_l1 hs)
def j_X1_leaveArcOut_0 (b0 : Bool) (S : iS) : Option iS := ((j_X1_roomOf b0 (jI S ((gadr b0) + 20) 1) (0 : Int) S).bind fun qx1 => ((j_X3_cut ((gadr b0) + 31) qx1.1 qx1.2).bind fun qx2 => ((j_X3_cut ((gadr b0) + 33) qx1.1 qx2).bind fun qx3 => ((j_X4_cut ((gadr b0) + 26) qx1.1 qx3).bind fun qx4 => (if rg ((jI qx4 (gadr b0) 12) + (1 : Int)) then (some (kI qx4 (gadr b0) 12 ((jI qx4 (gadr b0) 12) + (1 : Int)))) else none)))))
theorem jr_X1_leaveArcOut_0 {b0 B0 : Bool} (h_b0 : B0 = b0) {S : iS} {s : fS} (hs : sr S s) : rf rV (j_X1_leaveArcOut_0 b0 S) (f_X1_leaveArcOut_0 B0 s) := by
  unfold j_X1_leaveArcOut_0 f_X1_leaveArcOut_0
  exact (rf_bind (jr_X1_roomOf h_b0 (sr_gI hs (e_add (e_gad h_b0))) li_0 hs) fun qx1 QX1 h_qx1 => (rf_bind (jr_X3_cut (e_add (e_gad h_b0)) h_qx1.1 h_qx1.2) fun qx2 QX2 h_qx2 => (rf_bind (jr_X3_cut (e_add (e_gad h_b0)) h_qx1.1 h_qx2) fun qx3 QX3 h_qx3 => (rf_bind (jr_X4_cut (e_add (e_gad h_b0)) h_qx1.1 h_qx3) fun qx4 QX4 h_qx4 => (rf_rg fun k1 => (rf_some (sr_I h_qx4 (e_gad h_b0) (i_add (sr_gI h_qx4 (e_gad h_b0)) li_1 k1))))))))
def j_X1_leaveArcOut (b0 : Bool) (S : iS) : Option iS := (j_X1_leaveArcOut_0 b0 S)
theorem jr_X1_leaveArcOut {b0 B0 : Bool} (h_b0 : B0 = b0) {S : iS} {s : fS} (hs : sr S s) : rf rV (j_X1_leaveArcOut b0 S) (f_X1_leaveArcOut B0 s) := by
  unfold j_X1_leaveArcOut f_X1_leaveArcOut
  exact (jr_X1_leaveArcOut_0 h_b0 hs)
def j_X1_guessKind_46 (b0 : Bool) (r4 : Int → Int → Int → iS → Option (Int × iS)) (l1 : Int) (l2 : Int) (l3 : Int) (l4 : Int) (S : iS) : Option (Int × iS) := (if rg (l3 + (1 : Int)) then (r4 l1 l2 (l3 + (1 : Int)) S) else none)
theorem jr_X1_guessKind_46 {b0 B0 : Bool} (h_b0 : B0 = b0) {r4 : Int → Int → Int → iS → Option (Int × iS)} {R4 : Int32 → Int32 → Int32 → fS → Option (Int32 × fS)} (h_r4 : ∀ {y0 : Int} {Y0 : Int32} (h_y0 : Y0.toInt = y0) {y1 : Int} {Y1 : Int32} (h_y1 : Y1.toInt = y1) {y2 : Int} {Y2 : Int32} (h_y2 : Y2.toInt = y2) {S : iS} {s : fS} (hs : sr S s), rf rI (r4 y0 y1 y2 S) (R4 Y0 Y1 Y2 s)) {l1 : Int} {L1 : Int32} (h_l1 : L1.toInt = l1) {l2 : Int} {L2 : Int32} (h_l2 : L2.toInt = l2) {l3 : Int} {L3 : Int32} (h_l3 : L3.toInt = l3) {l4 : Int} {L4 : Int32} (h_l4 : L4.toInt = l4) {S : iS} {s : fS} (hs : sr S s) : rf rI (j_X1_guessKind_46 b0 r4 l1 l2 l3 l4 S) (f_X1_guessKind_46 B0 R4 L1 L2 L3 L4 s) := by
  unfold j_X1_guessKind_46 f_X1_guessKind_46
  exact (rf_rg fun k1 => (h_r4 h_l1 h_l2 (i_add h_l3 lo_1 k1) hs))
def j_X1_guessKind_4 (b0 : Bool) : Nat → Int → Int → Int → iS → Option (Int × iS)
  | 0, _, _, _, _ => none
  | n + 1, l1, l2, l3, S => (if (jI S ((gadr b0) + 20) 1) ≤ l3 then (some (l2, S)) else ((j_X1_roomOf b0 l3 l1 S).bind fun qx1 => ((j_X3_at ((gadr b0) + 31) qx1.1 qx1.2).bind fun qx2 => (if ¬ qx2.1 = (3 : Int) then (if ¬ qx2.1 = (2 : Int) then (j_X1_guessKind_46 b0 (fun l1' l2' l3' S' => j_X1_guessKind_4 b0 n l1' l2' l3' S') l1 l2 l3 qx2.1 qx2.2) else (j_X1_guessKind_46 b0 (fun l1' l2' l3' S' => j_X1_guessKind_4 b0 n l1' l2' l3' S') l1 (1 : Int) l3 qx2.1 qx2.2)) else (some ((2 : Int), qx2.2))))))
theorem jr_X1_guessKind_4 {b0 B0 : Bool} (h_b0 : B0 = b0) (n : Nat) : ∀ {l1 : Int} {L1 : Int32} (h_l1 : L1.toInt = l1) {l2 : Int} {L2 : Int32} (h_l2 : L2.toInt = l2) {l3 : Int} {L3 : Int32} (h_l3 : L3.toInt = l3) {S : iS} {s : fS} (hs : sr S s), rf rI (j_X1_guessKind_4 b0 n l1 l2 l3 S) (f_X1_guessKind_4 B0 n L1 L2 L3 s) := by
  induction n with
  | zero => intros; exact rf_none
  | succ n ih =>
    intro l1 L1 h_l1 l2 L2 h_l2 l3 L3 h_l3 S s hs
    rw [j_X1_guessKind_4, f_X1_guessKind_4]
    exact (rf_if (c_le (sr_gI hs (e_add (e_gad h_b0))) h_l3) (rf_some ⟨h_l2, hs⟩) (rf_bind (jr_X1_roomOf h_b0 h_l3 h_l1 hs) fun qx1 QX1 h_qx1 => (rf_bind (jr_X3_at (e_add (e_gad h_b0)) h_qx1.1 h_qx1.2) fun qx2 QX2 h_qx2 => (rf_if (c_not (c_eq h_qx2.1 li_3)) (rf_if (c_not (c_eq h_qx2.1 li_2)) (jr_X1_guessKind_46 h_b0 (@fun _ _ h_l1' _ _ h_l2' _ _ h_l3' _ _ hs' => (ih h_l1' h_l2' h_l3' hs')) h_l1 h_l2 h_l3 h_qx2.1 h_qx2.2) (jr_X1_guessKind_46 h_b0 (@fun _ _ h_l1' _ _ h_l2' _ _ h_l3' _ _ hs' => (ih h_l1' h_l2' h_l3' hs')) h_l1 li_1 h_l3 h_qx2.1 h_qx2.2)) (rf_some ⟨li_2, h_qx2.2⟩)))))
def j_X1_guessKind_0 (b0 : Bool) (l1 : Int) (S : iS) : Option (Int × iS) := (j_X1_guessKind_4 b0 fuel l1 (0 : Int) (0 : Int) S)
theorem jr_X1_guessKind_0 {b0 B0 : Bool} (h_b0 : B0 = b0) {l1 : Int} {L1 : Int32} (h_l1 : L1.toInt = l1) {S : iS} {s : fS} (hs : sr S s) : rf rI (j_X1_guessKind_0 b0 l1 S) (f_X1_guessKind_0 B0 L1 s) := by
  unfold j_X1_guessKind_0 f_X1_guessKind_0
  exact (jr_X1_guessKind_4 h_b0 fuel h_l1 li_0 li_0 hs)
def j_X1_guessKind (b0 : Bool) (l1 : Int) (S : iS) : Option (Int × iS) := (j_X1_guessKind_0 b0 l1 S)
theorem jr_X1_guessKind {b0 B0 : Bool} (h_b0 : B0 = b0) {l1 : Int} {L1 : Int32} (h_l1 : L1.toInt = l1) {S : iS} {s : fS} (hs : sr S s) : rf rI (j_X1_guessKind b0 l1 S) (f_X1_guessKind B0 L1 s) := by
  unfold j_X1_guessKind f_X1_guessKind
  exact (jr_X1_guessKind_0 h_b0 h_l1 hs)
def j_X3_put_28 (a0 : Nat) (l1 : Int) (l2 : Int) (S : iS) : Option iS := (some S)
theorem jr_X3_put_28 {a0 A0 : Nat} (h_a0 : A0 = a0) {l1 : Int} {L1 : Int32} (h_l1 : L1.toInt = l1) {l2 : Int} {L2 : Int32} (h_l2 : L2.toInt = l2) {S : iS} {s : fS} (hs : sr S s) : rf rV (j_X3_put_28 a0 l1 l2 S) (f_X3_put_28 A0 L1 L2 s) := by
  unfold j_X3_put_28 f_X3_put_28
  exact (rf_some hs)
def j_X3_put_0 (a0 : Nat) (l1 : Int) (l2 : Int) (S : iS) : Option iS := (if l1 < (0 : Int) then (j_X3_put_28 a0 l1 l2 S) else (if (jI S a0 1) ≤ l1 then (j_X3_put_28 a0 l1 l2 S) else (if (jA S (a0 + 1)).length < 2147483648 then (if ((jA S (a0 + 1)).length : Int) ≤ l1 then (j_X3_put_28 a0 l1 l2 S) else (if (0 ≤ l1 ∧ l1 < (jA S (a0 + 1)).length) then (j_X3_put_28 a0 l1 l2 (kA S (a0 + 1) ((jA S (a0 + 1)).set l1.toNat l2))) else none)) else none)))
theorem jr_X3_put_0 {a0 A0 : Nat} (h_a0 : A0 = a0) {l1 : Int} {L1 : Int32} (h_l1 : L1.toInt = l1) {l2 : Int} {L2 : Int32} (h_l2 : L2.toInt = l2) {S : iS} {s : fS} (hs : sr S s) : rf rV (j_X3_put_0 a0 l1 l2 S) (f_X3_put_0 A0 L1 L2 s) := by
  unfold j_X3_put_0 f_X3_put_0
  exact (rf_if (c_lt h_l1 li_0) (jr_X3_put_28 h_a0 h_l1 h_l2 hs) (rf_if (c_le (sr_gI hs h_a0) h_l1) (jr_X3_put_28 h_a0 h_l1 h_l2 hs) (rf_rg fun k1 => (rf_if (c_le (i_len (sr_gA hs (e_add h_a0)) k1) h_l1) (jr_X3_put_28 h_a0 h_l1 h_l2 hs) (rf_rg fun k2 => (rf_ck (k_in h_l1 (sr_gA hs (e_add h_a0)) k2) (jr_X3_put_28 h_a0 h_l1 h_l2 (sr_A hs (e_add h_a0) (l_set (sr_gA hs (e_add h_a0)) (i_nat h_l1) h_l2)))))))))
def j_X3_put (a0 : Nat) (l1 : Int) (l2 : Int) (S : iS) : Option iS := (j_X3_put_0 a0 l1 l2 S)
theorem jr_X3_put {a0 A0 : Nat} (h_a0 : A0 = a0) {l1 : Int} {L1 : Int32} (h_l1 : L1.toInt = l1) {l2 : Int} {L2 : Int32} (h_l2 : L2.toInt = l2) {S : iS} {s : fS} (hs : sr S s) : rf rV (j_X3_put a0 l1 l2 S) (f_X3_put A0 L1 L2 s) := by
  unfold j_X3_put f_X3_put
  exact (jr_X3_put_0 h_a0 h_l1 h_l2 hs)
def j_X1_settleKinds_38 (b0 : Bool) (r2 : Int → iS → Option iS) (l1 : Int) (S : iS) : Option iS := (if rg (l1 + (1 : Int)) then (r2 (l1 + (1 : Int)) S) else none)
theorem jr_X1_settleKinds_38 {b0 B0 : Bool} (h_b0 : B0 = b0) {r2 : Int → iS → Option iS} {R2 : Int32 → fS → Option fS} (h_r2 : ∀ {y0 : Int} {Y0 : Int32} (h_y0 : Y0.toInt = y0) {S : iS} {s : fS} (hs : sr S s), rf rV (r2 y0 S) (R2 Y0 s)) {l1 : Int} {L1 : Int32} (h_l1 : L1.toInt = l1) {S : iS} {s : fS} (hs : sr S s) : rf rV (j_X1_settleKinds_38 b0 r2 l1 S) (f_X1_settleKinds_38 B0 R2 L1 s) := by
  unfold j_X1_settleKinds_38 f_X1_settleKinds_38
  exact (rf_rg fun k1 => (h_r2 (i_add h_l1 lo_1 k1) hs))
def j_X1_settleKinds_2 (b0 : Bool) : Nat → Int → iS → Option iS
  | 0, _, _ => none
  | n + 1, l1, S => (if (jI S ((gadr b0) + 18) 1) ≤ l1 then (some S) else ((j_X3_at ((gadr b0) + 18) l1 S).bind fun qx1 => (if ¬ qx1.1 = (3 : Int) then (j_X1_settleKinds_38 b0 (fun l1' S' => j_X1_settleKinds_2 b0 n l1' S') l1 qx1.2) else ((j_X1_guessKind b0 l1 qx1.2).bind fun qx2 => ((j_X3_put ((gadr b0) + 18) l1 qx2.1 qx2.2).bind fun qx3 => (j_X1_settleKinds_38 b0 (fun l1' S' => j_X1_settleKinds_2 b0 n l1' S') l1 qx3))))))
theorem jr_X1_settleKinds_2 {b0 B0 : Bool} (h_b0 : B0 = b0) (n : Nat) : ∀ {l1 : Int} {L1 : Int32} (h_l1 : L1.toInt = l1) {S : iS} {s : fS} (hs : sr S s), rf rV (j_X1_settleKinds_2 b0 n l1 S) (f_X1_settleKinds_2 B0 n L1 s) := by
  induction n with
  | zero => intros; exact rf_none
  | succ n ih =>
    intro l1 L1 h_l1 S s hs
    rw [j_X1_settleKinds_2, f_X1_settleKinds_2]
    exact (rf_if (c_le (sr_gI hs (e_add (e_gad h_b0))) h_l1) (rf_some hs) (rf_bind (jr_X3_at (e_add (e_gad h_b0)) h_l1 hs) fun qx1 QX1 h_qx1 => (rf_if (c_not (c_eq h_qx1.1 li_3)) (jr_X1_settleKinds_38 h_b0 (@fun _ _ h_l1' _ _ hs' => (ih h_l1' hs')) h_l1 h_qx1.2) (rf_bind (jr_X1_guessKind h_b0 h_l1 h_qx1.2) fun qx2 QX2 h_qx2 => (rf_bind (jr_X3_put (e_add (e_gad h_b0)) h_l1 h_qx2.1 h_qx2.2) fun qx3 QX3 h_qx3 => (jr_X1_settleKinds_38 h_b0 (@fun _ _ h_l1' _ _ hs' => (ih h_l1' hs')) h_l1 h_qx3))))))
def j_X1_settleKinds_0 (b0 : Bool) (S : iS) : Option iS := (j_X1_settleKinds_2 b0 fuel (0 : Int) S)
theorem jr_X1_settleKinds_0 {b0 B0 : Bool} (h_b0 : B0 = b0) {S : iS} {s : fS} (hs : sr S s) : rf rV (j_X1_settleKinds_0 b0 S) (f_X1_settleKinds_0 B0 s) := by
  unfold j_X1_settleKinds_0 f_X1_settleKinds_0
  exact (jr_X1_settleKinds_2 h_b0 fuel li_0 hs)
def j_X1_settleKinds (b0 : Bool) (S : iS) : Option iS := (j_X1_settleKinds_0 b0 S)
theorem jr_X1_settleKinds {b0 B0 : Bool} (h_b0 : B0 = b0) {S : iS} {s : fS} (hs : sr S s) : rf rV (j_X1_settleKinds b0 S) (f_X1_settleKinds B0 s) := by
  unfold j_X1_settleKinds f_X1_settleKinds
  exact (jr_X1_settleKinds_0 h_b0 hs)
def j_X2_countIsTrue_0 (S : iS) : Option (Int × iS) := (if ¬ (jI S 80 4) = (0 : Int) then (if (jI S (gadr (jP2 S)) 13) = (jI S ((gadr (jP2 S)) + 3) 3) then ((j_X1_arcCount (jP2 S) S).bind fun qx1 => (if (jI S (gadr (jP2 S)) 14) = qx1.1 then (some ((1 : Int), qx1.2)) else ((j_X0_wrongElsewhere (7 : Int) (jI qx1.2 80 4) (jI qx1.2 80 6) qx1.2).bind fun qx2 => (if (qx2.1 = 0 ∨ qx2.1 = 1) then (some (qx2.1, qx2.2)) else none)))) else ((j_X0_wrongElsewhere (7 : Int) (jI S 80 4) (jI S 80 5) S).bind fun qx3 => (if (qx3.1 = 0 ∨ qx3.1 = 1) then (some (qx3.1, qx3.2)) else none))) else (some ((1 : Int), S)))
theorem jr_X2_countIsTrue_0 {S : iS} {s : fS} (hs : sr S s) : rf rI (j_X2_countIsTrue_0 S) (f_X2_countIsTrue_0 s) := by
  unfold j_X2_countIsTrue_0 f_X2_countIsTrue_0
  exact (rf_if (c_not (c_eq (sr_gI hs rfl) li_0)) (rf_if (c_eq (sr_gI hs (e_gad (sr_gP2 hs))) (sr_gI hs (e_add (e_gad (sr_gP2 hs))))) (rf_bind (jr_X1_arcCount (sr_gP2 hs) hs) fun qx1 QX1 h_qx1 => (rf_if (c_eq (sr_gI hs (e_gad (sr_gP2 hs))) h_qx1.1) (rf_some ⟨li_1, h_qx1.2⟩) (rf_bind (jr_X0_wrongElsewhere li_7 (sr_gI h_qx1.2 rfl) (sr_gI h_qx1.2 rfl) h_qx1.2) fun qx2 QX2 h_qx2 => (rf_rg fun k1 => (rf_ck (k_fbl h_qx2.1 k1) (rf_some ⟨h_qx2.1, h_qx2.2⟩)))))) (rf_bind (jr_X0_wrongElsewhere li_7 (sr_gI hs rfl) (sr_gI hs rfl) hs) fun qx3 QX3 h_qx3 => (rf_rg fun k2 => (rf_ck (k_fbl h_qx3.1 k2) (rf_some ⟨h_qx3.1, h_qx3.2⟩))))) (rf_some ⟨li_1, hs⟩))
