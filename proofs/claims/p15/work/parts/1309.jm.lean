def j_X7_comment (l1 : Int) (l2 : Int) (S : iS) : Option (Int × iS) := (j_X7_comment_0 l1 l2 S)
theorem jr_X7_comment {l1 : Int} {L1 : Int32} (h_l1 : L1.toInt = l1) {l2 : Int} {L2 : Int32} (h_l2 : L2.toInt = l2) {S : iS} {s : fS} (hs : sr S s) : rf rI (j_X7_comment l1 l2 S) (f_X7_comment L1 L2 s) := by
  unfold j_X7_comment f_X7_comment
  exact (jr_X7_comment_0 h_l1 h_l2 hs)
def j_X7_put_0 (l1 : Int) (S : iS) : Option iS := (if (0 ≤ (jI S 82 26) ∧ (jI S 82 26) < (jA S 102).length) then (if rg ((jI S 82 26) + (1 : Int)) then (some (kI (kA S 102 ((jA S 102).set (jI S 82 26).toNat l1)) 82 26 ((jI S 82 26) + (1 : Int)))) else none) else none)
theorem jr_X7_put_0 {l1 : Int} {L1 : Int32} (h_l1 : L1.toInt = l1) {S : iS} {s : fS} (hs : sr S s) : rf rV (j_X7_put_0 l1 S) (f_X7_put_0 L1 s) := by
  unfold j_X7_put_0 f_X7_put_0
  exact (rf_rg fun k1 => (rf_ck (k_in (sr_gI hs rfl) (sr_gA hs rfl) k1) (rf_rg fun k2 => (rf_some (sr_I (sr_A hs rfl (l_set (sr_gA hs rfl) (i_nat (sr_gI hs rfl)) h_l1)) rfl (i_add (sr_gI hs rfl) li_1 k2))))))
def j_X7_put (l1 : Int) (S : iS) : Option iS := (j_X7_put_0 l1 S)
theorem jr_X7_put {l1 : Int} {L1 : Int32} (h_l1 : L1.toInt = l1) {S : iS} {s : fS} (hs : sr S s) : rf rV (j_X7_put l1 S) (f_X7_put L1 s) := by
  unfold j_X7_put f_X7_put
  exact (jr_X7_put_0 h_l1 hs)
def j_X7_putName_116 (a1 : Nat) (l2 : Int) (l3 : Int) (l4 : Int) (S : iS) : Option iS := (some S)
theorem jr_X7_putName_116 {a1 A1 : Nat} (h_a1 : A1 = a1) {l2 : Int} {L2 : Int32} (h_l2 : L2.toInt = l2) {l3 : Int} {L3 : Int32} (h_l3 : L3.toInt = l3) {l4 : Int} {L4 : Int32} (h_l4 : L4.toInt = l4) {S : iS} {s : fS} (hs : sr S s) : rf rV (j_X7_putName_116 a1 l2 l3 l4 S) (f_X7_putName_116 A1 L2 L3 L4 s) := by
  unfold j_X7_putName_116 f_X7_putName_116
  exact (rf_some hs)
def j_X7_putName_90 (a1 : Nat) (r54 : Int → Int → Int → iS → Option iS) (l2 : Int) (l3 : Int) (l4 : Int) (S : iS) : Option iS := (if rg (l2 + l4) then (if (0 ≤ (l2 + l4) ∧ (l2 + l4) < (jA S a1).length) then ((j_X7_put ((jA S a1).getD (l2 + l4).toNat 0) S).bind fun qx1 => (if rg (l4 + (1 : Int)) then (r54 l2 l3 (l4 + (1 : Int)) qx1) else none)) else none) else none)
theorem jr_X7_putName_90 {a1 A1 : Nat} (h_a1 : A1 = a1) {r54 : Int → Int → Int → iS → Option iS} {R54 : Int32 → Int32 → Int32 → fS → Option fS} (h_r54 : ∀ {y0 : Int} {Y0 : Int32} (h_y0 : Y0.toInt = y0) {y1 : Int} {Y1 : Int32} (h_y1 : Y1.toInt = y1) {y2 : Int} {Y2 : Int32} (h_y2 : Y2.toInt = y2) {S : iS} {s : fS} (hs : sr S s), rf rV (r54 y0 y1 y2 S) (R54 Y0 Y1 Y2 s)) {l2 : Int} {L2 : Int32} (h_l2 : L2.toInt = l2) {l3 : Int} {L3 : Int32} (h_l3 : L3.toInt = l3) {l4 : Int} {L4 : Int32} (h_l4 : L4.toInt = l4) {S : iS} {s : fS} (hs : sr S s) : rf rV (j_X7_putName_90 a1 r54 l2 l3 l4 S) (f_X7_putName_90 A1 R54 L2 L3 L4 s) := by
  unfold j_X7_putName_90 f_X7_putName_90
  exact (rf_rg fun k1 => (rf_rg fun k2 => (rf_ck (k_in (i_add h_l2 h_l4 k1) (sr_gA hs h_a1) k2) (rf_bind (jr_X7_put (l_getD (sr_gA hs h_a1) (i_nat (i_add h_l2 h_l4 k1))) hs) fun qx1 QX1 h_qx1 => (rf_rg fun k3 => (h_r54 h_l2 h_l3 (i_add h_l4 lo_1 k3) h_qx1))))))
def j_X7_putName_84 (a1 : Nat) (r54 : Int → Int → Int → iS → Option iS) (l2 : Int) (l3 : Int) (l4 : Int) (S : iS) : Option iS := ((j_X7_put (92 : Int) S).bind fun qx1 => (j_X7_putName_90 a1 r54 l2 l3 l4 qx1))
theorem jr_X7_putName_84 {a1 A1 : Nat} (h_a1 : A1 = a1) {r54 : Int → Int → Int → iS → Option iS} {R54 : Int32 → Int32 → Int32 → fS → Option fS} (h_r54 : ∀ {y0 : Int} {Y0 : Int32} (h_y0 : Y0.toInt = y0) {y1 : Int} {Y1 : Int32} (h_y1 : Y1.toInt = y1) {y2 : Int} {Y2 : Int32} (h_y2 : Y2.toInt = y2) {S : iS} {s : fS} (hs : sr S s), rf rV (r54 y0 y1 y2 S) (R54 Y0 Y1 Y2 s)) {l2 : Int} {L2 : Int32} (h_l2 : L2.toInt = l2) {l3 : Int} {L3 : Int32} (h_l3 : L3.toInt = l3) {l4 : Int} {L4 : Int32} (h_l4 : L4.toInt = l4) {S : iS} {s : fS} (hs : sr S s) : rf rV (j_X7_putName_84 a1 r54 l2 l3 l4 S) (f_X7_putName_84 A1 R54 L2 L3 L4 s) := by
  unfold j_X7_putName_84 f_X7_putName_84
  exact (rf_bind (jr_X7_put li_92 hs) fun qx1 QX1 h_qx1 => (jr_X7_putName_90 h_a1 h_r54 h_l2 h_l3 h_l4 h_qx1))
def j_X7_putName_54 (a1 : Nat) : Nat → Int → Int → Int → iS → Option iS
  | 0, _, _, _, _ => none
  | n + 1, l2, l3, l4, S => (if (0 ≤ l2 ∧ l2 < (jA S a1).length) then (if ((jA S a1).getD l2.toNat 0) < l4 then (if ¬ l3 = (0 : Int) then (j_X7_putName_116 a1 l2 l3 l4 S) else ((j_X7_put (34 : Int) S).bind fun qx1 => (j_X7_putName_116 a1 l2 l3 l4 qx1))) else (if rg (l2 + l4) then (if (0 ≤ (l2 + l4) ∧ (l2 + l4) < (jA S a1).length) then (if ((jA S a1).getD (l2 + l4).toNat 0) = (34 : Int) then (j_X7_putName_84 a1 (fun l2' l3' l4' S' => j_X7_putName_54 a1 n l2' l3' l4' S') l2 l3 l4 S) else (if ¬ ((jA S a1).getD (l2 + l4).toNat 0) = (92 : Int) then (j_X7_putName_90 a1 (fun l2' l3' l4' S' => j_X7_putName_54 a1 n l2' l3' l4' S') l2 l3 l4 S) else (j_X7_putName_84 a1 (fun l2' l3' l4' S' => j_X7_putName_54 a1 n l2' l3' l4' S') l2 l3 l4 S))) else none) else none)) else none)
theorem jr_X7_putName_54 {a1 A1 : Nat} (h_a1 : A1 = a1) (n : Nat) : ∀ {l2 : Int} {L2 : Int32} (h_l2 : L2.toInt = l2) {l3 : Int} {L3 : Int32} (h_l3 : L3.toInt = l3) {l4 : Int} {L4 : Int32} (h_l4 : L4.toInt = l4) {S : iS} {s : fS} (hs : sr S s), rf rV (j_X7_putName_54 a1 n l2 l3 l4 S) (f_X7_putName_54 A1 n L2 L3 L4 s) := by
  induction n with
  | zero => intros; exact rf_none
  | succ n ih =>
    intro l2 L2 h_l2 l3 L3 h_l3 l4 L4 h_l4 S s hs
    rw [j_X7_putName_54, f_X7_putName_54]
    exact (rf_rg fun k1 => (rf_ck (k_in h_l2 (sr_gA hs h_a1) k1) (rf_if (c_lt (l_getD (sr_gA hs h_a1) (i_nat h_l2)) h_l4) (rf_if (c_not (c_eq h_l3 li_0)) (jr_X7_putName_116 h_a1 h_l2 h_l3 h_l4 hs) (rf_bind (jr_X7_put li_34 hs) fun qx1 QX1 h_qx1 => (jr_X7_putName_116 h_a1 h_l2 h_l3 h_l4 h_qx1))) (rf_rg fun k2 => (rf_rg fun k3 => (rf_ck (k_in (i_add h_l2 h_l4 k2) (sr_gA hs h_a1) k3) (rf_if (c_eq (l_getD (sr_gA hs h_a1) (i_nat (i_add h_l2 h_l4 k2))) li_34) (jr_X7_putName_84 h_a1 (@fun _ _ h_l2' _ _ h_l3' _ _ h_l4' _ _ hs' => (ih h_l2' h_l3' h_l4' hs')) h_l2 h_l3 h_l4 hs) (rf_ck (k_in (i_add h_l2 h_l4 k2) (sr_gA hs h_a1) k3) (rf_if (c_not (c_eq (l_getD (sr_gA hs h_a1) (i_nat (i_add h_l2 h_l4 k2))) li_92)) (jr_X7_putName_90 h_a1 (@fun _ _ h_l2' _ _ h_l3' _ _ h_l4' _ _ hs' => (ih h_l2' h_l3' h_l4' hs')) h_l2 h_l3 h_l4 hs) (jr_X7_putName_84 h_a1 (@fun _ _ h_l2' _ _ h_l3' _ _ h_l4' _ _ hs' => (ih h_l2' h_l3' h_l4' hs')) h_l2 h_l3 h_l4 hs))))))))))
def j_X7_putName_51 (a1 : Nat) (l2 : Int) (l3 : Int) (l4 : Int) (S : iS) : Option iS := (j_X7_putName_54 a1 fuel l2 l3 (1 : Int) S)
theorem jr_X7_putName_51 {a1 A1 : Nat} (h_a1 : A1 = a1) {l2 : Int} {L2 : Int32} (h_l2 : L2.toInt = l2) {l3 : Int} {L3 : Int32} (h_l3 : L3.toInt = l3) {l4 : Int} {L4 : Int32} (h_l4 : L4.toInt = l4) {S : iS} {s : fS} (hs : sr S s) : rf rV (j_X7_putName_51 a1 l2 l3 l4 S) (f_X7_putName_51 A1 L2 L3 L4 s) := by
  unfold j_X7_putName_51 f_X7_putName_51
  exact (jr_X7_putName_54 h_a1 fuel h_l2 h_l3 li_1 hs)
def j_X7_putName_34 (a1 : Nat) (r5 : Int → Int → Int → iS → Option iS) (l2 : Int) (l3 : Int) (l4 : Int) (t0 : Int) (S : iS) : Option iS := (if rg (l4 + (1 : Int)) then (r5 l2 t0 (l4 + (1 : Int)) S) else none)
theorem jr_X7_putName_34 {a1 A1 : Nat} (h_a1 : A1 = a1) {r5 : Int → Int → Int → iS → Option iS} {R5 : Int32 → Int32 → Int32 → fS → Option fS} (h_r5 : ∀ {y0 : Int} {Y0 : Int32} (h_y0 : Y0.toInt = y0) {y1 : Int} {Y1 : Int32} (h_y1 : Y1.toInt = y1) {y2 : Int} {Y2 : Int32} (h_y2 : Y2.toInt = y2) {S : iS} {s : fS} (hs : sr S s), rf rV (r5 y0 y1 y2 S) (R5 Y0 Y1 Y2 s)) {l2 : Int} {L2 : Int32} (h_l2 : L2.toInt = l2) {l3 : Int} {L3 : Int32} (h_l3 : L3.toInt = l3) {l4 : Int} {L4 : Int32} (h_l4 : L4.toInt = l4) {t0 : Int} {T0 : Int32} (h_t0 : T0.toInt = t0) {S : iS} {s : fS} (hs : sr S s) : rf rV (j_X7_putName_34 a1 r5 l2 l3 l4 t0 S) (f_X7_putName_34 A1 R5 L2 L3 L4 T0 s) := by
  unfold j_X7_putName_34 f_X7_putName_34
  exact (rf_rg fun k1 => (h_r5 h_l2 h_t0 (i_add h_l4 lo_1 k1) hs))
def j_X7_putName_33 (a1 : Nat) (r5 : Int → Int → Int → iS → Option iS) (l2 : Int) (l3 : Int) (l4 : Int) (S : iS) : Option iS := (j_X7_putName_34 a1 r5 l2 l3 l4 (0 : Int) S)
theorem jr_X7_putName_33 {a1 A1 : Nat} (h_a1 : A1 = a1) {r5 : Int → Int → Int → iS → Option iS} {R5 : Int32 → Int32 → Int32 → fS → Option fS} (h_r5 : ∀ {y0 : Int} {Y0 : Int32} (h_y0 : Y0.toInt = y0) {y1 : Int} {Y1 : Int32} (h_y1 : Y1.toInt = y1) {y2 : Int} {Y2 : Int32} (h_y2 : Y2.toInt = y2) {S : iS} {s : fS} (hs : sr S s), rf rV (r5 y0 y1 y2 S) (R5 Y0 Y1 Y2 s)) {l2 : Int} {L2 : Int32} (h_l2 : L2.toInt = l2) {l3 : Int} {L3 : Int32} (h_l3 : L3.toInt = l3) {l4 : Int} {L4 : Int32} (h_l4 : L4.toInt = l4) {S : iS} {s : fS} (hs : sr S s) : rf rV (j_X7_putName_33 a1 r5 l2 l3 l4 S) (f_X7_putName_33 A1 R5 L2 L3 L4 s) := by
  unfold j_X7_putName_33 f_X7_putName_33
  exact (jr_X7_putName_34 h_a1 h_r5 h_l2 h_l3 h_l4 li_0 hs)
def j_X7_putName_5 (a1 : Nat) : Nat → Int → Int → Int → iS → Option iS
  | 0, _, _, _, _ => none
  | n + 1, l2, l3, l4, S => (if (0 ≤ l2 ∧ l2 < (jA S a1).length) then (if ((jA S a1).getD l2.toNat 0) < l4 then (if ¬ l3 = (0 : Int) then (j_X7_putName_51 a1 l2 l3 l4 S) else ((j_X7_put (34 : Int) S).bind fun qx1 => (j_X7_putName_51 a1 l2 l3 l4 qx1))) else (if l3 = (0 : Int) then (j_X7_putName_33 a1 (fun l2' l3' l4' S' => j_X7_putName_5 a1 n l2' l3' l4' S') l2 l3 l4 S) else (if rg (l2 + l4) then (if (0 ≤ (l2 + l4) ∧ (l2 + l4) < (jA S a1).length) then ((j_X7_isPlain ((jA S a1).getD (l2 + l4).toNat 0) S).bind fun qx2 => (if qx2.1 = (0 : Int) then (j_X7_putName_33 a1 (fun l2' l3' l4' S' => j_X7_putName_5 a1 n l2' l3' l4' S') l2 l3 l4 qx2.2) else (j_X7_putName_34 a1 (fun l2' l3' l4' S' => j_X7_putName_5 a1 n l2' l3' l4' S') l2 l3 l4 (1 : Int) qx2.2))) else none) else none))) else none)
theorem jr_X7_putName_5 {a1 A1 : Nat} (h_a1 : A1 = a1) (n : Nat) : ∀ {l2 : Int} {L2 : Int32} (h_l2 : L2.toInt = l2) {l3 : Int} {L3 : Int32} (h_l3 : L3.toInt = l3) {l4 : Int} {L4 : Int32} (h_l4 : L4.toInt = l4) {S : iS} {s : fS} (hs : sr S s), rf rV (j_X7_putName_5 a1 n l2 l3 l4 S) (f_X7_putName_5 A1 n L2 L3 L4 s) := by
  induction n with
  | zero => intros; exact rf_none
  | succ n ih =>
    intro l2 L2 h_l2 l3 L3 h_l3 l4 L4 h_l4 S s hs
    rw [j_X7_putName_5, f_X7_putName_5]
    exact (rf_rg fun k1 => (rf_ck (k_in h_l2 (sr_gA hs h_a1) k1) (rf_if (c_lt (l_getD (sr_gA hs h_a1) (i_nat h_l2)) h_l4) (rf_if (c_not (c_eq h_l3 li_0)) (jr_X7_putName_51 h_a1 h_l2 h_l3 h_l4 hs) (rf_bind (jr_X7_put li_34 hs) fun qx1 QX1 h_qx1 => (jr_X7_putName_51 h_a1 h_l2 h_l3 h_l4 h_qx1))) (rf_if (c_eq h_l3 li_0) (jr_X7_putName_33 h_a1 (@fun _ _ h_l2' _ _ h_l3' _ _ h_l4' _ _ hs' => (ih h_l2' h_l3' h_l4' hs')) h_l2 h_l3 h_l4 hs) (rf_rg fun k2 => (rf_rg fun k3 => (rf_ck (k_in (i_add h_l2 h_l4 k2) (sr_gA hs h_a1) k3) (rf_bind (jr_X7_isPlain (l_getD (sr_gA hs h_a1) (i_nat (i_add h_l2 h_l4 k2))) hs) fun qx2 QX2 h_qx2 => (rf_if (c_eq h_qx2.1 li_0) (jr_X7_putName_33 h_a1 (@fun _ _ h_l2' _ _ h_l3' _ _ h_l4' _ _ hs' => (ih h_l2' h_l3' h_l4' hs')) h_l2 h_l3 h_l4 h_qx2.2) (jr_X7_putName_34 h_a1 (@fun _ _ h_l2' _ _ h_l3' _ _ h_l4' _ _ hs' => (ih h_l2' h_l3' h_l4' hs')) h_l2 h_l3 h_l4 li_1 h_qx2.2))))))))))
def j_X7_putName_0 (a1 : Nat) (l2 : Int) (S : iS) : Option iS := (j_X7_putName_5 a1 fuel l2 (1 : Int) (1 : Int) S)
theorem jr_X7_putName_0 {a1 A1 : Nat} (h_a1 : A1 = a1) {l2 : Int} {L2 : Int32} (h_l2 : L2.toInt = l2) {S : iS} {s : fS} (hs : sr S s) : rf rV (j_X7_putName_0 a1 l2 S) (f_X7_putName_0 A1 L2 s) := by
  unfold j_X7_putName_0 f_X7_putName_0
  exact (jr_X7_putName_5 h_a1 fuel h_l2 li_1 li_1 hs)
def j_X7_putName (a1 : Nat) (l2 : Int) (S : iS) : Option iS := (j_X7_putName_0 a1 l2 S)
theorem jr_X7_putName {a1 A1 : Nat} (h_a1 : A1 = a1) {l2 : Int} {L2 : Int32} (h_l2 : L2.toInt = l2) {S : iS} {s : fS} (hs : sr S s) : rf rV (j_X7_putName a1 l2 S) (f_X7_putName A1 L2 s) := by
  unfold j_X7_putName f_X7_putName
  exact (jr_X7_putName_0 h_a1 h_l2 hs)
def j_X7_putWhole_18  : Nat → Int → Int → iS → Option iS
  | 0, _, _, _ => none
  | n + 1, l1, l2, S => (if l2 ≤ (0 : Int) then (some S) else (if (¬ l2 = (0 : Int)) then (if (0 ≤ l1 ∧ 0 < l2) then (if (0 ≤ (l1 / l2) ∧ 0 < (10 : Int)) then (if rg ((48 : Int) + ((l1 / l2) % (10 : Int))) then ((j_X7_put ((48 : Int) + ((l1 / l2) % (10 : Int))) S).bind fun qx1 => (if (0 ≤ l2 ∧ 0 < (10 : Int)) then (j_X7_putWhole_18 n l1 (l2 / (10 : Int)) qx1) else none)) else none) else none) else none) else none))
theorem jr_X7_putWhole_18  (n : Nat) : ∀ {l1 : Int} {L1 : Int32} (h_l1 : L1.toInt = l1) {l2 : Int} {L2 : Int32} (h_l2 : L2.toInt = l2) {S : iS} {s : fS} (hs : sr S s), rf rV (j_X7_putWhole_18 n l1 l2 S) (f_X7_putWhole_18 n L1 L2 s) := by
  induction n with
  | zero => intros; exact rf_none
  | succ n ih =>
    intro l1 L1 h_l1 l2 L2 h_l2 S s hs
    rw [j_X7_putWhole_18, f_X7_putWhole_18]
    exact (rf_if (c_le h_l2 li_0) (rf_some hs) (rf_rg fun k1 => (rf_ck (k_dec (c_not (c_eq h_l2 li_0)) k1) (rf_rg fun k2 => (rf_rg fun k3 => (rf_rg fun k4 => (rf_bind (jr_X7_put (i_add li_48 (i_rem (i_div h_l1 h_l2 k2) li_10 k3) k4) hs) fun qx1 QX1 h_qx1 => (rf_rg fun k5 => (ih h_l1 (i_div h_l2 li_10 k5) h_qx1)))))))))
def j_X7_putWhole_2  : Nat → Int → Int → iS → Option iS
  | 0, _, _, _ => none
  | n + 1, l1, l2, S => (if (¬ l2 = (0 : Int)) then (if (0 ≤ l1 ∧ 0 < l2) then (if (l1 / l2) ≤ (9 : Int) then (j_X7_putWhole_18 fuel l1 l2 S) else (if rg (l2 * (10 : Int)) then (j_X7_putWhole_2 n l1 (l2 * (10 : Int)) S) else none)) else none) else none)
theorem jr_X7_putWhole_2  (n : Nat) : ∀ {l1 : Int} {L1 : Int32} (h_l1 : L1.toInt = l1) {l2 : Int} {L2 : Int32} (h_l2 : L2.toInt = l2) {S : iS} {s : fS} (hs : sr S s), rf rV (j_X7_putWhole_2 n l1 l2 S) (f_X7_putWhole_2 n L1 L2 s) := by
  induction n with
  | zero => intros; exact rf_none
  | succ n ih =>
    intro l1 L1 h_l1 l2 L2 h_l2 S s hs
    rw [j_X7_putWhole_2, f_X7_putWhole_2]
    exact (rf_rg fun k1 => (rf_ck (k_dec (c_not (c_eq h_l2 li_0)) k1) (rf_rg fun k2 => (rf_if (c_le (i_div h_l1 h_l2 k2) li_9) (jr_X7_putWhole_18 fuel h_l1 h_l2 hs) (rf_rg fun k3 => (ih h_l1 (i_mul h_l2 li_10 k3) hs))))))
def j_X7_putWhole_0 (l1 : Int) (S : iS) : Option iS := (j_X7_putWhole_2 fuel l1 (1 : Int) S)
theorem jr_X7_putWhole_0 {l1 : Int} {L1 : Int32} (h_l1 : L1.toInt = l1) {S : iS} {s : fS} (hs : sr S s) : rf rV (j_X7_putWhole_0 l1 S) (f_X7_putWhole_0 L1 s) := by
  unfold j_X7_putWhole_0 f_X7_putWhole_0
  exact (jr_X7_putWhole_2 fuel h_l1 li_1 hs)
def j_X7_putWhole (l1 : Int) (S : iS) : Option iS := (j_X7_putWhole_0 l1 S)
theorem jr_X7_putWhole {l1 : Int} {L1 : Int32} (h_l1 : L1.toInt = l1) {S : iS} {s : fS} (hs : sr S s) : rf rV (j_X7_putWhole l1 S) (f_X7_putWhole L1 s) := by
  unfold j_X7_putWhole f_X7_putWhole
  exact (jr_X7_putWhole_0 h_l1 hs)
def j_X7_putNumber_46  : Nat → Int → Int → Int → iS → Option iS
  | 0, _, _, _, _ => none
  | n + 1, l1, l2, l3, S => (if l3 ≤ (0 : Int) then (some S) else (if (0 ≤ l3 ∧ 0 < (100 : Int)) then (if rg ((48 : Int) + (l3 / (100 : Int))) then ((j_X7_put ((48 : Int) + (l3 / (100 : Int))) S).bind fun qx1 => (if rg ((l3 % (100 : Int)) * (10 : Int)) then (j_X7_putNumber_46 n l1 l2 ((l3 % (100 : Int)) * (10 : Int)) qx1) else none)) else none) else none))
theorem jr_X7_putNumber_46  (n : Nat) : ∀ {l1 : Int} {L1 : Int32} (h_l1 : L1.toInt = l1) {l2 : Int} {L2 : Int32} (h_l2 : L2.toInt = l2) {l3 : Int} {L3 : Int32} (h_l3 : L3.toInt = l3) {S : iS} {s : fS} (hs : sr S s), rf rV (j_X7_putNumber_46 n l1 l2 l3 S) (f_X7_putNumber_46 n L1 L2 L3 s) := by
  induction n with
  | zero => intros; exact rf_none
  | succ n ih =>
    intro l1 L1 h_l1 l2 L2 h_l2 l3 L3 h_l3 S s hs
    rw [j_X7_putNumber_46, f_X7_putNumber_46]
    exact (rf_if (c_le h_l3 li_0) (rf_some hs) (rf_rg fun k1 => (rf_rg fun k2 => (rf_bind (jr_X7_put (i_add li_48 (i_div h_l3 li_100 k1) k2) hs) fun qx1 QX1 h_qx1 => (rf_rg fun k3 => (ih h_l1 h_l2 (i_mul (i_rem h_l3 li_100 k1) li_10 k3) h_qx1))))))
def j_X7_putNumber_21 (l1 : Int) (l2 : Int) (S : iS) : Option iS := (if (0 ≤ l2 ∧ 0 < (1000 : Int)) then ((j_X7_putWhole (l2 / (1000 : Int)) S).bind fun qx1 => (if (l2 % (1000 : Int)) ≤ (0 : Int) then (j_X7_putNumber_46 fuel l1 l2 (l2 % (1000 : Int)) qx1) else ((j_X7_put (46 : Int) qx1).bind fun qx2 => (j_X7_putNumber_46 fuel l1 l2 (l2 % (1000 : Int)) qx2)))) else none)
theorem jr_X7_putNumber_21 {l1 : Int} {L1 : Int32} (h_l1 : L1.toInt = l1) {l2 : Int} {L2 : Int32} (h_l2 : L2.toInt = l2) {S : iS} {s : fS} (hs : sr S s) : rf rV (j_X7_putNumber_21 l1 l2 S) (f_X7_putNumber_21 L1 L2 s) := by
  unfold j_X7_putNumber_21 f_X7_putNumber_21
  exact (rf_rg fun k1 => (rf_bind (jr_X7_putWhole (i_div h_l2 li_1000 k1) hs) fun qx1 QX1 h_qx1 => (rf_if (c_le (i_rem h_l2 li_1000 k1) li_0) (jr_X7_putNumber_46 fuel h_l1 h_l2 (i_rem h_l2 li_1000 k1) h_qx1) (rf_bind (jr_X7_put li_46 h_qx1) fun qx2 QX2 h_qx2 => (jr_X7_putNumber_46 fuel h_l1 h_l2 (i_rem h_l2 li_1000 k1) h_qx2)))))
def j_X7_putNumber_10 (l1 : Int) (t0 : Int) (S : iS) : Option iS := (if (0 : Int) ≤ l1 then (j_X7_putNumber_21 l1 t0 S) else ((j_X7_put (45 : Int) S).bind fun qx1 => (j_X7_putNumber_21 l1 t0 qx1)))
theorem jr_X7_putNumber_10 {l1 : Int} {L1 : Int32} (h_l1 : L1.toInt = l1) {t0 : Int} {T0 : Int32} (h_t0 : T0.toInt = t0) {S : iS} {s : fS} (hs : sr S s) : rf rV (j_X7_putNumber_10 l1 t0 S) (f_X7_putNumber_10 L1 T0 s) := by
  unfold j_X7_putNumber_10 f_X7_putNumber_10
  exact (rf_if (c_le li_0 h_l1) (jr_X7_putNumber_21 h_l1 h_t0 hs) (rf_bind (jr_X7_put li_45 hs) fun qx1 QX1 h_qx1 => (jr_X7_putNumber_21 h_l1 h_t0 h_qx1)))
def j_X7_putNumber_0 (l1 : Int) (S : iS) : Option iS := (if (0 : Int) ≤ l1 then (j_X7_putNumber_10 l1 l1 S) else (if rg (-l1) then (j_X7_putNumber_10 l1 (-l1) S) else none))
theorem jr_X7_putNumber_0 {l1 : Int} {L1 : Int32} (h_l1 : L1.toInt = l1) {S : iS} {s : fS} (hs : sr S s) : rf rV (j_X7_putNumber_0 l1 S) (f_X7_putNumber_0 L1 s) := by
  unfold j_X7_putNumber_0 f_X7_putNumber_0
  exact (rf_if (c_le li_0 h_l1) (jr_X7_putNumber_10 h_l1 h_l1 hs) (rf_rg fun k1 => (jr_X7_putNumber_10 h_l1 (i_neg h_l1 k1) hs)))
def j_X7_putNumber (l1 : Int) (S : iS) : Option iS := (j_X7_putNumber_0 l1 S)
theorem jr_X7_putNumber {l1 : Int} {L1 : Int32} (h_l1 : L1.toInt = l1) {S : iS} {s : fS} (hs : sr S s) : rf rV (j_X7_putNumber l1 S) (f_X7_putNumber L1 s) := by
  unfold j_X7_putNumber f_X7_putNumber
  exact (jr_X7_putNumber_0 h_l1 hs)
def j_X7_putArc_117 (r42 : Int → Int → iS → Option iS) (l1 : Int) (l2 : Int) (l3 : Int) (S : iS) : Option iS := (if rg (l2 + (1 : Int)) then (r42 l1 (l2 + (1 : Int)) S) else none)
theorem jr_X7_putArc_117 {r42 : Int → Int → iS → Option iS} {R42 : Int32 → Int32 → fS → Option fS} (h_r42 : ∀ {y0 : Int} {Y0 : Int32} (h_y0 : Y0.toInt = y0) {y1 : Int} {Y1 : Int32} (h_y1 : Y1.toInt = y1) {S : iS} {s : fS} (hs : sr S s), rf rV (r42 y0 y1 S) (R42 Y0 Y1 s)) {l1 : Int} {L1 : Int32} (h_l1 : L1.toInt = l1) {l2 : Int} {L2 : Int32} (h_l2 : L2.toInt = l2) {l3 : Int} {L3 : Int32} (h_l3 : L3.toInt = l3) {S : iS} {s : fS} (hs : sr S s) : rf rV (j_X7_putArc_117 r42 l1 l2 l3 S) (f_X7_putArc_117 R42 L1 L2 L3 s) := by
  unfold j_X7_putArc_117 f_X7_putArc_117
  exact (rf_rg fun k1 => (h_r42 h_l1 (i_add h_l2 lo_1 k1) hs))
def j_X7_putArc_42  : Nat → Int → Int → iS → Option iS
  | 0, _, _, _ => none
  | n + 1, l1, l2, S => (if 0 < (jA S 90).length then (if ((jA S 90).getD 0 0) ≤ l2 then (some S) else ((j_X7_put (32 : Int) S).bind fun qx1 => (if rg ((3 : Int) * l1) then (if rg (((3 : Int) * l1) + l2) then (if (0 ≤ (((3 : Int) * l1) + l2) ∧ (((3 : Int) * l1) + l2) < (jA qx1 93).length) then (if ¬ ((jA qx1 93).getD (((3 : Int) * l1) + l2).toNat 0) = (0 : Int) then (if (0 ≤ l2 ∧ l2 < (jA qx1 91).length) then (if ¬ ((jA qx1 91).getD l2.toNat 0) = (2 : Int) then (if (0 ≤ (((3 : Int) * l1) + l2) ∧ (((3 : Int) * l1) + l2) < (jA qx1 94).length) then ((j_X7_putNumber ((jA qx1 94).getD (((3 : Int) * l1) + l2).toNat 0) qx1).bind fun qx2 => (j_X7_putArc_117 (fun l1' l2' S' => j_X7_putArc_42 n l1' l2' S') l1 l2 (((3 : Int) * l1) + l2) qx2)) else none) else (if rg ((9 : Int) * (((3 : Int) * l1) + l2)) then ((j_X7_putName 95 ((9 : Int) * (((3 : Int) * l1) + l2)) qx1).bind fun qx3 => (j_X7_putArc_117 (fun l1' l2' S' => j_X7_putArc_42 n l1' l2' S') l1 l2 (((3 : Int) * l1) + l2) qx3)) else none)) else none) else ((j_X7_put (45 : Int) qx1).bind fun qx4 => (j_X7_putArc_117 (fun l1' l2' S' => j_X7_putArc_42 n l1' l2' S') l1 l2 (((3 : Int) * l1) + l2) qx4))) else none) else none) else none))) else none)
theorem jr_X7_putArc_42  (n : Nat) : ∀ {l1 : Int} {L1 : Int32} (h_l1 : L1.toInt = l1) {l2 : Int} {L2 : Int32} (h_l2 : L2.toInt = l2) {S : iS} {s : fS} (hs : sr S s), rf rV (j_X7_putArc_42 n l1 l2 S) (f_X7_putArc_42 n L1 L2 s) := by
  induction n with
  | zero => intros; exact rf_none
  | succ n ih =>
    intro l1 L1 h_l1 l2 L2 h_l2 S s hs
    rw [j_X7_putArc_42, f_X7_putArc_42]
    exact (rf_rg fun k1 => (rf_ck (k_inl ix_0 li_0 (sr_gA hs rfl) k1) (rf_if (c_le (l_getD (sr_gA hs rfl) ix_0) h_l2) (rf_some hs) (rf_bind (jr_X7_put li_32 hs) fun qx1 QX1 h_qx1 => (rf_rg fun k2 => (rf_rg fun k3 => (rf_rg fun k4 => (rf_ck (k_in (i_add (i_mul li_3 h_l1 k2) h_l2 k3) (sr_gA h_qx1 rfl) k4) (rf_if (c_not (c_eq (l_getD (sr_gA h_qx1 rfl) (i_nat (i_add (i_mul li_3 h_l1 k2) h_l2 k3))) li_0)) (rf_rg fun k5 => (rf_ck (k_in h_l2 (sr_gA h_qx1 rfl) k5) (rf_if (c_not (c_eq (l_getD (sr_gA h_qx1 rfl) (i_nat h_l2)) li_2)) (rf_rg fun k6 => (rf_ck (k_in (i_add (i_mul li_3 h_l1 k2) h_l2 k3) (sr_gA h_qx1 rfl) k6) (rf_bind (jr_X7_putNumber (l_getD (sr_gA h_qx1 rfl) (i_nat (i_add (i_mul li_3 h_l1 k2) h_l2 k3))) h_qx1) fun qx2 QX2 h_qx2 => (jr_X7_putArc_117 (@fun _ _ h_l1' _ _ h_l2' _ _ hs' => (ih h_l1' h_l2' hs')) h_l1 h_l2 (i_add (i_mul li_3 h_l1 k2) h_l2 k3) h_qx2)))) (rf_rg fun k7 => (rf_bind (jr_X7_putName rfl (i_mul li_9 (i_add (i_mul li_3 h_l1 k2) h_l2 k3) k7) h_qx1) fun qx3 QX3 h_qx3 => (jr_X7_putArc_117 (@fun _ _ h_l1' _ _ h_l2' _ _ hs' => (ih h_l1' h_l2' hs')) h_l1 h_l2 (i_add (i_mul li_3 h_l1 k2) h_l2 k3) h_qx3)))))) (rf_bind (jr_X7_put li_45 h_qx1) fun qx4 QX4 h_qx4 => (jr_X7_putArc_117 (@fun _ _ h_l1' _ _ h_l2' _ _ hs' => (ih h_l1' h_l2' hs')) h_l1 h_l2 (i_add (i_mul li_3 h_l1 k2) h_l2 k3) h_qx4)))))))))))
def j_X7_putArc_0 (l1 : Int) (S : iS) : Option iS := (if (0 ≤ l1 ∧ l1 < (jA S 87).length) then (if rg ((9 : Int) * ((jA S 87).getD l1.toNat 0)) then ((j_X7_putName 85 ((9 : Int) * ((jA S 87).getD l1.toNat 0)) S).bind fun qx1 => ((j_X7_put (32 : Int) qx1).bind fun qx2 => (if (0 ≤ l1 ∧ l1 < (jA qx2 88).length) then (if rg ((9 : Int) * ((jA qx2 88).getD l1.toNat 0)) then ((j_X7_putName 85 ((9 : Int) * ((jA qx2 88).getD l1.toNat 0)) qx2).bind fun qx3 => (j_X7_putArc_42 fuel l1 (0 : Int) qx3)) else none) else none))) else none) else none)
theorem jr_X7_putArc_0 {l1 : Int} {L1 : Int32} (h_l1 : L1.toInt = l1) {S : iS} {s : fS} (hs : sr S s) : rf rV (j_X7_putArc_0 l1 S) (f_X7_putArc_0 L1 s) := by
  unfold j_X7_putArc_0 f_X7_putArc_0
  exact (rf_rg fun k1 => (rf_ck (k_in h_l1 (sr_gA hs rfl) k1) (rf_rg fun k2 => (rf_bind (jr_X7_putName rfl (i_mul li_9 (l_getD (sr_gA hs rfl) (i_nat h_l1)) k2) hs) fun qx1 QX1 h_qx1 => (rf_bind (jr_X7_put li_32 h_qx1) fun qx2 QX2 h_qx2 => (rf_rg fun k3 => (rf_ck (k_in h_l1 (sr_gA h_qx2 rfl) k3) (rf_rg fun k4 => (rf_bind (jr_X7_putName rfl (i_mul li_9 (l_getD (sr_gA h_qx2 rfl) (i_nat h_l1)) k4) h_qx2) fun qx3 QX3 h_qx3 => (jr_X7_putArc_42 fuel h_l1 li_0 h_qx3))))))))))
def j_X7_putArc (l1 : Int) (S : iS) : Option iS := (j_X7_putArc_0 l1 S)
theorem jr_X7_putArc {l1 : Int} {L1 : Int32} (h_l1 : L1.toInt = l1) {S : iS} {s : fS} (hs : sr S s) : rf rV (j_X7_putArc l1 S) (f_X7_putArc L1 s) := by
  unfold j_X7_putArc f_X7_putArc
  exact (jr_X7_putArc_0 h_l1 hs)
def j_X7_print_243 (r29 : Int → Int → Int → Int → iS → Option (Int × iS)) (l1 : Int) (l2 : Int) (l3 : Int) (l4 : Int) (S : iS) : Option (Int × iS) := ((j_X7_put (10 : Int) S).bind fun qx1 => (if rg (l4 + (1 : Int)) then (r29 l1 l2 l3 (l4 + (1 : Int)) qx1) else none))
theorem jr_X7_print_243 {r29 : Int → Int → Int → Int → iS → Option (Int × iS)} {R29 : Int32 → Int32 → Int32 → Int32 → fS → Option (Int32 × fS)} (h_r29 : ∀ {y0 : Int} {Y0 : Int32} (h_y0 : Y0.toInt = y0) {y1 : Int} {Y1 : Int32} (h_y1 : Y1.toInt = y1) {y2 : Int} {Y2 : Int32} (h_y2 : Y2.toInt = y2) {y3 : Int} {Y3 : Int32} (h_y3 : Y3.toInt = y3) {S : iS} {s : fS} (hs : sr S s), rf rI (r29 y0 y1 y2 y3 S) (R29 Y0 Y1 Y2 Y3 s)) {l1 : Int} {L1 : Int32} (h_l1 : L1.toInt = l1) {l2 : Int} {L2 : Int32} (h_l2 : L2.toInt = l2) {l3 : Int} {L3 : Int32} (h_l3 : L3.toInt = l3) {l4 : Int} {L4 : Int32} (h_l4 : L4.toInt = l4) {S : iS} {s : fS} (hs : sr S s) : rf rI (j_X7_print_243 r29 l1 l2 l3 l4 S) (f_X7_print_243 R29 L1 L2 L3 L4 s) := by
  unfold j_X7_print_243 f_X7_print_243
  exact (rf_bind (jr_X7_put li_10 hs) fun qx1 QX1 h_qx1 => (rf_rg fun k1 => (h_r29 h_l1 h_l2 h_l3 (i_add h_l4 lo_1 k1) h_qx1)))
def j_X7_print_81 (r29 : Int → Int → Int → Int → iS → Option (Int × iS)) : Nat → Int → Int → Int → Int → Int → iS → Option (Int × iS)
  | 0, _, _, _, _, _, _ => none
  | n + 1, l1, l2, l3, l4, l5, S => (if rg ((21 : Int) * l1) then (if (0 ≤ ((21 : Int) * l1) ∧ ((21 : Int) * l1) < (jA S 98).length) then (if ((jA S 98).getD ((21 : Int) * l1).toNat 0) < l5 then (if rg (l1 + (1 : Int)) then (j_X7_print_243 r29 (l1 + (1 : Int)) l2 l3 l4 S) else none) else (if rg (((21 : Int) * l1) + l5) then (if (0 ≤ (((21 : Int) * l1) + l5) ∧ (((21 : Int) * l1) + l5) < (jA S 98).length) then ((j_X7_put ((jA S 98).getD (((21 : Int) * l1) + l5).toNat 0) S).bind fun qx1 => (if rg (l5 + (1 : Int)) then (j_X7_print_81 r29 n l1 l2 l3 l4 (l5 + (1 : Int)) qx1) else none)) else none) else none)) else none) else none)
theorem jr_X7_print_81 {r29 : Int → Int → Int → Int → iS → Option (Int × iS)} {R29 : Int32 → Int32 → Int32 → Int32 → fS → Option (Int32 × fS)} (h_r29 : ∀ {y0 : Int} {Y0 : Int32} (h_y0 : Y0.toInt = y0) {y1 : Int} {Y1 : Int32} (h_y1 : Y1.toInt = y1) {y2 : Int} {Y2 : Int32} (h_y2 : Y2.toInt = y2) {y3 : Int} {Y3 : Int32} (h_y3 : Y3.toInt = y3) {S : iS} {s : fS} (hs : sr S s), rf rI (r29 y0 y1 y2 y3 S) (R29 Y0 Y1 Y2 Y3 s)) (n : Nat) : ∀ {l1 : Int} {L1 : Int32} (h_l1 : L1.toInt = l1) {l2 : Int} {L2 : Int32} (h_l2 : L2.toInt = l2) {l3 : Int} {L3 : Int32} (h_l3 : L3.toInt = l3) {l4 : Int} {L4 : Int32} (h_l4 : L4.toInt = l4) {l5 : Int} {L5 : Int32} (h_l5 : L5.toInt = l5) {S : iS} {s : fS} (hs : sr S s), rf rI (j_X7_print_81 r29 n l1 l2 l3 l4 l5 S) (f_X7_print_81 R29 n L1 L2 L3 L4 L5 s) := by
  induction n with
  | zero => intros; exact rf_none
  | succ n ih =>
    intro l1 L1 h_l1 l2 L2 h_l2 l3 L3 h_l3 l4 L4 h_l4 l5 L5 h_l5 S s hs
    rw [j_X7_print_81, f_X7_print_81]
    exact (rf_rg fun k1 => (rf_rg fun k2 => (rf_ck (k_in (i_mul li_21 h_l1 k1) (sr_gA hs rfl) k2) (rf_if (c_lt (l_getD (sr_gA hs rfl) (i_nat (i_mul li_21 h_l1 k1))) h_l5) (rf_rg fun k3 => (jr_X7_print_243 h_r29 (i_add h_l1 lo_1 k3) h_l2 h_l3 h_l4 hs)) (rf_rg fun k4 => (rf_rg fun k5 => (rf_ck (k_in (i_add (i_mul li_21 h_l1 k1) h_l5 k4) (sr_gA hs rfl) k5) (rf_bind (jr_X7_put (l_getD (sr_gA hs rfl) (i_nat (i_add (i_mul li_21 h_l1 k1) h_l5 k4))) hs) fun qx1 QX1 h_qx1 => (rf_rg fun k6 => (ih h_l1 h_l2 h_l3 h_l4 (i_add h_l5 lo_1 k6) h_qx1))))))))))
def j_X7_print_226 (r29 : Int → Int → Int → Int → iS → Option (Int × iS)) (l1 : Int) (l2 : Int) (l3 : Int) (l4 : Int) (t0 : Int) (S : iS) : Option (Int × iS) := ((j_X7_put t0 S).bind fun qx1 => (if rg (l2 + (1 : Int)) then (j_X7_print_243 r29 l1 (l2 + (1 : Int)) l3 l4 qx1) else none))
theorem jr_X7_print_226 {r29 : Int → Int → Int → Int → iS → Option (Int × iS)} {R29 : Int32 → Int32 → Int32 → Int32 → fS → Option (Int32 × fS)} (h_r29 : ∀ {y0 : Int} {Y0 : Int32} (h_y0 : Y0.toInt = y0) {y1 : Int} {Y1 : Int32} (h_y1 : Y1.toInt = y1) {y2 : Int} {Y2 : Int32} (h_y2 : Y2.toInt = y2) {y3 : Int} {Y3 : Int32} (h_y3 : Y3.toInt = y3) {S : iS} {s : fS} (hs : sr S s), rf rI (r29 y0 y1 y2 y3 S) (R29 Y0 Y1 Y2 Y3 s)) {l1 : Int} {L1 : Int32} (h_l1 : L1.toInt = l1) {l2 : Int} {L2 : Int32} (h_l2 : L2.toInt = l2) {l3 : Int} {L3 : Int32} (h_l3 : L3.toInt = l3) {l4 : Int} {L4 : Int32} (h_l4 : L4.toInt = l4) {t0 : Int} {T0 : Int32} (h_t0 : T0.toInt = t0) {S : iS} {s : fS} (hs : sr S s) : rf rI (j_X7_print_226 r29 l1 l2 l3 l4 t0 S) (f_X7_print_226 R29 L1 L2 L3 L4 T0 s) := by
  unfold j_X7_print_226 f_X7_print_226
  exact (rf_bind (jr_X7_put h_t0 hs) fun qx1 QX1 h_qx1 => (rf_rg fun k1 => (jr_X7_print_243 h_r29 h_l1 (i_add h_l2 lo_1 k1) h_l3 h_l4 h_qx1)))
def j_X7_print_29  : Nat → Int → Int → Int → Int → iS → Option (Int × iS)
  | 0, _, _, _, _, _ => none
  | n + 1, l1, l2, l3, l4, S => (if 0 < (jA S 99).length then (if ((jA S 99).getD 0 0) ≤ l4 then (some ((jI S 82 26), S)) else (if (0 ≤ l4 ∧ l4 < (jA S 100).length) then (if ((jA S 100).getD l4.toNat 0) = (1 : Int) then ((j_X7_put (35 : Int) S).bind fun qx1 => (j_X7_print_81 (fun l1' l2' l3' l4' S' => j_X7_print_29 n l1' l2' l3' l4' S') fuel l1 l2 l3 l4 (1 : Int) qx1)) else (if ((jA S 100).getD l4.toNat 0) = (2 : Int) then ((j_X7_put (33 : Int) S).bind fun qx2 => ((j_X7_put (32 : Int) qx2).bind fun qx3 => (if 0 < (jA qx3 101).length then ((j_X7_putWhole ((jA qx3 101).getD 0 0) qx3).bind fun qx4 => ((j_X7_put (32 : Int) qx4).bind fun qx5 => (if 1 < (jA qx5 101).length then ((j_X7_putWhole ((jA qx5 101).getD 1 0) qx5).bind fun qx6 => (j_X7_print_243 (fun l1' l2' l3' l4' S' => j_X7_print_29 n l1' l2' l3' l4' S') l1 l2 l3 l4 qx6)) else none))) else none))) else (if ((jA S 100).getD l4.toNat 0) = (3 : Int) then ((j_X7_put (37 : Int) S).bind fun qx7 => ((j_X7_put (32 : Int) qx7).bind fun qx8 => (if rg ((9 : Int) * l2) then ((j_X7_putName 92 ((9 : Int) * l2) qx8).bind fun qx9 => ((j_X7_put (32 : Int) qx9).bind fun qx10 => (if (0 ≤ l2 ∧ l2 < (jA qx10 91).length) then (if ¬ ((jA qx10 91).getD l2.toNat 0) = (0 : Int) then (if ¬ ((jA qx10 91).getD l2.toNat 0) = (1 : Int) then (j_X7_print_226 (fun l1' l2' l3' l4' S' => j_X7_print_29 n l1' l2' l3' l4' S') l1 l2 l3 l4 (116 : Int) qx10) else (j_X7_print_226 (fun l1' l2' l3' l4' S' => j_X7_print_29 n l1' l2' l3' l4' S') l1 l2 l3 l4 (100 : Int) qx10)) else (j_X7_print_226 (fun l1' l2' l3' l4' S' => j_X7_print_29 n l1' l2' l3' l4' S') l1 l2 l3 l4 (119 : Int) qx10)) else none))) else none))) else ((j_X7_putArc l3 S).bind fun qx11 => (if rg (l3 + (1 : Int)) then (j_X7_print_243 (fun l1' l2' l3' l4' S' => j_X7_print_29 n l1' l2' l3' l4' S') l1 l2 (l3 + (1 : Int)) l4 qx11) else none))))) else none)) else none)
theorem jr_X7_print_29  (n : Nat) : ∀ {l1 : Int} {L1 : Int32} (h_l1 : L1.toInt = l1) {l2 : Int} {L2 : Int32} (h_l2 : L2.toInt = l2) {l3 : Int} {L3 : Int32} (h_l3 : L3.toInt = l3) {l4 : Int} {L4 : Int32} (h_l4 : L4.toInt = l4) {S : iS} {s : fS} (hs : sr S s), rf rI (j_X7_print_29 n l1 l2 l3 l4 S) (f_X7_print_29 n L1 L2 L3 L4 s) := by
  induction n with
  | zero => intros; exact rf_none
  | succ n ih =>
    intro l1 L1 h_l1 l2 L2 h_l2 l3 L3 h_l3 l4 L4 h_l4 S s hs
    rw [j_X7_print_29, f_X7_print_29]
    exact (rf_rg fun k1 => (rf_ck (k_inl ix_0 li_0 (sr_gA hs rfl) k1) (rf_if (c_le (l_getD (sr_gA hs rfl) ix_0) h_l4) (rf_some ⟨(sr_gI hs rfl), hs⟩) (rf_rg fun k2 => (rf_ck (k_in h_l4 (sr_gA hs rfl) k2) (rf_if (c_ti (l_getD (sr_gA hs rfl) (i_nat h_l4))) (rf_bind (jr_X7_put li_35 hs) fun qx1 QX1 h_qx1 => (jr_X7_print_81 (@fun _ _ h_l1' _ _ h_l2' _ _ h_l3' _ _ h_l4' _ _ hs' => (ih h_l1' h_l2' h_l3' h_l4' hs')) fuel h_l1 h_l2 h_l3 h_l4 li_1 h_qx1)) (rf_if (c_ti (l_getD (sr_gA hs rfl) (i_nat h_l4))) (rf_bind (jr_X7_put li_33 hs) fun qx2 QX2 h_qx2 => (rf_bind (jr_X7_put li_32 h_qx2) fun qx3 QX3 h_qx3 => (rf_rg fun k3 => (rf_ck (k_inl ix_0 li_0 (sr_gA h_qx3 rfl) k3) (rf_bind (jr_X7_putWhole (l_getD (sr_gA h_qx3 rfl) ix_0) h_qx3) fun qx4 QX4 h_qx4 => (rf_bind (jr_X7_put li_32 h_qx4) fun qx5 QX5 h_qx5 => (rf_rg fun k4 => (rf_ck (k_inl ix_1 li_1 (sr_gA h_qx5 rfl) k4) (rf_bind (jr_X7_putWhole (l_getD (sr_gA h_qx5 rfl) ix_1) h_qx5) fun qx6 QX6 h_qx6 => (jr_X7_print_243 (@fun _ _ h_l1' _ _ h_l2' _ _ h_l3' _ _ h_l4' _ _ hs' => (ih h_l1' h_l2' h_l3' h_l4' hs')) h_l1 h_l2 h_l3 h_l4 h_qx6)))))))))) (rf_if (c_ti (l_getD (sr_gA hs rfl) (i_nat h_l4))) (rf_bind (jr_X7_put li_37 hs) fun qx7 QX7 h_qx7 => (rf_bind (jr_X7_put li_32 h_qx7) fun qx8 QX8 h_qx8 => (rf_rg fun k5 => (rf_bind (jr_X7_putName rfl (i_mul li_9 h_l2 k5) h_qx8) fun qx9 QX9 h_qx9 => (rf_bind (jr_X7_put li_32 h_qx9) fun qx10 QX10 h_qx10 => (rf_rg fun k6 => (rf_ck (k_in h_l2 (sr_gA h_qx10 rfl) k6) (rf_if (c_not (c_eq (l_getD (sr_gA h_qx10 rfl) (i_nat h_l2)) li_0)) (rf_ck (k_in h_l2 (sr_gA h_qx10 rfl) k6) (rf_if (c_not (c_eq (l_getD (sr_gA h_qx10 rfl) (i_nat h_l2)) li_1)) (jr_X7_print_226 (@fun _ _ h_l1' _ _ h_l2' _ _ h_l3' _ _ h_l4' _ _ hs' => (ih h_l1' h_l2' h_l3' h_l4' hs')) h_l1 h_l2 h_l3 h_l4 li_116 h_qx10) (jr_X7_print_226 (@fun _ _ h_l1' _ _ h_l2' _ _ h_l3' _ _ h_l4' _ _ hs' => (ih h_l1' h_l2' h_l3' h_l4' hs')) h_l1 h_l2 h_l3 h_l4 li_100 h_qx10))) (jr_X7_print_226 (@fun _ _ h_l1' _ _ h_l2' _ _ h_l3' _ _ h_l4' _ _ hs' => (ih h_l1' h_l2' h_l3' h_l4' hs')) h_l1 h_l2 h_l3 h_l4 li_119 h_qx10))))))))) (rf_bind (jr_X7_putArc h_l3 hs) fun qx11 QX11 h_qx11 => (rf_rg fun k7 => (jr_X7_print_243 (@fun _ _ h_l1' _ _ h_l2' _ _ h_l3' _ _ h_l4' _ _ hs' => (ih h_l1' h_l2' h_l3' h_l4' hs')) h_l1 h_l2 (i_add h_l3 lo_1 k7) h_l4 h_qx11)))))))))))
def j_X7_print_0 (S : iS) : Option (Int × iS) := (if ¬ (jI S 82 6) = (0 : Int) then (j_X7_print_29 fuel (0 : Int) (0 : Int) (0 : Int) (0 : Int) (kI (kI S 82 0 (0 : Int)) 82 26 (0 : Int))) else (some ((-103 : Int), (kI S 82 0 (0 : Int)))))
theorem jr_X7_print_0 {S : iS} {s : fS} (hs : sr S s) : rf rI (j_X7_print_0 S) (f_X7_print_0 s) := by
  unfold j_X7_print_0 f_X7_print_0
  exact (rf_if (c_not (c_eq (sr_gI hs rfl) li_0)) (jr_X7_print_29 fuel li_0 li_0 li_0 li_0 (sr_I (sr_I hs rfl li_0) rfl li_0)) (rf_some ⟨li_m103, (sr_I hs rfl li_0)⟩))
def j_X7_print (S : iS) : Option (Int × iS) := (j_X7_print_0 S)
theorem jr_X7_print {S : iS} {s : fS} (hs : sr S s) : rf rI (j_X7_print S) (f_X7_print s) := by
  unfold j_X7_print f_X7_print
  exact (jr_X7_print_0 hs)
def j_X7_out_40 (l1 : Int) (t0 : Int) (S : iS) : Option (Int × iS) := (some (t0, S))
theorem jr_X7_out_40 {l1 : Int} {L1 : Int32} (h_l1 : L1.toInt = l1) {t0 : Int} {T0 : Int32} (h_t0 : T0.toInt = t0) {S : iS} {s : fS} (hs : sr S s) : rf rI (j_X7_out_40 l1 t0 S) (f_X7_out_40 L1 T0 s) := by
  unfold j_X7_out_40 f_X7_out_40
  exact (rf_some ⟨h_t0, hs⟩)
def j_X7_out_20 (l1 : Int) (t0 : Int) (S : iS) : Option (Int × iS) := (if t0 ≤ (0 : Int) then (if (0 ≤ l1 ∧ l1 < (jA S 102).length) then (j_X7_out_40 l1 ((jA S 102).getD l1.toNat 0) (kI S 82 0 t0)) else none) else (j_X7_out_40 l1 (0 : Int) (kI S 82 0 t0)))
theorem jr_X7_out_20 {l1 : Int} {L1 : Int32} (h_l1 : L1.toInt = l1) {t0 : Int} {T0 : Int32} (h_t0 : T0.toInt = t0) {S : iS} {s : fS} (hs : sr S s) : rf rI (j_X7_out_20 l1 t0 S) (f_X7_out_20 L1 T0 s) := by
  unfold j_X7_out_20 f_X7_out_20
  exact (rf_if (c_le h_t0 li_0) (rf_rg fun k1 => (rf_ck (k_in h_l1 (sr_gA hs rfl) k1) (jr_X7_out_40 h_l1 (l_getD (sr_gA hs rfl) (i_nat h_l1)) (sr_I hs rfl h_t0)))) (jr_X7_out_40 h_l1 li_0 (sr_I hs rfl h_t0)))
def j_X7_out_0 (l1 : Int) (S : iS) : Option (Int × iS) := (if rg ((jI S 82 26) - (1 : Int)) then ((j_X7_in l1 (0 : Int) ((jI S 82 26) - (1 : Int)) S).bind fun qx1 => (if qx1.1 = (0 : Int) then (j_X7_out_20 l1 (1 : Int) qx1.2) else (j_X7_out_20 l1 (0 : Int) qx1.2))) else none)
theorem jr_X7_out_0 {l1 : Int} {L1 : Int32} (h_l1 : L1.toInt = l1) {S : iS} {s : fS} (hs : sr S s) : rf rI (j_X7_out_0 l1 S) (f_X7_out_0 L1 s) := by
  unfold j_X7_out_0 f_X7_out_0
  exact (rf_rg fun k1 => (rf_bind (jr_X7_in h_l1 li_0 (i_sub (sr_gI hs rfl) li_1 k1) hs) fun qx1 QX1 h_qx1 => (rf_if (c_eq h_qx1.1 li_0) (jr_X7_out_20 h_l1 li_1 h_qx1.2) (jr_X7_out_20 h_l1 li_0 h_qx1.2))))
def j_X7_out (l1 : Int) (S : iS) : Option (Int × iS) := (j_X7_out_0 l1 S)
theorem jr_X7_out {l1 : Int} {L1 : Int32} (h_l1 : L1.toInt = l1) {S : iS} {s : fS} (hs : sr S s) : rf rI (j_X7_out l1 S) (f_X7_out L1 s) := by
  unfold j_X7_out f_X7_out
  exact (jr_X7_out_0 h_l1 hs)
def j_X7_about_0 (l1 : Int) (S : iS) : Option (Int × iS) := (if l1 = (0 : Int) then (some ((jI S 82 2), (kI S 82 0 (0 : Int)))) else (if l1 = (1 : Int) then (if 0 < (jA S 84).length then (some (((jA S 84).getD 0 0), (kI S 82 0 (0 : Int)))) else none) else (if l1 = (2 : Int) then (if 0 < (jA S 86).length then (some (((jA S 86).getD 0 0), (kI S 82 0 (0 : Int)))) else none) else (if l1 = (3 : Int) then (if 0 < (jA S 90).length then (some (((jA S 90).getD 0 0), (kI S 82 0 (0 : Int)))) else none) else (if l1 = (4 : Int) then (if 0 < (jA S 96).length then (some (((jA S 96).getD 0 0), (kI S 82 0 (0 : Int)))) else none) else (if l1 = (5 : Int) then (if 0 < (jA S 97).length then (some (((jA S 97).getD 0 0), (kI S 82 0 (0 : Int)))) else none) else (if l1 = (6 : Int) then (some ((jI S 82 26), (kI S 82 0 (0 : Int)))) else (some ((-102 : Int), (kI S 82 0 (0 : Int)))))))))))
theorem jr_X7_about_0 {l1 : Int} {L1 : Int32} (h_l1 : L1.toInt = l1) {S : iS} {s : fS} (hs : sr S s) : rf rI (j_X7_about_0 l1 S) (f_X7_about_0 L1 s) := by
  unfold j_X7_about_0 f_X7_about_0
  exact (rf_if (c_ti h_l1) (rf_some ⟨(sr_gI hs rfl), (sr_I hs rfl li_0)⟩) (rf_if (c_ti h_l1) (rf_rg fun k1 => (rf_ck (k_inl ix_0 li_0 (sr_gA hs rfl) k1) (rf_some ⟨(l_getD (sr_gA hs rfl) ix_0), (sr_I hs rfl li_0)⟩))) (rf_if (c_ti h_l1) (rf_rg fun k2 => (rf_ck (k_inl ix_0 li_0 (sr_gA hs rfl) k2) (rf_some ⟨(l_getD (sr_gA hs rfl) ix_0), (sr_I hs rfl li_0)⟩))) (rf_if (c_ti h_l1) (rf_rg fun k3 => (rf_ck (k_inl ix_0 li_0 (sr_gA hs rfl) k3) (rf_some ⟨(l_getD (sr_gA hs rfl) ix_0), (sr_I hs rfl li_0)⟩))) (rf_if (c_ti h_l1) (rf_rg fun k4 => (rf_ck (k_inl ix_0 li_0 (sr_gA hs rfl) k4) (rf_some ⟨(l_getD (sr_gA hs rfl) ix_0), (sr_I hs rfl li_0)⟩))) (rf_if (c_ti h_l1) (rf_rg fun k5 => (rf_ck (k_inl ix_0 li_0 (sr_gA hs rfl) k5) (rf_some ⟨(l_getD (sr_gA hs rfl) ix_0), (sr_I hs rfl li_0)⟩))) (rf_if (c_ti h_l1) (rf_some ⟨(sr_gI hs rfl), (sr_I hs rfl li_0)⟩) (rf_some ⟨li_m102, (sr_I hs rfl li_0)⟩))))))))
def j_X7_about (l1 : Int) (S : iS) : Option (Int × iS) := (j_X7_about_0 l1 S)
theorem jr_X7_about {l1 : Int} {L1 : Int32} (h_l1 : L1.toInt = l1) {S : iS} {s : fS} (hs : sr S s) : rf rI (j_X7_about l1 S) (f_X7_about L1 s) := by
  unfold j_X7_about f_X7_about
  exact (jr_X7_about_0 h_l1 hs)
