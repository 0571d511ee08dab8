section MJ0
theorem mi_cI {Ms : List mD} {own : String} {cc : ByteArray} {nL : Nat} {ini : Bool} {ret : Option FieldType} {pc : Nat} {f : mF} {t : mT} (h : mi_Ok own cc nL ini pc f) (ht : ∀ q ∈ t, mi_OkE Ms own cc nL ini ret q) : ∀ q ∈ (pc, (.inl f : mE)) :: t, mi_OkE Ms own cc nL ini ret q := List.forall_mem_cons.mpr ⟨h, ht⟩
theorem mi_cR {Ms : List mD} {own : String} {cc : ByteArray} {nL : Nat} {ini : Bool} {ret : Option FieldType} {pc k : Nat} {t : mT} (h : mi_OkR ret cc pc k) (ht : ∀ q ∈ t, mi_OkE Ms own cc nL ini ret q) : ∀ q ∈ (pc, (.inr (.inl k) : mE)) :: t, mi_OkE Ms own cc nL ini ret q := List.forall_mem_cons.mpr ⟨h, ht⟩
theorem mi_cC {Ms : List mD} {own : String} {cc : ByteArray} {nL : Nat} {ini : Bool} {ret : Option FieldType} {pc : Nat} {ca : mA} {t : mT} (h : mi_OkC Ms own cc pc ca) (ht : ∀ q ∈ t, mi_OkE Ms own cc nL ini ret q) : ∀ q ∈ (pc, (.inr (.inr (.inl ca)) : mE)) :: t, mi_OkE Ms own cc nL ini ret q := List.forall_mem_cons.mpr ⟨h, ht⟩
theorem mi_cT {Ms : List mD} {own : String} {cc : ByteArray} {nL : Nat} {ini : Bool} {ret : Option FieldType} {pc : Nat} {E : String} {t : mT} (ht : ∀ q ∈ t, mi_OkE Ms own cc nL ini ret q) : ∀ q ∈ (pc, (.inr (.inr (.inr E)) : mE)) :: t, mi_OkE Ms own cc nL ini ret q := List.forall_mem_cons.mpr ⟨trivial, ht⟩
theorem mi_cN {Ms : List mD} {own : String} {cc : ByteArray} {nL : Nat} {ini : Bool} {ret : Option FieldType} : ∀ q ∈ ([] : mT), mi_OkE Ms own cc nL ini ret q := fun _ h => absurd h List.not_mem_nil
set_option maxRecDepth 100000 in
set_option maxHeartbeats 4000000 in
theorem ok_X0_init : ∀ q ∈ t_X0_init, mi_OkE mi_ms RX0 cX0_init 2 true none q :=
  mi_cI (mi_aload_n_ok (k := 0) (by decide +kernel) rfl rfl) <|
  mi_cI (mi_obj_ok (index := 3) (by decide +kernel) (mi_gd1 180 rfl rfl) (mi_gd1 24 rfl rfl) (mi_gd1 25 rfl rfl) rfl) <|
  mi_cI (mi_aload_n_ok (k := 0) (by decide +kernel) rfl rfl) <|
  mi_cI (mi_aload_n_ok (k := 1) (by decide +kernel) rfl rfl) <|
  mi_cI (mi_put_ok (by decide +kernel) fl_X0_9 rfl rfl) <|
  mi_cI (mi_aload_n_ok (k := 0) (by decide +kernel) rfl rfl) <|
  mi_cI (mi_iconst_ok (n := 0) (by decide) (by decide +kernel) rfl) <|
  mi_cI (mi_put_ok (by decide +kernel) fl_X0_15 rfl rfl) <|
  mi_cI (mi_aload_n_ok (k := 0) (by decide +kernel) rfl rfl) <|
  mi_cI (mi_iconst_ok (n := (-1)) (by decide) (by decide +kernel) rfl) <|
  mi_cI (mi_put_ok (by decide +kernel) fl_X0_19 rfl rfl) <|
  mi_cI (mi_aload_n_ok (k := 0) (by decide +kernel) rfl rfl) <|
  mi_cI (mi_iconst_ok (n := 0) (by decide) (by decide +kernel) rfl) <|
  mi_cI (mi_put_ok (by decide +kernel) fl_X0_22 rfl rfl) <|
  mi_cI (mi_aload_n_ok (k := 0) (by decide +kernel) rfl rfl) <|
  mi_cI (mi_iconst_ok (n := 0) (by decide) (by decide +kernel) rfl) <|
  mi_cI (mi_put_ok (by decide +kernel) fl_X0_25 rfl rfl) <|
  mi_cI (mi_aload_n_ok (k := 0) (by decide +kernel) rfl rfl) <|
  mi_cI (mi_iconst_ok (n := 0) (by decide) (by decide +kernel) rfl) <|
  mi_cI (mi_put_ok (by decide +kernel) fl_X0_28 rfl rfl) <|
  mi_cI (mi_aload_n_ok (k := 0) (by decide +kernel) rfl rfl) <|
  mi_cI (mi_iconst_ok (n := 0) (by decide) (by decide +kernel) rfl) <|
  mi_cI (mi_put_ok (by decide +kernel) fl_X0_31 rfl rfl) <|
  mi_cI (mi_aload_n_ok (k := 0) (by decide +kernel) rfl rfl) <|
  mi_cI (mi_iconst_ok (n := 0) (by decide) (by decide +kernel) rfl) <|
  mi_cI (mi_put_ok (by decide +kernel) fl_X0_34 rfl rfl) <|
  mi_cR (Or.inl ⟨rfl, (by decide +kernel), rfl⟩) <| mi_cN
set_option maxRecDepth 100000 in
set_option maxHeartbeats 4000000 in
theorem ok_X0_start : ∀ q ∈ t_X0_start, mi_OkE mi_ms RX0 cX0_start 2 false none q :=
  mi_cI (mi_aload_n_ok (k := 0) (by decide +kernel) rfl rfl) <|
  mi_cI (mi_aload_n_ok (k := 1) (by decide +kernel) rfl rfl) <|
  mi_cI (mi_put_ok (by decide +kernel) fl_X0_9 rfl rfl) <|
  mi_cI (mi_aload_n_ok (k := 0) (by decide +kernel) rfl rfl) <|
  mi_cI (mi_iconst_ok (n := (-1)) (by decide) (by decide +kernel) rfl) <|
  mi_cI (mi_put_ok (by decide +kernel) fl_X0_15 rfl rfl) <|
  mi_cI (mi_aload_n_ok (k := 0) (by decide +kernel) rfl rfl) <|
  mi_cI (mi_iconst_ok (n := 0) (by decide) (by decide +kernel) rfl) <|
  mi_cI (mi_put_ok (by decide +kernel) fl_X0_22 rfl rfl) <|
  mi_cI (mi_aload_n_ok (k := 0) (by decide +kernel) rfl rfl) <|
  mi_cI (mi_iconst_ok (n := 0) (by decide) (by decide +kernel) rfl) <|
  mi_cI (mi_put_ok (by decide +kernel) fl_X0_28 rfl rfl) <|
  mi_cI (mi_aload_n_ok (k := 0) (by decide +kernel) rfl rfl) <|
  mi_cC ⟨m_X0_nextLine, rfl, okM_X0_nextLine, 37, 0, by decide +kernel, Or.inl ⟨(by decide +kernel), rfl, (mi_gd2 68 rfl rfl), (mi_gd2 69 rfl rfl), (mi_gd2 70 rfl rfl), 0, _, _, rfl, rfl⟩⟩ <|
  mi_cR (Or.inl ⟨rfl, (by decide +kernel), rfl⟩) <| mi_cN
set_option maxRecDepth 100000 in
set_option maxHeartbeats 4000000 in
theorem ok_X0_hasLine : ∀ q ∈ t_X0_hasLine, mi_OkE mi_ms RX0 cX0_hasLine 1 false (some .boolean) q :=
  mi_cI (mi_aload_n_ok (k := 0) (by decide +kernel) rfl rfl) <|
  mi_cI (mi_get_ok (by decide +kernel) fl_X0_15 rfl) <|
  mi_cI (mi_aload_n_ok (k := 0) (by decide +kernel) rfl rfl) <|
  mi_cI (mi_get_ok (by decide +kernel) fl_X0_9 rfl) <|
  mi_cI (mi_get_ok (by decide +kernel) fl_X0_40 rfl) <|
  mi_cI (mi_icmp_ge_ok (off := 7) (by decide +kernel) (by decide) rfl) <|
  mi_cI (mi_iconst_ok (n := 1) (by decide) (by decide +kernel) rfl) <|
  mi_cI (mi_goto_ok (off := 4) (by decide +kernel) (by decide)) <|
  mi_cI (mi_iconst_ok (n := 0) (by decide) (by decide +kernel) rfl) <|
  mi_cR (Or.inr (Or.inr (Or.inl ⟨rfl, (by decide +kernel), rfl⟩))) <| mi_cN
set_option maxRecDepth 100000 in
set_option maxHeartbeats 4000000 in
theorem ok_X0_nextLine : ∀ q ∈ t_X0_nextLine, mi_OkE mi_ms RX0 cX0_nextLine 1 false none q :=
  mi_cI (mi_aload_n_ok (k := 0) (by decide +kernel) rfl rfl) <|
  mi_cC ⟨m_X0_step, rfl, okM_X0_step, 45, 0, by decide +kernel, Or.inl ⟨(by decide +kernel), rfl, (mi_gd2 72 rfl rfl), (mi_gd2 73 rfl rfl), (mi_gd2 74 rfl rfl), 0, _, _, rfl, rfl⟩⟩ <|
  mi_cI (mi_aload_n_ok (k := 0) (by decide +kernel) rfl rfl) <|
  mi_cI (mi_dup_ok (by decide +kernel) rfl) <|
  mi_cI (mi_get_ok (by decide +kernel) fl_X0_22 rfl) <|
  mi_cI (mi_iconst_ok (n := 1) (by decide) (by decide +kernel) rfl) <|
  mi_cI (mi_iadd_ok (by decide +kernel) rfl) <|
  mi_cI (mi_put_ok (by decide +kernel) fl_X0_22 rfl rfl) <|
  mi_cI (mi_aload_n_ok (k := 0) (by decide +kernel) rfl rfl) <|
  mi_cI (mi_aload_n_ok (k := 0) (by decide +kernel) rfl rfl) <|
  mi_cI (mi_get_ok (by decide +kernel) fl_X0_15 rfl) <|
  mi_cI (mi_put_ok (by decide +kernel) fl_X0_25 rfl rfl) <|
  mi_cR (Or.inl ⟨rfl, (by decide +kernel), rfl⟩) <| mi_cN
set_option maxRecDepth 100000 in
set_option maxHeartbeats 4000000 in
theorem ok_X0_step : ∀ q ∈ t_X0_step, mi_OkE mi_ms RX0 cX0_step 2 false none q :=
  mi_cI (mi_aload_n_ok (k := 0) (by decide +kernel) rfl rfl) <|
  mi_cI (mi_dup_ok (by decide +kernel) rfl) <|
  mi_cI (mi_get_ok (by decide +kernel) fl_X0_15 rfl) <|
  mi_cI (mi_iconst_ok (n := 1) (by decide) (by decide +kernel) rfl) <|
  mi_cI (mi_iadd_ok (by decide +kernel) rfl) <|
  mi_cI (mi_put_ok (by decide +kernel) fl_X0_15 rfl rfl) <|
  mi_cI (mi_aload_n_ok (k := 0) (by decide +kernel) rfl rfl) <|
  mi_cI (mi_get_ok (by decide +kernel) fl_X0_15 rfl) <|
  mi_cI (mi_if_lt_ok (off := 36) (by decide +kernel) (by decide) rfl) <|
  mi_cI (mi_aload_n_ok (k := 0) (by decide +kernel) rfl rfl) <|
  mi_cI (mi_get_ok (by decide +kernel) fl_X0_15 rfl) <|
  mi_cI (mi_aload_n_ok (k := 0) (by decide +kernel) rfl rfl) <|
  mi_cI (mi_get_ok (by decide +kernel) fl_X0_9 rfl) <|
  mi_cI (mi_get_ok (by decide +kernel) fl_X0_40 rfl) <|
  mi_cI (mi_icmp_ge_ok (off := 22) (by decide +kernel) (by decide) rfl) <|
  mi_cI (mi_aload_n_ok (k := 0) (by decide +kernel) rfl rfl) <|
  mi_cI (mi_get_ok (by decide +kernel) fl_X0_15 rfl) <|
  mi_cI (mi_aload_n_ok (k := 0) (by decide +kernel) rfl rfl) <|
  mi_cI (mi_get_ok (by decide +kernel) fl_X0_9 rfl) <|
  mi_cI (mi_get_ok (by decide +kernel) fl_X0_48 rfl) <|
  mi_cI (mi_alen_ok (by decide +kernel) rfl) <|
  mi_cI (mi_icmp_ge_ok (off := 7) (by decide +kernel) (by decide) rfl) <|
  mi_cI (mi_iconst_ok (n := 1) (by decide) (by decide +kernel) rfl) <|
  mi_cI (mi_goto_ok (off := 4) (by decide +kernel) (by decide)) <|
  mi_cI (mi_iconst_ok (n := 0) (by decide) (by decide +kernel) rfl) <|
  mi_cI (mi_istore_n_ok (k := 1) (by decide +kernel) rfl (by decide) rfl) <|
  mi_cI (mi_aload_n_ok (k := 0) (by decide +kernel) rfl rfl) <|
  mi_cI (mi_iload_n_ok (k := 1) (by decide +kernel) rfl rfl) <|
  mi_cI (mi_if_eq_ok (off := 35) (by decide +kernel) (by decide) rfl) <|
  mi_cI (mi_aload_n_ok (k := 0) (by decide +kernel) rfl rfl) <|
  mi_cI (mi_get_ok (by decide +kernel) fl_X0_9 rfl) <|
  mi_cI (mi_get_ok (by decide +kernel) fl_X0_48 rfl) <|
  mi_cI (mi_aload_n_ok (k := 0) (by decide +kernel) rfl rfl) <|
  mi_cI (mi_get_ok (by decide +kernel) fl_X0_15 rfl) <|
  mi_cI (mi_iald_ok (by decide +kernel) rfl) <|
  mi_cI (mi_bipush_ok (n := 10) (by decide) (by decide +kernel) rfl) <|
  mi_cI (mi_icmp_eq_ok (off := 18) (by decide +kernel) (by decide) rfl) <|
  mi_cI (mi_aload_n_ok (k := 0) (by decide +kernel) rfl rfl) <|
  mi_cI (mi_get_ok (by decide +kernel) fl_X0_9 rfl) <|
  mi_cI (mi_get_ok (by decide +kernel) fl_X0_48 rfl) <|
  mi_cI (mi_aload_n_ok (k := 0) (by decide +kernel) rfl rfl) <|
  mi_cI (mi_get_ok (by decide +kernel) fl_X0_15 rfl) <|
  mi_cI (mi_iald_ok (by decide +kernel) rfl) <|
  mi_cI (mi_goto_ok (off := 4) (by decide +kernel) (by decide)) <|
  mi_cI (mi_iconst_ok (n := (-1)) (by decide) (by decide +kernel) rfl) <|
  mi_cI (mi_put_ok (by decide +kernel) fl_X0_19 rfl rfl) <|
  mi_cR (Or.inl ⟨rfl, (by decide +kernel), rfl⟩) <| mi_cN
set_option maxRecDepth 100000 in
set_option maxHeartbeats 4000000 in
theorem ok_X0_skipBlanks : ∀ q ∈ t_X0_skipBlanks, mi_OkE mi_ms RX0 cX0_skipBlanks 2 false none q :=
  mi_cI (mi_iconst_ok (n := 0) (by decide) (by decide +kernel) rfl) <|
  mi_cI (mi_istore_n_ok (k := 1) (by decide +kernel) rfl (by decide) rfl) <|
  mi_cI (mi_iload_n_ok (k := 1) (by decide +kernel) rfl rfl) <|
  mi_cI (mi_sipush_ok (n := 600) (by decide) (by decide +kernel) rfl) <|
  mi_cI (mi_icmp_ge_ok (off := 22) (by decide +kernel) (by decide) rfl) <|
  mi_cI (mi_aload_n_ok (k := 0) (by decide +kernel) rfl rfl) <|
  mi_cI (mi_get_ok (by decide +kernel) fl_X0_19 rfl) <|
  mi_cI (mi_bipush_ok (n := 32) (by decide) (by decide +kernel) rfl) <|
  mi_cI (mi_icmp_ne_ok (off := 13) (by decide +kernel) (by decide) rfl) <|
  mi_cI (mi_aload_n_ok (k := 0) (by decide +kernel) rfl rfl) <|
  mi_cC ⟨m_X0_step, rfl, okM_X0_step, 45, 0, by decide +kernel, Or.inl ⟨(by decide +kernel), rfl, (mi_gd2 72 rfl rfl), (mi_gd2 73 rfl rfl), (mi_gd2 74 rfl rfl), 0, _, _, rfl, rfl⟩⟩ <|
  mi_cI (mi_inc_ok (by decide +kernel) (by decide) rfl) <|
  mi_cI (mi_goto_ok (off := (-23)) (by decide +kernel) (by decide)) <|
  mi_cR (Or.inl ⟨rfl, (by decide +kernel), rfl⟩) <| mi_cN
set_option maxRecDepth 100000 in
set_option maxHeartbeats 4000000 in
theorem ok_X0_isWordEnd : ∀ q ∈ t_X0_isWordEnd, mi_OkE mi_ms RX0 cX0_isWordEnd 1 false (some .boolean) q :=
  mi_cI (mi_aload_n_ok (k := 0) (by decide +kernel) rfl rfl) <|
  mi_cI (mi_get_ok (by decide +kernel) fl_X0_19 rfl) <|
  mi_cI (mi_bipush_ok (n := 32) (by decide) (by decide +kernel) rfl) <|
  mi_cI (mi_icmp_eq_ok (off := 11) (by decide +kernel) (by decide) rfl) <|
  mi_cI (mi_aload_n_ok (k := 0) (by decide +kernel) rfl rfl) <|
  mi_cI (mi_get_ok (by decide +kernel) fl_X0_19 rfl) <|
  mi_cI (mi_iconst_ok (n := (-1)) (by decide) (by decide +kernel) rfl) <|
  mi_cI (mi_icmp_ne_ok (off := 7) (by decide +kernel) (by decide) rfl) <|
  mi_cI (mi_iconst_ok (n := 1) (by decide) (by decide +kernel) rfl) <|
  mi_cI (mi_goto_ok (off := 4) (by decide +kernel) (by decide)) <|
  mi_cI (mi_iconst_ok (n := 0) (by decide) (by decide +kernel) rfl) <|
  mi_cR (Or.inr (Or.inr (Or.inl ⟨rfl, (by decide +kernel), rfl⟩))) <| mi_cN
set_option maxRecDepth 100000 in
set_option maxHeartbeats 4000000 in
theorem ok_X0_placeOf : ∀ q ∈ t_X0_placeOf, mi_OkE mi_ms RX0 cX0_placeOf 2 false (some .int) q :=
  mi_cI (mi_iload_n_ok (k := 1) (by decide +kernel) rfl rfl) <|
  mi_cI (mi_aload_n_ok (k := 0) (by decide +kernel) rfl rfl) <|
  mi_cI (mi_get_ok (by decide +kernel) fl_X0_25 rfl) <|
  mi_cI (mi_isub_ok (by decide +kernel) rfl) <|
  mi_cI (mi_iconst_ok (n := 1) (by decide) (by decide +kernel) rfl) <|
  mi_cI (mi_iadd_ok (by decide +kernel) rfl) <|
  mi_cR (Or.inr (Or.inl ⟨rfl, (by decide +kernel), rfl⟩)) <| mi_cN
set_option maxRecDepth 100000 in
set_option maxHeartbeats 4000000 in
theorem ok_X0_wrong : ∀ q ∈ t_X0_wrong, mi_OkE mi_ms RX0 cX0_wrong 3 false (some .boolean) q :=
  mi_cI (mi_aload_n_ok (k := 0) (by decide +kernel) rfl rfl) <|
  mi_cI (mi_iload_n_ok (k := 1) (by decide +kernel) rfl rfl) <|
  mi_cI (mi_put_ok (by decide +kernel) fl_X0_28 rfl rfl) <|
  mi_cI (mi_aload_n_ok (k := 0) (by decide +kernel) rfl rfl) <|
  mi_cI (mi_aload_n_ok (k := 0) (by decide +kernel) rfl rfl) <|
  mi_cI (mi_get_ok (by decide +kernel) fl_X0_22 rfl) <|
  mi_cI (mi_put_ok (by decide +kernel) fl_X0_31 rfl rfl) <|
  mi_cI (mi_aload_n_ok (k := 0) (by decide +kernel) rfl rfl) <|
  mi_cI (mi_iload_n_ok (k := 2) (by decide +kernel) rfl rfl) <|
  mi_cI (mi_aload_n_ok (k := 0) (by decide +kernel) rfl rfl) <|
  mi_cI (mi_get_ok (by decide +kernel) fl_X0_25 rfl) <|
  mi_cI (mi_isub_ok (by decide +kernel) rfl) <|
  mi_cI (mi_iconst_ok (n := 1) (by decide) (by decide +kernel) rfl) <|
  mi_cI (mi_iadd_ok (by decide +kernel) rfl) <|
  mi_cI (mi_put_ok (by decide +kernel) fl_X0_34 rfl rfl) <|
  mi_cI (mi_iconst_ok (n := 0) (by decide) (by decide +kernel) rfl) <|
  mi_cR (Or.inr (Or.inr (Or.inl ⟨rfl, (by decide +kernel), rfl⟩))) <| mi_cN
set_option maxRecDepth 100000 in
set_option maxHeartbeats 4000000 in
theorem ok_X0_wrongElsewhere : ∀ q ∈ t_X0_wrongElsewhere, mi_OkE mi_ms RX0 cX0_wrongElsewhere 4 false (some .boolean) q :=
  mi_cI (mi_aload_n_ok (k := 0) (by decide +kernel) rfl rfl) <|
  mi_cI (mi_iload_n_ok (k := 1) (by decide +kernel) rfl rfl) <|
  mi_cI (mi_put_ok (by decide +kernel) fl_X0_28 rfl rfl) <|
  mi_cI (mi_aload_n_ok (k := 0) (by decide +kernel) rfl rfl) <|
  mi_cI (mi_iload_n_ok (k := 2) (by decide +kernel) rfl rfl) <|
  mi_cI (mi_put_ok (by decide +kernel) fl_X0_31 rfl rfl) <|
  mi_cI (mi_aload_n_ok (k := 0) (by decide +kernel) rfl rfl) <|
  mi_cI (mi_iload_n_ok (k := 3) (by decide +kernel) rfl rfl) <|
  mi_cI (mi_put_ok (by decide +kernel) fl_X0_34 rfl rfl) <|
  mi_cI (mi_iconst_ok (n := 0) (by decide) (by decide +kernel) rfl) <|
  mi_cR (Or.inr (Or.inr (Or.inl ⟨rfl, (by decide +kernel), rfl⟩))) <| mi_cN
set_option maxRecDepth 100000 in
set_option maxHeartbeats 4000000 in
theorem ok_X1_init : ∀ q ∈ t_X1_init, mi_OkE mi_ms RX1 cX1_init 1 true none q :=
  mi_cI (mi_aload_n_ok (k := 0) (by decide +kernel) rfl rfl) <|
  mi_cI (mi_obj_ok (index := 3) (by decide +kernel) (mi_gd1 65 rfl rfl) (mi_gd1 24 rfl rfl) (mi_gd1 25 rfl rfl) rfl) <|
  mi_cI (mi_aload_n_ok (k := 0) (by decide +kernel) rfl rfl) <|
  mi_cI (mi_new_ok (index := 9) (by decide +kernel) cf_X3 (mi_gd1 66 rfl rfl) (mi_gd1 27 rfl rfl) (mi_gd1 2 rfl rfl) (by decide +kernel) (by decide +kernel) rfl) <|
  mi_cI (mi_dup_ok (by decide +kernel) rfl) <|
  mi_cI (mi_sipush_ok (n := 600) (by decide) (by decide +kernel) rfl) <|
  mi_cC ⟨m_X3_init, rfl, okM_X3_init, 11, 1, by decide +kernel, Or.inr (Or.inl ⟨(by decide +kernel), rfl, (mi_gd1 67 rfl rfl), (mi_gd1 29 rfl rfl), rfl, rfl, 3, rfl⟩)⟩ <|
  mi_cI (mi_putF_ok (by decide +kernel) fl_X1_14 rfl rfl (fun C T N h => by cases h; rfl) (fun C T N h => by cases h; exact (mi_gd1 92 rfl rfl)) rfl) <|
  mi_cI (mi_aload_n_ok (k := 0) (by decide +kernel) rfl rfl) <|
  mi_cI (mi_new_ok (index := 20) (by decide +kernel) cf_X4 (mi_gd1 68 rfl rfl) (mi_gd1 69 rfl rfl) (mi_gd1 6 rfl rfl) (by decide +kernel) (by decide +kernel) rfl) <|
  mi_cI (mi_dup_ok (by decide +kernel) rfl) <|
  mi_cI (mi_aload_n_ok (k := 0) (by decide +kernel) rfl rfl) <|
  mi_cI (mi_get_ok (by decide +kernel) fl_X1_14 rfl) <|
  mi_cI (mi_bipush_ok (n := 30) (by decide) (by decide +kernel) rfl) <|
  mi_cC ⟨m_X4_init, rfl, okM_X4_init, 22, 2, by decide +kernel, Or.inr (Or.inl ⟨(by decide +kernel), rfl, (mi_gd1 70 rfl rfl), (mi_gd1 71 rfl rfl), rfl, rfl, 4, rfl⟩)⟩ <|
  mi_cI (mi_putF_ok (by decide +kernel) fl_X1_25 rfl rfl (fun C T N h => by cases h; rfl) (fun C T N h => by cases h; exact (mi_gd1 94 rfl rfl)) rfl) <|
  mi_cI (mi_aload_n_ok (k := 0) (by decide +kernel) rfl rfl) <|
  mi_cI (mi_new_ok (index := 20) (by decide +kernel) cf_X4 (mi_gd1 68 rfl rfl) (mi_gd1 69 rfl rfl) (mi_gd1 6 rfl rfl) (by decide +kernel) (by decide +kernel) rfl) <|
  mi_cI (mi_dup_ok (by decide +kernel) rfl) <|
  mi_cI (mi_aload_n_ok (k := 0) (by decide +kernel) rfl rfl) <|
  mi_cI (mi_get_ok (by decide +kernel) fl_X1_14 rfl) <|
  mi_cI (mi_iconst_ok (n := 3) (by decide) (by decide +kernel) rfl) <|
  mi_cC ⟨m_X4_init, rfl, okM_X4_init, 22, 2, by decide +kernel, Or.inr (Or.inl ⟨(by decide +kernel), rfl, (mi_gd1 70 rfl rfl), (mi_gd1 71 rfl rfl), rfl, rfl, 4, rfl⟩)⟩ <|
  mi_cI (mi_putF_ok (by decide +kernel) fl_X1_29 rfl rfl (fun C T N h => by cases h; rfl) (fun C T N h => by cases h; exact (mi_gd1 98 rfl rfl)) rfl) <|
  mi_cI (mi_aload_n_ok (k := 0) (by decide +kernel) rfl rfl) <|
  mi_cI (mi_new_ok (index := 20) (by decide +kernel) cf_X4 (mi_gd1 68 rfl rfl) (mi_gd1 69 rfl rfl) (mi_gd1 6 rfl rfl) (by decide +kernel) (by decide +kernel) rfl) <|
  mi_cI (mi_dup_ok (by decide +kernel) rfl) <|
  mi_cI (mi_aload_n_ok (k := 0) (by decide +kernel) rfl rfl) <|
  mi_cI (mi_get_ok (by decide +kernel) fl_X1_14 rfl) <|
  mi_cI (mi_sipush_ok (n := 300) (by decide) (by decide +kernel) rfl) <|
  mi_cC ⟨m_X4_init, rfl, okM_X4_init, 22, 2, by decide +kernel, Or.inr (Or.inl ⟨(by decide +kernel), rfl, (mi_gd1 70 rfl rfl), (mi_gd1 71 rfl rfl), rfl, rfl, 4, rfl⟩)⟩ <|
  mi_cI (mi_putF_ok (by decide +kernel) fl_X1_32 rfl rfl (fun C T N h => by cases h; rfl) (fun C T N h => by cases h; exact (mi_gd1 102 rfl rfl)) rfl) <|
  mi_cI (mi_aload_n_ok (k := 0) (by decide +kernel) rfl rfl) <|
  mi_cI (mi_new_ok (index := 9) (by decide +kernel) cf_X3 (mi_gd1 66 rfl rfl) (mi_gd1 27 rfl rfl) (mi_gd1 2 rfl rfl) (by decide +kernel) (by decide +kernel) rfl) <|
  mi_cI (mi_dup_ok (by decide +kernel) rfl) <|
  mi_cI (mi_iconst_ok (n := 3) (by decide) (by decide +kernel) rfl) <|
  mi_cC ⟨m_X3_init, rfl, okM_X3_init, 11, 1, by decide +kernel, Or.inr (Or.inl ⟨(by decide +kernel), rfl, (mi_gd1 67 rfl rfl), (mi_gd1 29 rfl rfl), rfl, rfl, 3, rfl⟩)⟩ <|
  mi_cI (mi_putF_ok (by decide +kernel) fl_X1_35 rfl rfl (fun C T N h => by cases h; rfl) (fun C T N h => by cases h; exact (mi_gd1 106 rfl rfl)) rfl) <|
  mi_cI (mi_aload_n_ok (k := 0) (by decide +kernel) rfl rfl) <|
  mi_cI (mi_new_ok (index := 9) (by decide +kernel) cf_X3 (mi_gd1 66 rfl rfl) (mi_gd1 27 rfl rfl) (mi_gd1 2 rfl rfl) (by decide +kernel) (by decide +kernel) rfl) <|
  mi_cI (mi_dup_ok (by decide +kernel) rfl) <|
  mi_cI (mi_bipush_ok (n := 40) (by decide) (by decide +kernel) rfl) <|
  mi_cC ⟨m_X3_init, rfl, okM_X3_init, 11, 1, by decide +kernel, Or.inr (Or.inl ⟨(by decide +kernel), rfl, (mi_gd1 67 rfl rfl), (mi_gd1 29 rfl rfl), rfl, rfl, 3, rfl⟩)⟩ <|
  mi_cI (mi_putF_ok (by decide +kernel) fl_X1_38 rfl rfl (fun C T N h => by cases h; rfl) (fun C T N h => by cases h; exact (mi_gd1 110 rfl rfl)) rfl) <|
  mi_cI (mi_aload_n_ok (k := 0) (by decide +kernel) rfl rfl) <|
  mi_cI (mi_new_ok (index := 9) (by decide +kernel) cf_X3 (mi_gd1 66 rfl rfl) (mi_gd1 27 rfl rfl) (mi_gd1 2 rfl rfl) (by decide +kernel) (by decide +kernel) rfl) <|
  mi_cI (mi_dup_ok (by decide +kernel) rfl) <|
  mi_cI (mi_bipush_ok (n := 40) (by decide) (by decide +kernel) rfl) <|
  mi_cC ⟨m_X3_init, rfl, okM_X3_init, 11, 1, by decide +kernel, Or.inr (Or.inl ⟨(by decide +kernel), rfl, (mi_gd1 67 rfl rfl), (mi_gd1 29 rfl rfl), rfl, rfl, 3, rfl⟩)⟩ <|
  mi_cI (mi_putF_ok (by decide +kernel) fl_X1_41 rfl rfl (fun C T N h => by cases h; rfl) (fun C T N h => by cases h; exact (mi_gd1 113 rfl rfl)) rfl) <|
  mi_cI (mi_aload_n_ok (k := 0) (by decide +kernel) rfl rfl) <|
  mi_cI (mi_new_ok (index := 9) (by decide +kernel) cf_X3 (mi_gd1 66 rfl rfl) (mi_gd1 27 rfl rfl) (mi_gd1 2 rfl rfl) (by decide +kernel) (by decide +kernel) rfl) <|
  mi_cI (mi_dup_ok (by decide +kernel) rfl) <|
  mi_cI (mi_bipush_ok (n := 40) (by decide) (by decide +kernel) rfl) <|
  mi_cC ⟨m_X3_init, rfl, okM_X3_init, 11, 1, by decide +kernel, Or.inr (Or.inl ⟨(by decide +kernel), rfl, (mi_gd1 67 rfl rfl), (mi_gd1 29 rfl rfl), rfl, rfl, 3, rfl⟩)⟩ <|
  mi_cI (mi_putF_ok (by decide +kernel) fl_X1_44 rfl rfl (fun C T N h => by cases h; rfl) (fun C T N h => by cases h; exact (mi_gd1 116 rfl rfl)) rfl) <|
  mi_cI (mi_aload_n_ok (k := 0) (by decide +kernel) rfl rfl) <|
  mi_cI (mi_new_ok (index := 20) (by decide +kernel) cf_X4 (mi_gd1 68 rfl rfl) (mi_gd1 69 rfl rfl) (mi_gd1 6 rfl rfl) (by decide +kernel) (by decide +kernel) rfl) <|
  mi_cI (mi_dup_ok (by decide +kernel) rfl) <|
  mi_cI (mi_aload_n_ok (k := 0) (by decide +kernel) rfl rfl) <|
  mi_cI (mi_get_ok (by decide +kernel) fl_X1_14 rfl) <|
  mi_cI (mi_bipush_ok (n := 123) (by decide) (by decide +kernel) rfl) <|
  mi_cC ⟨m_X4_init, rfl, okM_X4_init, 22, 2, by decide +kernel, Or.inr (Or.inl ⟨(by decide +kernel), rfl, (mi_gd1 70 rfl rfl), (mi_gd1 71 rfl rfl), rfl, rfl, 4, rfl⟩)⟩ <|
  mi_cI (mi_putF_ok (by decide +kernel) fl_X1_47 rfl rfl (fun C T N h => by cases h; rfl) (fun C T N h => by cases h; exact (mi_gd1 118 rfl rfl)) rfl) <|
  mi_cI (mi_aload_n_ok (k := 0) (by decide +kernel) rfl rfl) <|
  mi_cI (mi_new_ok (index := 9) (by decide +kernel) cf_X3 (mi_gd1 66 rfl rfl) (mi_gd1 27 rfl rfl) (mi_gd1 2 rfl rfl) (by decide +kernel) (by decide +kernel) rfl) <|
  mi_cI (mi_dup_ok (by decide +kernel) rfl) <|
  mi_cI (mi_bipush_ok (n := 123) (by decide) (by decide +kernel) rfl) <|
  mi_cC ⟨m_X3_init, rfl, okM_X3_init, 11, 1, by decide +kernel, Or.inr (Or.inl ⟨(by decide +kernel), rfl, (mi_gd1 67 rfl rfl), (mi_gd1 29 rfl rfl), rfl, rfl, 3, rfl⟩)⟩ <|
  mi_cI (mi_putF_ok (by decide +kernel) fl_X1_50 rfl rfl (fun C T N h => by cases h; rfl) (fun C T N h => by cases h; exact (mi_gd1 121 rfl rfl)) rfl) <|
  mi_cI (mi_aload_n_ok (k := 0) (by decide +kernel) rfl rfl) <|
  mi_cI (mi_new_ok (index := 9) (by decide +kernel) cf_X3 (mi_gd1 66 rfl rfl) (mi_gd1 27 rfl rfl) (mi_gd1 2 rfl rfl) (by decide +kernel) (by decide +kernel) rfl) <|
  mi_cI (mi_dup_ok (by decide +kernel) rfl) <|
  mi_cI (mi_bipush_ok (n := 123) (by decide) (by decide +kernel) rfl) <|
  mi_cC ⟨m_X3_init, rfl, okM_X3_init, 11, 1, by decide +kernel, Or.inr (Or.inl ⟨(by decide +kernel), rfl, (mi_gd1 67 rfl rfl), (mi_gd1 29 rfl rfl), rfl, rfl, 3, rfl⟩)⟩ <|
  mi_cI (mi_putF_ok (by decide +kernel) fl_X1_53 rfl rfl (fun C T N h => by cases h; rfl) (fun C T N h => by cases h; exact (mi_gd1 124 rfl rfl)) rfl) <|
  mi_cI (mi_aload_n_ok (k := 0) (by decide +kernel) rfl rfl) <|
  mi_cI (mi_new_ok (index := 9) (by decide +kernel) cf_X3 (mi_gd1 66 rfl rfl) (mi_gd1 27 rfl rfl) (mi_gd1 2 rfl rfl) (by decide +kernel) (by decide +kernel) rfl) <|
  mi_cI (mi_dup_ok (by decide +kernel) rfl) <|
  mi_cI (mi_sipush_ok (n := 300) (by decide) (by decide +kernel) rfl) <|
  mi_cC ⟨m_X3_init, rfl, okM_X3_init, 11, 1, by decide +kernel, Or.inr (Or.inl ⟨(by decide +kernel), rfl, (mi_gd1 67 rfl rfl), (mi_gd1 29 rfl rfl), rfl, rfl, 3, rfl⟩)⟩ <|
  mi_cI (mi_putF_ok (by decide +kernel) fl_X1_56 rfl rfl (fun C T N h => by cases h; rfl) (fun C T N h => by cases h; exact (mi_gd1 127 rfl rfl)) rfl) <|
  mi_cI (mi_aload_n_ok (k := 0) (by decide +kernel) rfl rfl) <|
  mi_cI (mi_iconst_ok (n := 0) (by decide) (by decide +kernel) rfl) <|
  mi_cI (mi_put_ok (by decide +kernel) fl_X1_59 rfl rfl) <|
  mi_cI (mi_aload_n_ok (k := 0) (by decide +kernel) rfl rfl) <|
  mi_cI (mi_iconst_ok (n := 0) (by decide) (by decide +kernel) rfl) <|
  mi_cI (mi_put_ok (by decide +kernel) fl_X1_63 rfl rfl) <|
  mi_cI (mi_aload_n_ok (k := 0) (by decide +kernel) rfl rfl) <|
  mi_cI (mi_iconst_ok (n := 0) (by decide) (by decide +kernel) rfl) <|
  mi_cI (mi_put_ok (by decide +kernel) fl_X1_66 rfl rfl) <|
  mi_cR (Or.inl ⟨rfl, (by decide +kernel), rfl⟩) <| mi_cN
set_option maxRecDepth 100000 in
set_option maxHeartbeats 4000000 in
theorem ok_X1_clear : ∀ q ∈ t_X1_clear, mi_OkE mi_ms RX1 cX1_clear 1 false none q :=
  mi_cI (mi_aload_n_ok (k := 0) (by decide +kernel) rfl rfl) <|
  mi_cI (mi_get_ok (by decide +kernel) fl_X1_14 rfl) <|
  mi_cC ⟨m_X3_clear, rfl, okM_X3_clear, 69, 0, by decide +kernel, Or.inl ⟨(by decide +kernel), rfl, (mi_gd2 80 rfl rfl), (mi_gd2 81 rfl rfl), (mi_gd2 82 rfl rfl), 3, _, _, rfl, rfl⟩⟩ <|
  mi_cI (mi_aload_n_ok (k := 0) (by decide +kernel) rfl rfl) <|
  mi_cI (mi_get_ok (by decide +kernel) fl_X1_25 rfl) <|
  mi_cC ⟨m_X4_clear, rfl, okM_X4_clear, 72, 0, by decide +kernel, Or.inl ⟨(by decide +kernel), rfl, (mi_gd2 84 rfl rfl), (mi_gd2 85 rfl rfl), (mi_gd2 86 rfl rfl), 4, _, _, rfl, rfl⟩⟩ <|
  mi_cI (mi_aload_n_ok (k := 0) (by decide +kernel) rfl rfl) <|
  mi_cI (mi_get_ok (by decide +kernel) fl_X1_29 rfl) <|
  mi_cC ⟨m_X4_clear, rfl, okM_X4_clear, 72, 0, by decide +kernel, Or.inl ⟨(by decide +kernel), rfl, (mi_gd2 84 rfl rfl), (mi_gd2 85 rfl rfl), (mi_gd2 86 rfl rfl), 4, _, _, rfl, rfl⟩⟩ <|
  mi_cI (mi_aload_n_ok (k := 0) (by decide +kernel) rfl rfl) <|
  mi_cI (mi_get_ok (by decide +kernel) fl_X1_32 rfl) <|
  mi_cC ⟨m_X4_clear, rfl, okM_X4_clear, 72, 0, by decide +kernel, Or.inl ⟨(by decide +kernel), rfl, (mi_gd2 84 rfl rfl), (mi_gd2 85 rfl rfl), (mi_gd2 86 rfl rfl), 4, _, _, rfl, rfl⟩⟩ <|
  mi_cI (mi_aload_n_ok (k := 0) (by decide +kernel) rfl rfl) <|
  mi_cI (mi_get_ok (by decide +kernel) fl_X1_35 rfl) <|
  mi_cC ⟨m_X3_clear, rfl, okM_X3_clear, 69, 0, by decide +kernel, Or.inl ⟨(by decide +kernel), rfl, (mi_gd2 80 rfl rfl), (mi_gd2 81 rfl rfl), (mi_gd2 82 rfl rfl), 3, _, _, rfl, rfl⟩⟩ <|
  mi_cI (mi_aload_n_ok (k := 0) (by decide +kernel) rfl rfl) <|
  mi_cI (mi_get_ok (by decide +kernel) fl_X1_38 rfl) <|
  mi_cC ⟨m_X3_clear, rfl, okM_X3_clear, 69, 0, by decide +kernel, Or.inl ⟨(by decide +kernel), rfl, (mi_gd2 80 rfl rfl), (mi_gd2 81 rfl rfl), (mi_gd2 82 rfl rfl), 3, _, _, rfl, rfl⟩⟩ <|
  mi_cI (mi_aload_n_ok (k := 0) (by decide +kernel) rfl rfl) <|
  mi_cI (mi_get_ok (by decide +kernel) fl_X1_41 rfl) <|
  mi_cC ⟨m_X3_clear, rfl, okM_X3_clear, 69, 0, by decide +kernel, Or.inl ⟨(by decide +kernel), rfl, (mi_gd2 80 rfl rfl), (mi_gd2 81 rfl rfl), (mi_gd2 82 rfl rfl), 3, _, _, rfl, rfl⟩⟩ <|
  mi_cI (mi_aload_n_ok (k := 0) (by decide +kernel) rfl rfl) <|
  mi_cI (mi_get_ok (by decide +kernel) fl_X1_44 rfl) <|
  mi_cC ⟨m_X3_clear, rfl, okM_X3_clear, 69, 0, by decide +kernel, Or.inl ⟨(by decide +kernel), rfl, (mi_gd2 80 rfl rfl), (mi_gd2 81 rfl rfl), (mi_gd2 82 rfl rfl), 3, _, _, rfl, rfl⟩⟩ <|
  mi_cI (mi_aload_n_ok (k := 0) (by decide +kernel) rfl rfl) <|
  mi_cI (mi_get_ok (by decide +kernel) fl_X1_47 rfl) <|
  mi_cC ⟨m_X4_clear, rfl, okM_X4_clear, 72, 0, by decide +kernel, Or.inl ⟨(by decide +kernel), rfl, (mi_gd2 84 rfl rfl), (mi_gd2 85 rfl rfl), (mi_gd2 86 rfl rfl), 4, _, _, rfl, rfl⟩⟩ <|
  mi_cI (mi_aload_n_ok (k := 0) (by decide +kernel) rfl rfl) <|
  mi_cI (mi_get_ok (by decide +kernel) fl_X1_50 rfl) <|
  mi_cC ⟨m_X3_clear, rfl, okM_X3_clear, 69, 0, by decide +kernel, Or.inl ⟨(by decide +kernel), rfl, (mi_gd2 80 rfl rfl), (mi_gd2 81 rfl rfl), (mi_gd2 82 rfl rfl), 3, _, _, rfl, rfl⟩⟩ <|
  mi_cI (mi_aload_n_ok (k := 0) (by decide +kernel) rfl rfl) <|
  mi_cI (mi_get_ok (by decide +kernel) fl_X1_53 rfl) <|
  mi_cC ⟨m_X3_clear, rfl, okM_X3_clear, 69, 0, by decide +kernel, Or.inl ⟨(by decide +kernel), rfl, (mi_gd2 80 rfl rfl), (mi_gd2 81 rfl rfl), (mi_gd2 82 rfl rfl), 3, _, _, rfl, rfl⟩⟩ <|
  mi_cI (mi_aload_n_ok (k := 0) (by decide +kernel) rfl rfl) <|
  mi_cI (mi_get_ok (by decide +kernel) fl_X1_56 rfl) <|
  mi_cC ⟨m_X3_clear, rfl, okM_X3_clear, 69, 0, by decide +kernel, Or.inl ⟨(by decide +kernel), rfl, (mi_gd2 80 rfl rfl), (mi_gd2 81 rfl rfl), (mi_gd2 82 rfl rfl), 3, _, _, rfl, rfl⟩⟩ <|
  mi_cI (mi_aload_n_ok (k := 0) (by decide +kernel) rfl rfl) <|
  mi_cI (mi_iconst_ok (n := 0) (by decide) (by decide +kernel) rfl) <|
  mi_cI (mi_put_ok (by decide +kernel) fl_X1_59 rfl rfl) <|
  mi_cI (mi_aload_n_ok (k := 0) (by decide +kernel) rfl rfl) <|
  mi_cI (mi_iconst_ok (n := 0) (by decide) (by decide +kernel) rfl) <|
  mi_cI (mi_put_ok (by decide +kernel) fl_X1_63 rfl rfl) <|
  mi_cI (mi_aload_n_ok (k := 0) (by decide +kernel) rfl rfl) <|
  mi_cI (mi_iconst_ok (n := 0) (by decide) (by decide +kernel) rfl) <|
  mi_cI (mi_put_ok (by decide +kernel) fl_X1_66 rfl rfl) <|
  mi_cR (Or.inl ⟨rfl, (by decide +kernel), rfl⟩) <| mi_cN
set_option maxRecDepth 100000 in
set_option maxHeartbeats 4000000 in
theorem ok_X1_arcCount : ∀ q ∈ t_X1_arcCount, mi_OkE mi_ms RX1 cX1_arcCount 1 false (some .int) q :=
  mi_cI (mi_aload_n_ok (k := 0) (by decide +kernel) rfl rfl) <|
  mi_cI (mi_get_ok (by decide +kernel) fl_X1_38 rfl) <|
  mi_cI (mi_get_ok (by decide +kernel) fl_X1_73 rfl) <|
  mi_cR (Or.inr (Or.inl ⟨rfl, (by decide +kernel), rfl⟩)) <| mi_cN
set_option maxRecDepth 100000 in
set_option maxHeartbeats 4000000 in
theorem ok_X1_hasValue : ∀ q ∈ t_X1_hasValue, mi_OkE mi_ms RX1 cX1_hasValue 3 false (some .boolean) q :=
  mi_cI (mi_aload_n_ok (k := 0) (by decide +kernel) rfl rfl) <|
  mi_cI (mi_get_ok (by decide +kernel) fl_X1_38 rfl) <|
  mi_cI (mi_iload_n_ok (k := 1) (by decide +kernel) rfl rfl) <|
  mi_cC ⟨m_X3_has, rfl, okM_X3_has, 76, 1, by decide +kernel, Or.inl ⟨(by decide +kernel), rfl, (mi_gd4 63 rfl rfl), (mi_gd3 61 rfl rfl), (mi_gd3 62 rfl rfl), 3, _, _, rfl, rfl⟩⟩ <|
  mi_cI (mi_if_eq_ok (off := 18) (by decide +kernel) (by decide) rfl) <|
  mi_cI (mi_aload_n_ok (k := 0) (by decide +kernel) rfl rfl) <|
  mi_cI (mi_get_ok (by decide +kernel) fl_X1_29 rfl) <|
  mi_cI (mi_iload_n_ok (k := 2) (by decide +kernel) rfl rfl) <|
  mi_cC ⟨m_X4_has, rfl, okM_X4_has, 80, 1, by decide +kernel, Or.inl ⟨(by decide +kernel), rfl, (mi_gd4 64 rfl rfl), (mi_gd3 237 rfl rfl), (mi_gd3 238 rfl rfl), 4, _, _, rfl, rfl⟩⟩ <|
  mi_cI (mi_if_eq_ok (off := 7) (by decide +kernel) (by decide) rfl) <|
  mi_cI (mi_iconst_ok (n := 1) (by decide) (by decide +kernel) rfl) <|
  mi_cI (mi_goto_ok (off := 4) (by decide +kernel) (by decide)) <|
  mi_cI (mi_iconst_ok (n := 0) (by decide) (by decide +kernel) rfl) <|
  mi_cR (Or.inr (Or.inr (Or.inl ⟨rfl, (by decide +kernel), rfl⟩))) <| mi_cN
set_option maxRecDepth 100000 in
set_option maxHeartbeats 4000000 in
theorem ok_X1_roomOf : ∀ q ∈ t_X1_roomOf, mi_OkE mi_ms RX1 cX1_roomOf 3 false (some .int) q :=
  mi_cI (mi_iload_n_ok (k := 1) (by decide +kernel) rfl rfl) <|
  mi_cI (mi_aload_n_ok (k := 0) (by decide +kernel) rfl rfl) <|
  mi_cI (mi_get_ok (by decide +kernel) fl_X1_29 rfl) <|
  mi_cI (mi_get_ok (by decide +kernel) fl_X1_81 rfl) <|
  mi_cI (mi_imul_ok (by decide +kernel) rfl) <|
  mi_cI (mi_iload_n_ok (k := 2) (by decide +kernel) rfl rfl) <|
  mi_cI (mi_iadd_ok (by decide +kernel) rfl) <|
  mi_cR (Or.inr (Or.inl ⟨rfl, (by decide +kernel), rfl⟩)) <| mi_cN
set_option maxRecDepth 100000 in
set_option maxHeartbeats 4000000 in
theorem ok_X1_missingOf : ∀ q ∈ t_X1_missingOf, mi_OkE mi_ms RX1 cX1_missingOf 4 false (some .int) q :=
  mi_cI (mi_iconst_ok (n := 0) (by decide) (by decide +kernel) rfl) <|
  mi_cI (mi_istore_n_ok (k := 2) (by decide +kernel) rfl (by decide) rfl) <|
  mi_cI (mi_iconst_ok (n := 0) (by decide) (by decide +kernel) rfl) <|
  mi_cI (mi_istore_n_ok (k := 3) (by decide +kernel) rfl (by decide) rfl) <|
  mi_cI (mi_iload_n_ok (k := 3) (by decide +kernel) rfl rfl) <|
  mi_cI (mi_aload_n_ok (k := 0) (by decide +kernel) rfl rfl) <|
  mi_cI (mi_get_ok (by decide +kernel) fl_X1_29 rfl) <|
  mi_cI (mi_get_ok (by decide +kernel) fl_X1_81 rfl) <|
  mi_cI (mi_icmp_ge_ok (off := 28) (by decide +kernel) (by decide) rfl) <|
  mi_cI (mi_aload_n_ok (k := 0) (by decide +kernel) rfl rfl) <|
  mi_cI (mi_get_ok (by decide +kernel) fl_X1_50 rfl) <|
  mi_cI (mi_aload_n_ok (k := 0) (by decide +kernel) rfl rfl) <|
  mi_cI (mi_iload_n_ok (k := 1) (by decide +kernel) rfl rfl) <|
  mi_cI (mi_iload_n_ok (k := 3) (by decide +kernel) rfl rfl) <|
  mi_cC ⟨m_X1_roomOf, rfl, okM_X1_roomOf, 84, 2, by decide +kernel, Or.inl ⟨(by decide +kernel), rfl, (mi_gd2 236 rfl rfl), (mi_gd2 237 rfl rfl), (mi_gd2 238 rfl rfl), 1, _, _, rfl, rfl⟩⟩ <|
  mi_cC ⟨m_X3_at, rfl, okM_X3_at, 88, 1, by decide +kernel, Or.inl ⟨(by decide +kernel), rfl, (mi_gd2 188 rfl rfl), (mi_gd2 170 rfl rfl), (mi_gd2 171 rfl rfl), 3, _, _, rfl, rfl⟩⟩ <|
  mi_cI (mi_if_ne_ok (off := 6) (by decide +kernel) (by decide) rfl) <|
  mi_cI (mi_inc_ok (by decide +kernel) (by decide) rfl) <|
  mi_cI (mi_inc_ok (by decide +kernel) (by decide) rfl) <|
  mi_cI (mi_goto_ok (off := (-33)) (by decide +kernel) (by decide)) <|
  mi_cI (mi_iload_n_ok (k := 2) (by decide +kernel) rfl rfl) <|
  mi_cR (Or.inr (Or.inl ⟨rfl, (by decide +kernel), rfl⟩)) <| mi_cN
set_option maxRecDepth 100000 in
set_option maxHeartbeats 4000000 in
theorem ok_X1_hasArc : ∀ q ∈ t_X1_hasArc, mi_OkE mi_ms RX1 cX1_hasArc 4 false (some .boolean) q :=
  mi_cI (mi_iconst_ok (n := 0) (by decide) (by decide +kernel) rfl) <|
  mi_cI (mi_istore_n_ok (k := 3) (by decide +kernel) rfl (by decide) rfl) <|
  mi_cI (mi_iload_n_ok (k := 3) (by decide +kernel) rfl rfl) <|
  mi_cI (mi_aload_n_ok (k := 0) (by decide +kernel) rfl rfl) <|
  mi_cI (mi_get_ok (by decide +kernel) fl_X1_38 rfl) <|
  mi_cI (mi_get_ok (by decide +kernel) fl_X1_73 rfl) <|
  mi_cI (mi_icmp_ge_ok (off := 35) (by decide +kernel) (by decide) rfl) <|
  mi_cI (mi_aload_n_ok (k := 0) (by decide +kernel) rfl rfl) <|
  mi_cI (mi_get_ok (by decide +kernel) fl_X1_38 rfl) <|
  mi_cI (mi_iload_n_ok (k := 3) (by decide +kernel) rfl rfl) <|
  mi_cC ⟨m_X3_at, rfl, okM_X3_at, 88, 1, by decide +kernel, Or.inl ⟨(by decide +kernel), rfl, (mi_gd2 188 rfl rfl), (mi_gd2 170 rfl rfl), (mi_gd2 171 rfl rfl), 3, _, _, rfl, rfl⟩⟩ <|
  mi_cI (mi_iload_n_ok (k := 1) (by decide +kernel) rfl rfl) <|
  mi_cI (mi_icmp_ne_ok (off := 17) (by decide +kernel) (by decide) rfl) <|
  mi_cI (mi_aload_n_ok (k := 0) (by decide +kernel) rfl rfl) <|
  mi_cI (mi_get_ok (by decide +kernel) fl_X1_41 rfl) <|
  mi_cI (mi_iload_n_ok (k := 3) (by decide +kernel) rfl rfl) <|
  mi_cC ⟨m_X3_at, rfl, okM_X3_at, 88, 1, by decide +kernel, Or.inl ⟨(by decide +kernel), rfl, (mi_gd2 188 rfl rfl), (mi_gd2 170 rfl rfl), (mi_gd2 171 rfl rfl), 3, _, _, rfl, rfl⟩⟩ <|
  mi_cI (mi_iload_n_ok (k := 2) (by decide +kernel) rfl rfl) <|
  mi_cI (mi_icmp_ne_ok (off := 5) (by decide +kernel) (by decide) rfl) <|
  mi_cI (mi_iconst_ok (n := 1) (by decide) (by decide +kernel) rfl) <|
  mi_cR (Or.inr (Or.inr (Or.inl ⟨rfl, (by decide +kernel), rfl⟩))) <|
  mi_cI (mi_inc_ok (by decide +kernel) (by decide) rfl) <|
  mi_cI (mi_goto_ok (off := (-40)) (by decide +kernel) (by decide)) <|
  mi_cI (mi_iconst_ok (n := 0) (by decide) (by decide +kernel) rfl) <|
  mi_cR (Or.inr (Or.inr (Or.inl ⟨rfl, (by decide +kernel), rfl⟩))) <| mi_cN
set_option maxRecDepth 100000 in
set_option maxHeartbeats 4000000 in
theorem ok_X1_addArc : ∀ q ∈ t_X1_addArc, mi_OkE mi_ms RX1 cX1_addArc 4 false none q :=
  mi_cI (mi_aload_n_ok (k := 0) (by decide +kernel) rfl rfl) <|
  mi_cI (mi_get_ok (by decide +kernel) fl_X1_38 rfl) <|
  mi_cI (mi_iload_n_ok (k := 1) (by decide +kernel) rfl rfl) <|
  mi_cC ⟨m_X3_add, rfl, okM_X3_add, 92, 1, by decide +kernel, Or.inl ⟨(by decide +kernel), rfl, (mi_gd2 226 rfl rfl), (mi_gd2 53 rfl rfl), (mi_gd2 54 rfl rfl), 3, _, _, rfl, rfl⟩⟩ <|
  mi_cI (mi_aload_n_ok (k := 0) (by decide +kernel) rfl rfl) <|
  mi_cI (mi_get_ok (by decide +kernel) fl_X1_41 rfl) <|
  mi_cI (mi_iload_n_ok (k := 2) (by decide +kernel) rfl rfl) <|
  mi_cC ⟨m_X3_add, rfl, okM_X3_add, 92, 1, by decide +kernel, Or.inl ⟨(by decide +kernel), rfl, (mi_gd2 226 rfl rfl), (mi_gd2 53 rfl rfl), (mi_gd2 54 rfl rfl), 3, _, _, rfl, rfl⟩⟩ <|
  mi_cI (mi_aload_n_ok (k := 0) (by decide +kernel) rfl rfl) <|
  mi_cI (mi_get_ok (by decide +kernel) fl_X1_44 rfl) <|
  mi_cI (mi_iload_n_ok (k := 3) (by decide +kernel) rfl rfl) <|
  mi_cC ⟨m_X3_add, rfl, okM_X3_add, 92, 1, by decide +kernel, Or.inl ⟨(by decide +kernel), rfl, (mi_gd2 226 rfl rfl), (mi_gd2 53 rfl rfl), (mi_gd2 54 rfl rfl), 3, _, _, rfl, rfl⟩⟩ <|
  mi_cI (mi_aload_n_ok (k := 0) (by decide +kernel) rfl rfl) <|
  mi_cI (mi_get_ok (by decide +kernel) fl_X1_56 rfl) <|
  mi_cI (mi_iconst_ok (n := 3) (by decide) (by decide +kernel) rfl) <|
  mi_cC ⟨m_X3_add, rfl, okM_X3_add, 92, 1, by decide +kernel, Or.inl ⟨(by decide +kernel), rfl, (mi_gd2 226 rfl rfl), (mi_gd2 53 rfl rfl), (mi_gd2 54 rfl rfl), 3, _, _, rfl, rfl⟩⟩ <|
  mi_cR (Or.inl ⟨rfl, (by decide +kernel), rfl⟩) <| mi_cN
set_option maxRecDepth 100000 in
set_option maxHeartbeats 4000000 in
theorem ok_X1_addValue : ∀ q ∈ t_X1_addValue, mi_OkE mi_ms RX1 cX1_addValue 4 false none q :=
  mi_cI (mi_aload_n_ok (k := 0) (by decide +kernel) rfl rfl) <|
  mi_cI (mi_get_ok (by decide +kernel) fl_X1_50 rfl) <|
  mi_cI (mi_iload_n_ok (k := 1) (by decide +kernel) rfl rfl) <|
  mi_cC ⟨m_X3_add, rfl, okM_X3_add, 92, 1, by decide +kernel, Or.inl ⟨(by decide +kernel), rfl, (mi_gd2 226 rfl rfl), (mi_gd2 53 rfl rfl), (mi_gd2 54 rfl rfl), 3, _, _, rfl, rfl⟩⟩ <|
  mi_cI (mi_aload_n_ok (k := 0) (by decide +kernel) rfl rfl) <|
  mi_cI (mi_get_ok (by decide +kernel) fl_X1_53 rfl) <|
  mi_cI (mi_iload_n_ok (k := 2) (by decide +kernel) rfl rfl) <|
  mi_cC ⟨m_X3_add, rfl, okM_X3_add, 92, 1, by decide +kernel, Or.inl ⟨(by decide +kernel), rfl, (mi_gd2 226 rfl rfl), (mi_gd2 53 rfl rfl), (mi_gd2 54 rfl rfl), 3, _, _, rfl, rfl⟩⟩ <|
  mi_cI (mi_aload_n_ok (k := 0) (by decide +kernel) rfl rfl) <|
  mi_cI (mi_get_ok (by decide +kernel) fl_X1_47 rfl) <|
  mi_cI (mi_iload_n_ok (k := 3) (by decide +kernel) rfl rfl) <|
  mi_cI (mi_aload_n_ok (k := 0) (by decide +kernel) rfl rfl) <|
  mi_cI (mi_get_ok (by decide +kernel) fl_X1_14 rfl) <|
  mi_cI (mi_get_ok (by decide +kernel) fl_X1_73 rfl) <|
  mi_cI (mi_iload_n_ok (k := 3) (by decide +kernel) rfl rfl) <|
  mi_cI (mi_isub_ok (by decide +kernel) rfl) <|
  mi_cC ⟨m_X4_add, rfl, okM_X4_add, 95, 2, by decide +kernel, Or.inl ⟨(by decide +kernel), rfl, (mi_gd2 227 rfl rfl), (mi_gd2 115 rfl rfl), (mi_gd2 116 rfl rfl), 4, _, _, rfl, rfl⟩⟩ <|
  mi_cR (Or.inl ⟨rfl, (by decide +kernel), rfl⟩) <| mi_cN
set_option maxRecDepth 100000 in
set_option maxHeartbeats 4000000 in
theorem ok_X1_leaveArcOut : ∀ q ∈ t_X1_leaveArcOut, mi_OkE mi_ms RX1 cX1_leaveArcOut 2 false none q :=
  mi_cI (mi_aload_n_ok (k := 0) (by decide +kernel) rfl rfl) <|
  mi_cI (mi_aload_n_ok (k := 0) (by decide +kernel) rfl rfl) <|
  mi_cI (mi_get_ok (by decide +kernel) fl_X1_38 rfl) <|
  mi_cI (mi_get_ok (by decide +kernel) fl_X1_73 rfl) <|
  mi_cI (mi_iconst_ok (n := 0) (by decide) (by decide +kernel) rfl) <|
  mi_cC ⟨m_X1_roomOf, rfl, okM_X1_roomOf, 84, 2, by decide +kernel, Or.inl ⟨(by decide +kernel), rfl, (mi_gd2 236 rfl rfl), (mi_gd2 237 rfl rfl), (mi_gd2 238 rfl rfl), 1, _, _, rfl, rfl⟩⟩ <|
  mi_cI (mi_istore_n_ok (k := 1) (by decide +kernel) rfl (by decide) rfl) <|
  mi_cI (mi_aload_n_ok (k := 0) (by decide +kernel) rfl rfl) <|
  mi_cI (mi_get_ok (by decide +kernel) fl_X1_50 rfl) <|
  mi_cI (mi_iload_n_ok (k := 1) (by decide +kernel) rfl rfl) <|
  mi_cC ⟨m_X3_cut, rfl, okM_X3_cut, 98, 1, by decide +kernel, Or.inl ⟨(by decide +kernel), rfl, (mi_gd3 0 rfl rfl), (mi_gd3 1 rfl rfl), (mi_gd3 2 rfl rfl), 3, _, _, rfl, rfl⟩⟩ <|
  mi_cI (mi_aload_n_ok (k := 0) (by decide +kernel) rfl rfl) <|
  mi_cI (mi_get_ok (by decide +kernel) fl_X1_53 rfl) <|
  mi_cI (mi_iload_n_ok (k := 1) (by decide +kernel) rfl rfl) <|
  mi_cC ⟨m_X3_cut, rfl, okM_X3_cut, 98, 1, by decide +kernel, Or.inl ⟨(by decide +kernel), rfl, (mi_gd3 0 rfl rfl), (mi_gd3 1 rfl rfl), (mi_gd3 2 rfl rfl), 3, _, _, rfl, rfl⟩⟩ <|
  mi_cI (mi_aload_n_ok (k := 0) (by decide +kernel) rfl rfl) <|
  mi_cI (mi_get_ok (by decide +kernel) fl_X1_47 rfl) <|
  mi_cI (mi_iload_n_ok (k := 1) (by decide +kernel) rfl rfl) <|
  mi_cC ⟨m_X4_cut, rfl, okM_X4_cut, 101, 1, by decide +kernel, Or.inl ⟨(by decide +kernel), rfl, (mi_gd3 7 rfl rfl), (mi_gd3 8 rfl rfl), (mi_gd3 9 rfl rfl), 4, _, _, rfl, rfl⟩⟩ <|
  mi_cI (mi_aload_n_ok (k := 0) (by decide +kernel) rfl rfl) <|
  mi_cI (mi_dup_ok (by decide +kernel) rfl) <|
  mi_cI (mi_get_ok (by decide +kernel) fl_X1_59 rfl) <|
  mi_cI (mi_iconst_ok (n := 1) (by decide) (by decide +kernel) rfl) <|
  mi_cI (mi_iadd_ok (by decide +kernel) rfl) <|
  mi_cI (mi_put_ok (by decide +kernel) fl_X1_59 rfl rfl) <|
  mi_cR (Or.inl ⟨rfl, (by decide +kernel), rfl⟩) <| mi_cN
set_option maxRecDepth 100000 in
set_option maxHeartbeats 4000000 in
theorem ok_X1_settleKinds : ∀ q ∈ t_X1_settleKinds, mi_OkE mi_ms RX1 cX1_settleKinds 2 false none q :=
  mi_cI (mi_iconst_ok (n := 0) (by decide) (by decide +kernel) rfl) <|
  mi_cI (mi_istore_n_ok (k := 1) (by decide +kernel) rfl (by decide) rfl) <|
  mi_cI (mi_iload_n_ok (k := 1) (by decide +kernel) rfl rfl) <|
  mi_cI (mi_aload_n_ok (k := 0) (by decide +kernel) rfl rfl) <|
  mi_cI (mi_get_ok (by decide +kernel) fl_X1_35 rfl) <|
  mi_cI (mi_get_ok (by decide +kernel) fl_X1_73 rfl) <|
  mi_cI (mi_icmp_ge_ok (off := 34) (by decide +kernel) (by decide) rfl) <|
  mi_cI (mi_aload_n_ok (k := 0) (by decide +kernel) rfl rfl) <|
  mi_cI (mi_get_ok (by decide +kernel) fl_X1_35 rfl) <|
  mi_cI (mi_iload_n_ok (k := 1) (by decide +kernel) rfl rfl) <|
  mi_cC ⟨m_X3_at, rfl, okM_X3_at, 88, 1, by decide +kernel, Or.inl ⟨(by decide +kernel), rfl, (mi_gd2 188 rfl rfl), (mi_gd2 170 rfl rfl), (mi_gd2 171 rfl rfl), 3, _, _, rfl, rfl⟩⟩ <|
  mi_cI (mi_iconst_ok (n := 3) (by decide) (by decide +kernel) rfl) <|
  mi_cI (mi_icmp_ne_ok (off := 16) (by decide +kernel) (by decide) rfl) <|
  mi_cI (mi_aload_n_ok (k := 0) (by decide +kernel) rfl rfl) <|
  mi_cI (mi_get_ok (by decide +kernel) fl_X1_35 rfl) <|
  mi_cI (mi_iload_n_ok (k := 1) (by decide +kernel) rfl rfl) <|
  mi_cI (mi_aload_n_ok (k := 0) (by decide +kernel) rfl rfl) <|
  mi_cI (mi_iload_n_ok (k := 1) (by decide +kernel) rfl rfl) <|
  mi_cC ⟨m_X1_guessKind, rfl, okM_X1_guessKind, 102, 1, by decide +kernel, Or.inl ⟨(by decide +kernel), rfl, (mi_gd3 25 rfl rfl), (mi_gd3 27 rfl rfl), (mi_gd0 21 rfl rfl), 1, _, _, rfl, rfl⟩⟩ <|
  mi_cC ⟨m_X3_put, rfl, okM_X3_put, 105, 2, by decide +kernel, Or.inl ⟨(by decide +kernel), rfl, (mi_gd3 29 rfl rfl), (mi_gd3 30 rfl rfl), (mi_gd3 31 rfl rfl), 3, _, _, rfl, rfl⟩⟩ <|
  mi_cI (mi_inc_ok (by decide +kernel) (by decide) rfl) <|
  mi_cI (mi_goto_ok (off := (-39)) (by decide +kernel) (by decide)) <|
  mi_cR (Or.inl ⟨rfl, (by decide +kernel), rfl⟩) <| mi_cN
set_option maxRecDepth 100000 in
set_option maxHeartbeats 4000000 in
theorem ok_X1_guessKind : ∀ q ∈ t_X1_guessKind, mi_OkE mi_ms RX1 cX1_guessKind 5 false (some .int) q :=
  mi_cI (mi_iconst_ok (n := 0) (by decide) (by decide +kernel) rfl) <|
  mi_cI (mi_istore_n_ok (k := 2) (by decide +kernel) rfl (by decide) rfl) <|
  mi_cI (mi_iconst_ok (n := 0) (by decide) (by decide +kernel) rfl) <|
  mi_cI (mi_istore_n_ok (k := 3) (by decide +kernel) rfl (by decide) rfl) <|
  mi_cI (mi_iload_n_ok (k := 3) (by decide +kernel) rfl rfl) <|
  mi_cI (mi_aload_n_ok (k := 0) (by decide +kernel) rfl rfl) <|
  mi_cI (mi_get_ok (by decide +kernel) fl_X1_38 rfl) <|
  mi_cI (mi_get_ok (by decide +kernel) fl_X1_73 rfl) <|
  mi_cI (mi_icmp_ge_ok (off := 40) (by decide +kernel) (by decide) rfl) <|
  mi_cI (mi_aload_n_ok (k := 0) (by decide +kernel) rfl rfl) <|
  mi_cI (mi_get_ok (by decide +kernel) fl_X1_50 rfl) <|
  mi_cI (mi_aload_n_ok (k := 0) (by decide +kernel) rfl rfl) <|
  mi_cI (mi_iload_n_ok (k := 3) (by decide +kernel) rfl rfl) <|
  mi_cI (mi_iload_n_ok (k := 1) (by decide +kernel) rfl rfl) <|
  mi_cC ⟨m_X1_roomOf, rfl, okM_X1_roomOf, 84, 2, by decide +kernel, Or.inl ⟨(by decide +kernel), rfl, (mi_gd2 236 rfl rfl), (mi_gd2 237 rfl rfl), (mi_gd2 238 rfl rfl), 1, _, _, rfl, rfl⟩⟩ <|
  mi_cC ⟨m_X3_at, rfl, okM_X3_at, 88, 1, by decide +kernel, Or.inl ⟨(by decide +kernel), rfl, (mi_gd2 188 rfl rfl), (mi_gd2 170 rfl rfl), (mi_gd2 171 rfl rfl), 3, _, _, rfl, rfl⟩⟩ <|
  mi_cI (mi_istore_ok (by decide +kernel) (by decide) rfl) <|
  mi_cI (mi_iload_ok (by decide +kernel) rfl) <|
  mi_cI (mi_iconst_ok (n := 3) (by decide) (by decide +kernel) rfl) <|
  mi_cI (mi_icmp_ne_ok (off := 5) (by decide +kernel) (by decide) rfl) <|
  mi_cI (mi_iconst_ok (n := 2) (by decide) (by decide +kernel) rfl) <|
  mi_cR (Or.inr (Or.inl ⟨rfl, (by decide +kernel), rfl⟩)) <|
  mi_cI (mi_iload_ok (by decide +kernel) rfl) <|
  mi_cI (mi_iconst_ok (n := 2) (by decide) (by decide +kernel) rfl) <|
  mi_cI (mi_icmp_ne_ok (off := 5) (by decide +kernel) (by decide) rfl) <|
  mi_cI (mi_iconst_ok (n := 1) (by decide) (by decide +kernel) rfl) <|
  mi_cI (mi_istore_n_ok (k := 2) (by decide +kernel) rfl (by decide) rfl) <|
  mi_cI (mi_inc_ok (by decide +kernel) (by decide) rfl) <|
  mi_cI (mi_goto_ok (off := (-45)) (by decide +kernel) (by decide)) <|
  mi_cI (mi_iload_n_ok (k := 2) (by decide +kernel) rfl rfl) <|
  mi_cR (Or.inr (Or.inl ⟨rfl, (by decide +kernel), rfl⟩)) <| mi_cN
set_option maxRecDepth 100000 in
set_option maxHeartbeats 4000000 in
theorem ok_X2_init : ∀ q ∈ t_X2_init, mi_OkE mi_ms RX2 cX2_init 3 true none q :=
  mi_cI (mi_aload_n_ok (k := 0) (by decide +kernel) rfl rfl) <|
  mi_cI (mi_obj_ok (index := 3) (by decide +kernel) (mi_gd1 174 rfl rfl) (mi_gd1 24 rfl rfl) (mi_gd1 25 rfl rfl) rfl) <|
  mi_cI (mi_aload_n_ok (k := 0) (by decide +kernel) rfl rfl) <|
  mi_cI (mi_new_ok (index := 9) (by decide +kernel) cf_X0 (mi_gd1 175 rfl rfl) (mi_gd1 176 rfl rfl) (mi_gd1 8 rfl rfl) (by decide +kernel) (by decide +kernel) rfl) <|
  mi_cI (mi_dup_ok (by decide +kernel) rfl) <|
  mi_cI (mi_aload_n_ok (k := 1) (by decide +kernel) rfl rfl) <|
  mi_cC ⟨m_X0_init, rfl, okM_X0_init, 11, 1, by decide +kernel, Or.inr (Or.inl ⟨(by decide +kernel), rfl, (mi_gd1 177 rfl rfl), (mi_gd1 178 rfl rfl), rfl, rfl, 0, rfl⟩)⟩ <|
  mi_cI (mi_putF_ok (by decide +kernel) fl_X2_14 rfl rfl (fun C T N h => by cases h; rfl) (fun C T N h => by cases h; exact (mi_gd1 212 rfl rfl)) rfl) <|
  mi_cI (mi_aload_n_ok (k := 0) (by decide +kernel) rfl rfl) <|
  mi_cI (mi_aload_n_ok (k := 2) (by decide +kernel) rfl rfl) <|
  mi_cI (mi_put_ok (by decide +kernel) fl_X2_20 rfl rfl) <|
  mi_cR (Or.inl ⟨rfl, (by decide +kernel), rfl⟩) <| mi_cN
set_option maxRecDepth 100000 in
set_option maxHeartbeats 4000000 in
theorem ok_X2_readText : ∀ q ∈ t_X2_readText, mi_OkE mi_ms RX2 cX2_readText 5 false (some .boolean) q :=
  mi_cI (mi_aload_n_ok (k := 0) (by decide +kernel) rfl rfl) <|
  mi_cI (mi_get_ok (by decide +kernel) fl_X2_14 rfl) <|
  mi_cI (mi_aload_n_ok (k := 1) (by decide +kernel) rfl rfl) <|
  mi_cC ⟨m_X0_start, rfl, okM_X0_start, 24, 1, by decide +kernel, Or.inl ⟨(by decide +kernel), rfl, (mi_gd2 64 rfl rfl), (mi_gd2 65 rfl rfl), (mi_gd2 66 rfl rfl), 0, _, _, rfl, rfl⟩⟩ <|
  mi_cI (mi_aload_n_ok (k := 0) (by decide +kernel) rfl rfl) <|
  mi_cI (mi_aload_n_ok (k := 2) (by decide +kernel) rfl rfl) <|
  mi_cI (mi_put_ok (by decide +kernel) fl_X2_20 rfl rfl) <|
  mi_cI (mi_aload_n_ok (k := 0) (by decide +kernel) rfl rfl) <|
  mi_cI (mi_get_ok (by decide +kernel) fl_X2_20 rfl) <|
  mi_cC ⟨m_X1_clear, rfl, okM_X1_clear, 27, 0, by decide +kernel, Or.inl ⟨(by decide +kernel), rfl, (mi_gd2 76 rfl rfl), (mi_gd2 77 rfl rfl), (mi_gd2 78 rfl rfl), 1, _, _, rfl, rfl⟩⟩ <|
  mi_cI (mi_aload_n_ok (k := 0) (by decide +kernel) rfl rfl) <|
  mi_cI (mi_iload_n_ok (k := 3) (by decide +kernel) rfl rfl) <|
  mi_cI (mi_put_ok (by decide +kernel) fl_X2_32 rfl rfl) <|
  mi_cI (mi_aload_n_ok (k := 0) (by decide +kernel) rfl rfl) <|
  mi_cI (mi_iconst_ok (n := 0) (by decide) (by decide +kernel) rfl) <|
  mi_cI (mi_put_ok (by decide +kernel) fl_X2_36 rfl rfl) <|
  mi_cI (mi_aload_n_ok (k := 0) (by decide +kernel) rfl rfl) <|
  mi_cI (mi_iconst_ok (n := 0) (by decide) (by decide +kernel) rfl) <|
  mi_cI (mi_put_ok (by decide +kernel) fl_X2_40 rfl rfl) <|
  mi_cI (mi_iconst_ok (n := 0) (by decide) (by decide +kernel) rfl) <|
  mi_cI (mi_istore_ok (by decide +kernel) (by decide) rfl) <|
  mi_cI (mi_iload_ok (by decide +kernel) rfl) <|
  mi_cI (mi_sipush_ok (n := 600) (by decide) (by decide +kernel) rfl) <|
  mi_cI (mi_icmp_ge_ok (off := 35) (by decide +kernel) (by decide) rfl) <|
  mi_cI (mi_aload_n_ok (k := 0) (by decide +kernel) rfl rfl) <|
  mi_cI (mi_get_ok (by decide +kernel) fl_X2_14 rfl) <|
  mi_cC ⟨m_X0_hasLine, rfl, okM_X0_hasLine, 43, 0, by decide +kernel, Or.inl ⟨(by decide +kernel), rfl, (mi_gd2 89 rfl rfl), (mi_gd2 90 rfl rfl), (mi_gd2 91 rfl rfl), 0, _, _, rfl, rfl⟩⟩ <|
  mi_cI (mi_if_eq_ok (off := 25) (by decide +kernel) (by decide) rfl) <|
  mi_cI (mi_aload_n_ok (k := 0) (by decide +kernel) rfl rfl) <|
  mi_cC ⟨m_X2_readLine, rfl, okM_X2_readLine, 47, 0, by decide +kernel, Or.inl ⟨(by decide +kernel), rfl, (mi_gd2 93 rfl rfl), (mi_gd2 95 rfl rfl), (mi_gd0 0 rfl rfl), 2, _, _, rfl, rfl⟩⟩ <|
  mi_cI (mi_if_ne_ok (off := 5) (by decide +kernel) (by decide) rfl) <|
  mi_cI (mi_iconst_ok (n := 0) (by decide) (by decide +kernel) rfl) <|
  mi_cR (Or.inr (Or.inr (Or.inl ⟨rfl, (by decide +kernel), rfl⟩))) <|
  mi_cI (mi_aload_n_ok (k := 0) (by decide +kernel) rfl rfl) <|
  mi_cI (mi_get_ok (by decide +kernel) fl_X2_14 rfl) <|
  mi_cC ⟨m_X0_nextLine, rfl, okM_X0_nextLine, 50, 0, by decide +kernel, Or.inl ⟨(by decide +kernel), rfl, (mi_gd3 20 rfl rfl), (mi_gd2 69 rfl rfl), (mi_gd2 70 rfl rfl), 0, _, _, rfl, rfl⟩⟩ <|
  mi_cI (mi_inc_ok (by decide +kernel) (by decide) rfl) <|
  mi_cI (mi_goto_ok (off := (-37)) (by decide +kernel) (by decide)) <|
  mi_cI (mi_aload_n_ok (k := 0) (by decide +kernel) rfl rfl) <|
  mi_cI (mi_get_ok (by decide +kernel) fl_X2_20 rfl) <|
  mi_cC ⟨m_X1_settleKinds, rfl, okM_X1_settleKinds, 53, 0, by decide +kernel, Or.inl ⟨(by decide +kernel), rfl, (mi_gd3 21 rfl rfl), (mi_gd3 22 rfl rfl), (mi_gd3 23 rfl rfl), 1, _, _, rfl, rfl⟩⟩ <|
  mi_cI (mi_aload_n_ok (k := 0) (by decide +kernel) rfl rfl) <|
  mi_cC ⟨m_X2_countIsTrue, rfl, okM_X2_countIsTrue, 56, 0, by decide +kernel, Or.inl ⟨(by decide +kernel), rfl, (mi_gd3 33 rfl rfl), (mi_gd3 35 rfl rfl), (mi_gd0 22 rfl rfl), 2, _, _, rfl, rfl⟩⟩ <|
  mi_cR (Or.inr (Or.inr (Or.inl ⟨rfl, (by decide +kernel), rfl⟩))) <| mi_cN
set_option maxRecDepth 100000 in
set_option maxHeartbeats 4000000 in
theorem ok_X2_countIsTrue : ∀ q ∈ t_X2_countIsTrue, mi_OkE mi_ms RX2 cX2_countIsTrue 1 false (some .boolean) q :=
  mi_cI (mi_aload_n_ok (k := 0) (by decide +kernel) rfl rfl) <|
  mi_cI (mi_get_ok (by decide +kernel) fl_X2_40 rfl) <|
  mi_cI (mi_if_ne_ok (off := 5) (by decide +kernel) (by decide) rfl) <|
  mi_cI (mi_iconst_ok (n := 1) (by decide) (by decide +kernel) rfl) <|
  mi_cR (Or.inr (Or.inr (Or.inl ⟨rfl, (by decide +kernel), rfl⟩))) <|
  mi_cI (mi_aload_n_ok (k := 0) (by decide +kernel) rfl rfl) <|
  mi_cI (mi_get_ok (by decide +kernel) fl_X2_20 rfl) <|
  mi_cI (mi_get_ok (by decide +kernel) fl_X2_59 rfl) <|
  mi_cI (mi_aload_n_ok (k := 0) (by decide +kernel) rfl rfl) <|
  mi_cI (mi_get_ok (by decide +kernel) fl_X2_20 rfl) <|
  mi_cI (mi_get_ok (by decide +kernel) fl_X2_62 rfl) <|
  mi_cI (mi_get_ok (by decide +kernel) fl_X2_66 rfl) <|
  mi_cI (mi_icmp_eq_ok (off := 21) (by decide +kernel) (by decide) rfl) <|
  mi_cI (mi_aload_n_ok (k := 0) (by decide +kernel) rfl rfl) <|
  mi_cI (mi_get_ok (by decide +kernel) fl_X2_14 rfl) <|
  mi_cI (mi_bipush_ok (n := 7) (by decide) (by decide +kernel) rfl) <|
  mi_cI (mi_aload_n_ok (k := 0) (by decide +kernel) rfl rfl) <|
  mi_cI (mi_get_ok (by decide +kernel) fl_X2_40 rfl) <|
  mi_cI (mi_aload_n_ok (k := 0) (by decide +kernel) rfl rfl) <|
  mi_cI (mi_get_ok (by decide +kernel) fl_X2_71 rfl) <|
  mi_cC ⟨m_X0_wrongElsewhere, rfl, okM_X0_wrongElsewhere, 74, 3, by decide +kernel, Or.inl ⟨(by decide +kernel), rfl, (mi_gd3 37 rfl rfl), (mi_gd3 38 rfl rfl), (mi_gd3 39 rfl rfl), 0, _, _, rfl, rfl⟩⟩ <|
  mi_cR (Or.inr (Or.inr (Or.inl ⟨rfl, (by decide +kernel), rfl⟩))) <|
  mi_cI (mi_aload_n_ok (k := 0) (by decide +kernel) rfl rfl) <|
  mi_cI (mi_get_ok (by decide +kernel) fl_X2_20 rfl) <|
  mi_cI (mi_get_ok (by decide +kernel) fl_X2_78 rfl) <|
  mi_cI (mi_aload_n_ok (k := 0) (by decide +kernel) rfl rfl) <|
  mi_cI (mi_get_ok (by decide +kernel) fl_X2_20 rfl) <|
  mi_cC ⟨m_X1_arcCount, rfl, okM_X1_arcCount, 81, 0, by decide +kernel, Or.inl ⟨(by decide +kernel), rfl, (mi_gd3 12 rfl rfl), (mi_gd3 13 rfl rfl), (mi_gd3 14 rfl rfl), 1, _, _, rfl, rfl⟩⟩ <|
  mi_cI (mi_icmp_eq_ok (off := 21) (by decide +kernel) (by decide) rfl) <|
  mi_cI (mi_aload_n_ok (k := 0) (by decide +kernel) rfl rfl) <|
  mi_cI (mi_get_ok (by decide +kernel) fl_X2_14 rfl) <|
  mi_cI (mi_bipush_ok (n := 7) (by decide) (by decide +kernel) rfl) <|
  mi_cI (mi_aload_n_ok (k := 0) (by decide +kernel) rfl rfl) <|
  mi_cI (mi_get_ok (by decide +kernel) fl_X2_40 rfl) <|
  mi_cI (mi_aload_n_ok (k := 0) (by decide +kernel) rfl rfl) <|
  mi_cI (mi_get_ok (by decide +kernel) fl_X2_85 rfl) <|
  mi_cC ⟨m_X0_wrongElsewhere, rfl, okM_X0_wrongElsewhere, 74, 3, by decide +kernel, Or.inl ⟨(by decide +kernel), rfl, (mi_gd3 37 rfl rfl), (mi_gd3 38 rfl rfl), (mi_gd3 39 rfl rfl), 0, _, _, rfl, rfl⟩⟩ <|
  mi_cR (Or.inr (Or.inr (Or.inl ⟨rfl, (by decide +kernel), rfl⟩))) <|
  mi_cI (mi_iconst_ok (n := 1) (by decide) (by decide +kernel) rfl) <|
  mi_cR (Or.inr (Or.inr (Or.inl ⟨rfl, (by decide +kernel), rfl⟩))) <| mi_cN
set_option maxRecDepth 100000 in
set_option maxHeartbeats 4000000 in
theorem ok_X2_readLine : ∀ q ∈ t_X2_readLine, mi_OkE mi_ms RX2 cX2_readLine 1 false (some .boolean) q :=
  mi_cI (mi_aload_n_ok (k := 0) (by decide +kernel) rfl rfl) <|
  mi_cI (mi_get_ok (by decide +kernel) fl_X2_14 rfl) <|
  mi_cC ⟨m_X0_skipBlanks, rfl, okM_X0_skipBlanks, 88, 0, by decide +kernel, Or.inl ⟨(by decide +kernel), rfl, (mi_gd2 97 rfl rfl), (mi_gd2 98 rfl rfl), (mi_gd2 99 rfl rfl), 0, _, _, rfl, rfl⟩⟩ <|
  mi_cI (mi_aload_n_ok (k := 0) (by decide +kernel) rfl rfl) <|
  mi_cI (mi_get_ok (by decide +kernel) fl_X2_14 rfl) <|
  mi_cI (mi_get_ok (by decide +kernel) fl_X2_91 rfl) <|
  mi_cI (mi_look_ok (dflt := 59) (ps := #[(-1, 42), (33, 49), (35, 44), (37, 54)]) (len := 42) (by decide +kernel) (by decide) (fun x => mi_lookx _ _ _ x (by decide) _ _ (by decide))) <|
  mi_cI (mi_iconst_ok (n := 1) (by decide) (by decide +kernel) rfl) <|
  mi_cR (Or.inr (Or.inr (Or.inl ⟨rfl, (by decide +kernel), rfl⟩))) <|
  mi_cI (mi_aload_n_ok (k := 0) (by decide +kernel) rfl rfl) <|
  mi_cC ⟨m_X2_readComment, rfl, okM_X2_readComment, 94, 0, by decide +kernel, Or.inl ⟨(by decide +kernel), rfl, (mi_gd2 101 rfl rfl), (mi_gd2 103 rfl rfl), (mi_gd0 1 rfl rfl), 2, _, _, rfl, rfl⟩⟩ <|
  mi_cR (Or.inr (Or.inr (Or.inl ⟨rfl, (by decide +kernel), rfl⟩))) <|
  mi_cI (mi_aload_n_ok (k := 0) (by decide +kernel) rfl rfl) <|
  mi_cC ⟨m_X2_readCount, rfl, okM_X2_readCount, 97, 0, by decide +kernel, Or.inl ⟨(by decide +kernel), rfl, (mi_gd2 119 rfl rfl), (mi_gd2 121 rfl rfl), (mi_gd0 2 rfl rfl), 2, _, _, rfl, rfl⟩⟩ <|
  mi_cR (Or.inr (Or.inr (Or.inl ⟨rfl, (by decide +kernel), rfl⟩))) <|
  mi_cI (mi_aload_n_ok (k := 0) (by decide +kernel) rfl rfl) <|
  mi_cC ⟨m_X2_readHead, rfl, okM_X2_readHead, 100, 0, by decide +kernel, Or.inl ⟨(by decide +kernel), rfl, (mi_gd2 142 rfl rfl), (mi_gd2 144 rfl rfl), (mi_gd0 6 rfl rfl), 2, _, _, rfl, rfl⟩⟩ <|
  mi_cR (Or.inr (Or.inr (Or.inl ⟨rfl, (by decide +kernel), rfl⟩))) <|
  mi_cI (mi_aload_n_ok (k := 0) (by decide +kernel) rfl rfl) <|
  mi_cC ⟨m_X2_readEnds, rfl, okM_X2_readEnds, 103, 0, by decide +kernel, Or.inl ⟨(by decide +kernel), rfl, (mi_gd2 176 rfl rfl), (mi_gd2 178 rfl rfl), (mi_gd0 11 rfl rfl), 2, _, _, rfl, rfl⟩⟩ <|
  mi_cI (mi_if_eq_ok (off := 21) (by decide +kernel) (by decide) rfl) <|
  mi_cI (mi_aload_n_ok (k := 0) (by decide +kernel) rfl rfl) <|
  mi_cC ⟨m_X2_readValues, rfl, okM_X2_readValues, 106, 0, by decide +kernel, Or.inl ⟨(by decide +kernel), rfl, (mi_gd2 189 rfl rfl), (mi_gd2 191 rfl rfl), (mi_gd0 13 rfl rfl), 2, _, _, rfl, rfl⟩⟩ <|
  mi_cI (mi_if_eq_ok (off := 14) (by decide +kernel) (by decide) rfl) <|
  mi_cI (mi_aload_n_ok (k := 0) (by decide +kernel) rfl rfl) <|
  mi_cC ⟨m_X2_endArc, rfl, okM_X2_endArc, 109, 0, by decide +kernel, Or.inl ⟨(by decide +kernel), rfl, (mi_gd2 228 rfl rfl), (mi_gd2 230 rfl rfl), (mi_gd0 20 rfl rfl), 2, _, _, rfl, rfl⟩⟩ <|
  mi_cI (mi_if_eq_ok (off := 7) (by decide +kernel) (by decide) rfl) <|
  mi_cI (mi_iconst_ok (n := 1) (by decide) (by decide +kernel) rfl) <|
  mi_cI (mi_goto_ok (off := 4) (by decide +kernel) (by decide)) <|
  mi_cI (mi_iconst_ok (n := 0) (by decide) (by decide +kernel) rfl) <|
  mi_cR (Or.inr (Or.inr (Or.inl ⟨rfl, (by decide +kernel), rfl⟩))) <| mi_cN
set_option maxRecDepth 100000 in
set_option maxHeartbeats 4000000 in
theorem ok_X2_readComment : ∀ q ∈ t_X2_readComment, mi_OkE mi_ms RX2 cX2_readComment 3 false (some .boolean) q :=
  mi_cI (mi_aload_n_ok (k := 0) (by decide +kernel) rfl rfl) <|
  mi_cI (mi_get_ok (by decide +kernel) fl_X2_14 rfl) <|
  mi_cC ⟨m_X0_step, rfl, okM_X0_step, 112, 0, by decide +kernel, Or.inl ⟨(by decide +kernel), rfl, (mi_gd2 105 rfl rfl), (mi_gd2 73 rfl rfl), (mi_gd2 74 rfl rfl), 0, _, _, rfl, rfl⟩⟩ <|
  mi_cI (mi_aload_n_ok (k := 0) (by decide +kernel) rfl rfl) <|
  mi_cI (mi_get_ok (by decide +kernel) fl_X2_20 rfl) <|
  mi_cI (mi_get_ok (by decide +kernel) fl_X2_115 rfl) <|
  mi_cI (mi_get_ok (by decide +kernel) fl_X2_119 rfl) <|
  mi_cI (mi_istore_n_ok (k := 1) (by decide +kernel) rfl (by decide) rfl) <|
  mi_cI (mi_iconst_ok (n := 0) (by decide) (by decide +kernel) rfl) <|
  mi_cI (mi_istore_n_ok (k := 2) (by decide +kernel) rfl (by decide) rfl) <|
  mi_cI (mi_iload_n_ok (k := 2) (by decide +kernel) rfl rfl) <|
  mi_cI (mi_bipush_ok (n := 20) (by decide) (by decide +kernel) rfl) <|
  mi_cI (mi_icmp_gt_ok (off := 95) (by decide +kernel) (by decide) rfl) <|
  mi_cI (mi_aload_n_ok (k := 0) (by decide +kernel) rfl rfl) <|
  mi_cI (mi_get_ok (by decide +kernel) fl_X2_14 rfl) <|
  mi_cI (mi_get_ok (by decide +kernel) fl_X2_91 rfl) <|
  mi_cI (mi_iconst_ok (n := (-1)) (by decide) (by decide +kernel) rfl) <|
  mi_cI (mi_icmp_eq_ok (off := 84) (by decide +kernel) (by decide) rfl) <|
  mi_cI (mi_aload_n_ok (k := 0) (by decide +kernel) rfl rfl) <|
  mi_cI (mi_get_ok (by decide +kernel) fl_X2_14 rfl) <|
  mi_cI (mi_get_ok (by decide +kernel) fl_X2_91 rfl) <|
  mi_cC ⟨m_X6_isPrintable, rfl, okM_X6_isPrintable, 124, 1, by decide +kernel, Or.inr (Or.inr ⟨(by decide +kernel), rfl, (mi_gd2 107 rfl rfl), Or.inr ⟨"GraphTexts", (mi_nd2 106 rfl rfl)⟩⟩)⟩ <|
  mi_cI (mi_if_ne_ok (off := 19) (by decide +kernel) (by decide) rfl) <|
  mi_cI (mi_aload_n_ok (k := 0) (by decide +kernel) rfl rfl) <|
  mi_cI (mi_get_ok (by decide +kernel) fl_X2_14 rfl) <|
  mi_cI (mi_iconst_ok (n := 1) (by decide) (by decide +kernel) rfl) <|
  mi_cI (mi_aload_n_ok (k := 0) (by decide +kernel) rfl rfl) <|
  mi_cI (mi_get_ok (by decide +kernel) fl_X2_14 rfl) <|
  mi_cI (mi_get_ok (by decide +kernel) fl_X2_128 rfl) <|
  mi_cC ⟨m_X0_wrong, rfl, okM_X0_wrong, 131, 2, by decide +kernel, Or.inl ⟨(by decide +kernel), rfl, (mi_gd2 109 rfl rfl), (mi_gd2 110 rfl rfl), (mi_gd2 111 rfl rfl), 0, _, _, rfl, rfl⟩⟩ <|
  mi_cR (Or.inr (Or.inr (Or.inl ⟨rfl, (by decide +kernel), rfl⟩))) <|
  mi_cI (mi_iload_n_ok (k := 2) (by decide +kernel) rfl rfl) <|
  mi_cI (mi_bipush_ok (n := 20) (by decide) (by decide +kernel) rfl) <|
  mi_cI (mi_icmp_ne_ok (off := 19) (by decide +kernel) (by decide) rfl) <|
  mi_cI (mi_aload_n_ok (k := 0) (by decide +kernel) rfl rfl) <|
  mi_cI (mi_get_ok (by decide +kernel) fl_X2_14 rfl) <|
  mi_cI (mi_iconst_ok (n := 2) (by decide) (by decide +kernel) rfl) <|
  mi_cI (mi_aload_n_ok (k := 0) (by decide +kernel) rfl rfl) <|
  mi_cI (mi_get_ok (by decide +kernel) fl_X2_14 rfl) <|
  mi_cI (mi_get_ok (by decide +kernel) fl_X2_128 rfl) <|
  mi_cC ⟨m_X0_wrong, rfl, okM_X0_wrong, 131, 2, by decide +kernel, Or.inl ⟨(by decide +kernel), rfl, (mi_gd2 109 rfl rfl), (mi_gd2 110 rfl rfl), (mi_gd2 111 rfl rfl), 0, _, _, rfl, rfl⟩⟩ <|
  mi_cR (Or.inr (Or.inr (Or.inl ⟨rfl, (by decide +kernel), rfl⟩))) <|
  mi_cI (mi_aload_n_ok (k := 0) (by decide +kernel) rfl rfl) <|
  mi_cI (mi_get_ok (by decide +kernel) fl_X2_20 rfl) <|
  mi_cI (mi_get_ok (by decide +kernel) fl_X2_115 rfl) <|
  mi_cI (mi_aload_n_ok (k := 0) (by decide +kernel) rfl rfl) <|
  mi_cI (mi_get_ok (by decide +kernel) fl_X2_14 rfl) <|
  mi_cI (mi_get_ok (by decide +kernel) fl_X2_91 rfl) <|
  mi_cC ⟨m_X3_add, rfl, okM_X3_add, 135, 1, by decide +kernel, Or.inl ⟨(by decide +kernel), rfl, (mi_gd2 113 rfl rfl), (mi_gd2 53 rfl rfl), (mi_gd2 54 rfl rfl), 3, _, _, rfl, rfl⟩⟩ <|
  mi_cI (mi_aload_n_ok (k := 0) (by decide +kernel) rfl rfl) <|
  mi_cI (mi_get_ok (by decide +kernel) fl_X2_14 rfl) <|
  mi_cC ⟨m_X0_step, rfl, okM_X0_step, 112, 0, by decide +kernel, Or.inl ⟨(by decide +kernel), rfl, (mi_gd2 105 rfl rfl), (mi_gd2 73 rfl rfl), (mi_gd2 74 rfl rfl), 0, _, _, rfl, rfl⟩⟩ <|
  mi_cI (mi_inc_ok (by decide +kernel) (by decide) rfl) <|
  mi_cI (mi_goto_ok (off := (-95)) (by decide +kernel) (by decide)) <|
  mi_cI (mi_aload_n_ok (k := 0) (by decide +kernel) rfl rfl) <|
  mi_cI (mi_get_ok (by decide +kernel) fl_X2_20 rfl) <|
  mi_cI (mi_get_ok (by decide +kernel) fl_X2_139 rfl) <|
  mi_cI (mi_iload_n_ok (k := 1) (by decide +kernel) rfl rfl) <|
  mi_cI (mi_aload_n_ok (k := 0) (by decide +kernel) rfl rfl) <|
  mi_cI (mi_get_ok (by decide +kernel) fl_X2_20 rfl) <|
  mi_cI (mi_get_ok (by decide +kernel) fl_X2_115 rfl) <|
  mi_cI (mi_get_ok (by decide +kernel) fl_X2_119 rfl) <|
  mi_cI (mi_iload_n_ok (k := 1) (by decide +kernel) rfl rfl) <|
  mi_cI (mi_isub_ok (by decide +kernel) rfl) <|
  mi_cC ⟨m_X4_add, rfl, okM_X4_add, 142, 2, by decide +kernel, Or.inl ⟨(by decide +kernel), rfl, (mi_gd2 114 rfl rfl), (mi_gd2 115 rfl rfl), (mi_gd2 116 rfl rfl), 4, _, _, rfl, rfl⟩⟩ <|
  mi_cI (mi_aload_n_ok (k := 0) (by decide +kernel) rfl rfl) <|
  mi_cI (mi_get_ok (by decide +kernel) fl_X2_20 rfl) <|
  mi_cI (mi_get_ok (by decide +kernel) fl_X2_145 rfl) <|
  mi_cI (mi_iconst_ok (n := 0) (by decide) (by decide +kernel) rfl) <|
  mi_cC ⟨m_X3_add, rfl, okM_X3_add, 135, 1, by decide +kernel, Or.inl ⟨(by decide +kernel), rfl, (mi_gd2 113 rfl rfl), (mi_gd2 53 rfl rfl), (mi_gd2 54 rfl rfl), 3, _, _, rfl, rfl⟩⟩ <|
  mi_cI (mi_iconst_ok (n := 1) (by decide) (by decide +kernel) rfl) <|
  mi_cR (Or.inr (Or.inr (Or.inl ⟨rfl, (by decide +kernel), rfl⟩))) <| mi_cN
set_option maxRecDepth 100000 in
set_option maxHeartbeats 4000000 in
theorem ok_X2_readCount : ∀ q ∈ t_X2_readCount, mi_OkE mi_ms RX2 cX2_readCount 1 false (some .boolean) q :=
  mi_cI (mi_aload_n_ok (k := 0) (by decide +kernel) rfl rfl) <|
  mi_cI (mi_get_ok (by decide +kernel) fl_X2_40 rfl) <|
  mi_cI (mi_if_eq_ok (off := 19) (by decide +kernel) (by decide) rfl) <|
  mi_cI (mi_aload_n_ok (k := 0) (by decide +kernel) rfl rfl) <|
  mi_cI (mi_get_ok (by decide +kernel) fl_X2_14 rfl) <|
  mi_cI (mi_iconst_ok (n := 4) (by decide) (by decide +kernel) rfl) <|
  mi_cI (mi_aload_n_ok (k := 0) (by decide +kernel) rfl rfl) <|
  mi_cI (mi_get_ok (by decide +kernel) fl_X2_14 rfl) <|
  mi_cI (mi_get_ok (by decide +kernel) fl_X2_128 rfl) <|
  mi_cC ⟨m_X0_wrong, rfl, okM_X0_wrong, 131, 2, by decide +kernel, Or.inl ⟨(by decide +kernel), rfl, (mi_gd2 109 rfl rfl), (mi_gd2 110 rfl rfl), (mi_gd2 111 rfl rfl), 0, _, _, rfl, rfl⟩⟩ <|
  mi_cR (Or.inr (Or.inr (Or.inl ⟨rfl, (by decide +kernel), rfl⟩))) <|
  mi_cI (mi_aload_n_ok (k := 0) (by decide +kernel) rfl rfl) <|
  mi_cI (mi_aload_n_ok (k := 0) (by decide +kernel) rfl rfl) <|
  mi_cI (mi_get_ok (by decide +kernel) fl_X2_14 rfl) <|
  mi_cI (mi_get_ok (by decide +kernel) fl_X2_148 rfl) <|
  mi_cI (mi_put_ok (by decide +kernel) fl_X2_40 rfl rfl) <|
  mi_cI (mi_aload_n_ok (k := 0) (by decide +kernel) rfl rfl) <|
  mi_cI (mi_get_ok (by decide +kernel) fl_X2_14 rfl) <|
  mi_cC ⟨m_X0_step, rfl, okM_X0_step, 112, 0, by decide +kernel, Or.inl ⟨(by decide +kernel), rfl, (mi_gd2 105 rfl rfl), (mi_gd2 73 rfl rfl), (mi_gd2 74 rfl rfl), 0, _, _, rfl, rfl⟩⟩ <|
  mi_cI (mi_aload_n_ok (k := 0) (by decide +kernel) rfl rfl) <|
  mi_cC ⟨m_X2_readGap, rfl, okM_X2_readGap, 151, 0, by decide +kernel, Or.inl ⟨(by decide +kernel), rfl, (mi_gd2 123 rfl rfl), (mi_gd2 125 rfl rfl), (mi_gd0 3 rfl rfl), 2, _, _, rfl, rfl⟩⟩ <|
  mi_cI (mi_if_ne_ok (off := 5) (by decide +kernel) (by decide) rfl) <|
  mi_cI (mi_iconst_ok (n := 0) (by decide) (by decide +kernel) rfl) <|
  mi_cR (Or.inr (Or.inr (Or.inl ⟨rfl, (by decide +kernel), rfl⟩))) <|
  mi_cI (mi_aload_n_ok (k := 0) (by decide +kernel) rfl rfl) <|
  mi_cI (mi_aload_n_ok (k := 0) (by decide +kernel) rfl rfl) <|
  mi_cI (mi_get_ok (by decide +kernel) fl_X2_14 rfl) <|
  mi_cI (mi_aload_n_ok (k := 0) (by decide +kernel) rfl rfl) <|
  mi_cI (mi_get_ok (by decide +kernel) fl_X2_14 rfl) <|
  mi_cI (mi_get_ok (by decide +kernel) fl_X2_128 rfl) <|
  mi_cC ⟨m_X0_placeOf, rfl, okM_X0_placeOf, 154, 1, by decide +kernel, Or.inl ⟨(by decide +kernel), rfl, (mi_gd2 127 rfl rfl), (mi_gd2 128 rfl rfl), (mi_gd2 129 rfl rfl), 0, _, _, rfl, rfl⟩⟩ <|
  mi_cI (mi_put_ok (by decide +kernel) fl_X2_71 rfl rfl) <|
  mi_cI (mi_aload_n_ok (k := 0) (by decide +kernel) rfl rfl) <|
  mi_cC ⟨m_X2_readNumber, rfl, okM_X2_readNumber, 158, 0, by decide +kernel, Or.inl ⟨(by decide +kernel), rfl, (mi_gd2 131 rfl rfl), (mi_gd2 133 rfl rfl), (mi_gd0 4 rfl rfl), 2, _, _, rfl, rfl⟩⟩ <|
  mi_cI (mi_if_ne_ok (off := 5) (by decide +kernel) (by decide) rfl) <|
  mi_cI (mi_iconst_ok (n := 0) (by decide) (by decide +kernel) rfl) <|
  mi_cR (Or.inr (Or.inr (Or.inl ⟨rfl, (by decide +kernel), rfl⟩))) <|
  mi_cI (mi_aload_n_ok (k := 0) (by decide +kernel) rfl rfl) <|
  mi_cI (mi_get_ok (by decide +kernel) fl_X2_20 rfl) <|
  mi_cI (mi_aload_n_ok (k := 0) (by decide +kernel) rfl rfl) <|
  mi_cI (mi_get_ok (by decide +kernel) fl_X2_161 rfl) <|
  mi_cI (mi_put_ok (by decide +kernel) fl_X2_59 rfl rfl) <|
  mi_cI (mi_aload_n_ok (k := 0) (by decide +kernel) rfl rfl) <|
  mi_cC ⟨m_X2_readGap, rfl, okM_X2_readGap, 151, 0, by decide +kernel, Or.inl ⟨(by decide +kernel), rfl, (mi_gd2 123 rfl rfl), (mi_gd2 125 rfl rfl), (mi_gd0 3 rfl rfl), 2, _, _, rfl, rfl⟩⟩ <|
  mi_cI (mi_if_ne_ok (off := 5) (by decide +kernel) (by decide) rfl) <|
  mi_cI (mi_iconst_ok (n := 0) (by decide) (by decide +kernel) rfl) <|
  mi_cR (Or.inr (Or.inr (Or.inl ⟨rfl, (by decide +kernel), rfl⟩))) <|
  mi_cI (mi_aload_n_ok (k := 0) (by decide +kernel) rfl rfl) <|
  mi_cI (mi_aload_n_ok (k := 0) (by decide +kernel) rfl rfl) <|
  mi_cI (mi_get_ok (by decide +kernel) fl_X2_14 rfl) <|
  mi_cI (mi_aload_n_ok (k := 0) (by decide +kernel) rfl rfl) <|
  mi_cI (mi_get_ok (by decide +kernel) fl_X2_14 rfl) <|
  mi_cI (mi_get_ok (by decide +kernel) fl_X2_128 rfl) <|
  mi_cC ⟨m_X0_placeOf, rfl, okM_X0_placeOf, 154, 1, by decide +kernel, Or.inl ⟨(by decide +kernel), rfl, (mi_gd2 127 rfl rfl), (mi_gd2 128 rfl rfl), (mi_gd2 129 rfl rfl), 0, _, _, rfl, rfl⟩⟩ <|
  mi_cI (mi_put_ok (by decide +kernel) fl_X2_85 rfl rfl) <|
  mi_cI (mi_aload_n_ok (k := 0) (by decide +kernel) rfl rfl) <|
  mi_cC ⟨m_X2_readNumber, rfl, okM_X2_readNumber, 158, 0, by decide +kernel, Or.inl ⟨(by decide +kernel), rfl, (mi_gd2 131 rfl rfl), (mi_gd2 133 rfl rfl), (mi_gd0 4 rfl rfl), 2, _, _, rfl, rfl⟩⟩ <|
  mi_cI (mi_if_ne_ok (off := 5) (by decide +kernel) (by decide) rfl) <|
  mi_cI (mi_iconst_ok (n := 0) (by decide) (by decide +kernel) rfl) <|
  mi_cR (Or.inr (Or.inr (Or.inl ⟨rfl, (by decide +kernel), rfl⟩))) <|
  mi_cI (mi_aload_n_ok (k := 0) (by decide +kernel) rfl rfl) <|
  mi_cI (mi_get_ok (by decide +kernel) fl_X2_20 rfl) <|
  mi_cI (mi_aload_n_ok (k := 0) (by decide +kernel) rfl rfl) <|
  mi_cI (mi_get_ok (by decide +kernel) fl_X2_161 rfl) <|
  mi_cI (mi_put_ok (by decide +kernel) fl_X2_78 rfl rfl) <|
  mi_cI (mi_aload_n_ok (k := 0) (by decide +kernel) rfl rfl) <|
  mi_cI (mi_get_ok (by decide +kernel) fl_X2_20 rfl) <|
  mi_cI (mi_get_ok (by decide +kernel) fl_X2_145 rfl) <|
  mi_cI (mi_iconst_ok (n := 1) (by decide) (by decide +kernel) rfl) <|
  mi_cC ⟨m_X3_add, rfl, okM_X3_add, 135, 1, by decide +kernel, Or.inl ⟨(by decide +kernel), rfl, (mi_gd2 113 rfl rfl), (mi_gd2 53 rfl rfl), (mi_gd2 54 rfl rfl), 3, _, _, rfl, rfl⟩⟩ <|
  mi_cI (mi_aload_n_ok (k := 0) (by decide +kernel) rfl rfl) <|
  mi_cC ⟨m_X2_readLineEnd, rfl, okM_X2_readLineEnd, 164, 0, by decide +kernel, Or.inl ⟨(by decide +kernel), rfl, (mi_gd2 138 rfl rfl), (mi_gd2 140 rfl rfl), (mi_gd0 5 rfl rfl), 2, _, _, rfl, rfl⟩⟩ <|
  mi_cR (Or.inr (Or.inr (Or.inl ⟨rfl, (by decide +kernel), rfl⟩))) <| mi_cN
end MJ0
