section MJ3
set_option maxRecDepth 100000 in
set_option maxHeartbeats 4000000 in
theorem ok_X5_writeValue : ∀ q ∈ t_X5_writeValue, mi_OkE mi_ms RX5 cX5_writeValue 4 false none q :=
  mi_cI (mi_aload_n_ok (k := 1) (by decide +kernel) rfl rfl) <|
  mi_cI (mi_get_ok (by decide +kernel) fl_X5_102 rfl) <|
  mi_cI (mi_iload_n_ok (k := 2) (by decide +kernel) rfl rfl) <|
  mi_cC ⟨m_X3_at, rfl, okM_X3_at, 29, 1, by decide +kernel, Or.inl ⟨(by decide +kernel), rfl, (mi_gd3 82 rfl rfl), (mi_gd2 170 rfl rfl), (mi_gd2 171 rfl rfl), 3, _, _, rfl, rfl⟩⟩ <|
  mi_cI (mi_if_ne_ok (off := 15) (by decide +kernel) (by decide) rfl) <|
  mi_cI (mi_aload_n_ok (k := 0) (by decide +kernel) rfl rfl) <|
  mi_cI (mi_get_ok (by decide +kernel) fl_X5_9 rfl) <|
  mi_cI (mi_bipush_ok (n := 45) (by decide) (by decide +kernel) rfl) <|
  mi_cC ⟨m_X3_add, rfl, okM_X3_add, 47, 1, by decide +kernel, Or.inl ⟨(by decide +kernel), rfl, (mi_gd3 87 rfl rfl), (mi_gd2 53 rfl rfl), (mi_gd2 54 rfl rfl), 3, _, _, rfl, rfl⟩⟩ <|
  mi_cI (mi_goto_ok (off := 32) (by decide +kernel) (by decide)) <|
  mi_cI (mi_iload_n_ok (k := 3) (by decide +kernel) rfl rfl) <|
  mi_cI (mi_iconst_ok (n := 2) (by decide) (by decide +kernel) rfl) <|
  mi_cI (mi_icmp_ne_ok (off := 15) (by decide +kernel) (by decide) rfl) <|
  mi_cI (mi_aload_n_ok (k := 0) (by decide +kernel) rfl rfl) <|
  mi_cI (mi_aload_n_ok (k := 1) (by decide +kernel) rfl rfl) <|
  mi_cI (mi_get_ok (by decide +kernel) fl_X5_105 rfl) <|
  mi_cI (mi_iload_n_ok (k := 2) (by decide +kernel) rfl rfl) <|
  mi_cC ⟨m_X5_writeName, rfl, okM_X5_writeName, 76, 2, by decide +kernel, Or.inl ⟨(by decide +kernel), rfl, (mi_gd3 109 rfl rfl), (mi_gd3 111 rfl rfl), (mi_gd0 27 rfl rfl), 5, _, _, rfl, rfl⟩⟩ <|
  mi_cI (mi_goto_ok (off := 15) (by decide +kernel) (by decide)) <|
  mi_cI (mi_aload_n_ok (k := 0) (by decide +kernel) rfl rfl) <|
  mi_cI (mi_aload_n_ok (k := 1) (by decide +kernel) rfl rfl) <|
  mi_cI (mi_get_ok (by decide +kernel) fl_X5_108 rfl) <|
  mi_cI (mi_iload_n_ok (k := 2) (by decide +kernel) rfl rfl) <|
  mi_cC ⟨m_X3_at, rfl, okM_X3_at, 29, 1, by decide +kernel, Or.inl ⟨(by decide +kernel), rfl, (mi_gd3 82 rfl rfl), (mi_gd2 170 rfl rfl), (mi_gd2 171 rfl rfl), 3, _, _, rfl, rfl⟩⟩ <|
  mi_cC ⟨m_X5_writeThousandths, rfl, okM_X5_writeThousandths, 111, 1, by decide +kernel, Or.inl ⟨(by decide +kernel), rfl, (mi_gd3 132 rfl rfl), (mi_gd3 134 rfl rfl), (mi_gd0 30 rfl rfl), 5, _, _, rfl, rfl⟩⟩ <|
  mi_cR (Or.inl ⟨rfl, (by decide +kernel), rfl⟩) <| mi_cN
set_option maxRecDepth 100000 in
set_option maxHeartbeats 4000000 in
theorem ok_X5_writeName : ∀ q ∈ t_X5_writeName, mi_OkE mi_ms RX5 cX5_writeName 6 false none q :=
  mi_cI (mi_aload_n_ok (k := 1) (by decide +kernel) rfl rfl) <|
  mi_cI (mi_iload_n_ok (k := 2) (by decide +kernel) rfl rfl) <|
  mi_cC ⟨m_X4_isPlainName, rfl, okM_X4_isPlainName, 114, 1, by decide +kernel, Or.inl ⟨(by decide +kernel), rfl, (mi_gd3 113 rfl rfl), (mi_gd3 114 rfl rfl), (mi_gd3 115 rfl rfl), 4, _, _, rfl, rfl⟩⟩ <|
  mi_cI (mi_if_ne_ok (off := 7) (by decide +kernel) (by decide) rfl) <|
  mi_cI (mi_iconst_ok (n := 1) (by decide) (by decide +kernel) rfl) <|
  mi_cI (mi_goto_ok (off := 4) (by decide +kernel) (by decide)) <|
  mi_cI (mi_iconst_ok (n := 0) (by decide) (by decide +kernel) rfl) <|
  mi_cI (mi_istore_n_ok (k := 3) (by decide +kernel) rfl (by decide) rfl) <|
  mi_cI (mi_iload_n_ok (k := 3) (by decide +kernel) rfl rfl) <|
  mi_cI (mi_if_eq_ok (off := 12) (by decide +kernel) (by decide) rfl) <|
  mi_cI (mi_aload_n_ok (k := 0) (by decide +kernel) rfl rfl) <|
  mi_cI (mi_get_ok (by decide +kernel) fl_X5_9 rfl) <|
  mi_cI (mi_bipush_ok (n := 34) (by decide) (by decide +kernel) rfl) <|
  mi_cC ⟨m_X3_add, rfl, okM_X3_add, 47, 1, by decide +kernel, Or.inl ⟨(by decide +kernel), rfl, (mi_gd3 87 rfl rfl), (mi_gd2 53 rfl rfl), (mi_gd2 54 rfl rfl), 3, _, _, rfl, rfl⟩⟩ <|
  mi_cI (mi_iconst_ok (n := 0) (by decide) (by decide +kernel) rfl) <|
  mi_cI (mi_istore_ok (by decide +kernel) (by decide) rfl) <|
  mi_cI (mi_iload_ok (by decide +kernel) rfl) <|
  mi_cI (mi_aload_n_ok (k := 1) (by decide +kernel) rfl rfl) <|
  mi_cI (mi_iload_n_ok (k := 2) (by decide +kernel) rfl rfl) <|
  mi_cC ⟨m_X4_lengthOf, rfl, okM_X4_lengthOf, 55, 1, by decide +kernel, Or.inl ⟨(by decide +kernel), rfl, (mi_gd3 88 rfl rfl), (mi_gd3 89 rfl rfl), (mi_gd3 90 rfl rfl), 4, _, _, rfl, rfl⟩⟩ <|
  mi_cI (mi_icmp_ge_ok (off := 50) (by decide +kernel) (by decide) rfl) <|
  mi_cI (mi_aload_n_ok (k := 1) (by decide +kernel) rfl rfl) <|
  mi_cI (mi_iload_n_ok (k := 2) (by decide +kernel) rfl rfl) <|
  mi_cI (mi_iload_ok (by decide +kernel) rfl) <|
  mi_cC ⟨m_X4_signAt, rfl, okM_X4_signAt, 60, 2, by decide +kernel, Or.inl ⟨(by decide +kernel), rfl, (mi_gd3 92 rfl rfl), (mi_gd3 93 rfl rfl), (mi_gd3 94 rfl rfl), 4, _, _, rfl, rfl⟩⟩ <|
  mi_cI (mi_istore_ok (by decide +kernel) (by decide) rfl) <|
  mi_cI (mi_iload_ok (by decide +kernel) rfl) <|
  mi_cI (mi_bipush_ok (n := 34) (by decide) (by decide +kernel) rfl) <|
  mi_cI (mi_icmp_eq_ok (off := 10) (by decide +kernel) (by decide) rfl) <|
  mi_cI (mi_iload_ok (by decide +kernel) rfl) <|
  mi_cI (mi_bipush_ok (n := 92) (by decide) (by decide +kernel) rfl) <|
  mi_cI (mi_icmp_ne_ok (off := 12) (by decide +kernel) (by decide) rfl) <|
  mi_cI (mi_aload_n_ok (k := 0) (by decide +kernel) rfl rfl) <|
  mi_cI (mi_get_ok (by decide +kernel) fl_X5_9 rfl) <|
  mi_cI (mi_bipush_ok (n := 92) (by decide) (by decide +kernel) rfl) <|
  mi_cC ⟨m_X3_add, rfl, okM_X3_add, 47, 1, by decide +kernel, Or.inl ⟨(by decide +kernel), rfl, (mi_gd3 87 rfl rfl), (mi_gd2 53 rfl rfl), (mi_gd2 54 rfl rfl), 3, _, _, rfl, rfl⟩⟩ <|
  mi_cI (mi_aload_n_ok (k := 0) (by decide +kernel) rfl rfl) <|
  mi_cI (mi_get_ok (by decide +kernel) fl_X5_9 rfl) <|
  mi_cI (mi_iload_ok (by decide +kernel) rfl) <|
  mi_cC ⟨m_X3_add, rfl, okM_X3_add, 47, 1, by decide +kernel, Or.inl ⟨(by decide +kernel), rfl, (mi_gd3 87 rfl rfl), (mi_gd2 53 rfl rfl), (mi_gd2 54 rfl rfl), 3, _, _, rfl, rfl⟩⟩ <|
  mi_cI (mi_inc_ok (by decide +kernel) (by decide) rfl) <|
  mi_cI (mi_goto_ok (off := (-54)) (by decide +kernel) (by decide)) <|
  mi_cI (mi_iload_n_ok (k := 3) (by decide +kernel) rfl rfl) <|
  mi_cI (mi_if_eq_ok (off := 12) (by decide +kernel) (by decide) rfl) <|
  mi_cI (mi_aload_n_ok (k := 0) (by decide +kernel) rfl rfl) <|
  mi_cI (mi_get_ok (by decide +kernel) fl_X5_9 rfl) <|
  mi_cI (mi_bipush_ok (n := 34) (by decide) (by decide +kernel) rfl) <|
  mi_cC ⟨m_X3_add, rfl, okM_X3_add, 47, 1, by decide +kernel, Or.inl ⟨(by decide +kernel), rfl, (mi_gd3 87 rfl rfl), (mi_gd2 53 rfl rfl), (mi_gd2 54 rfl rfl), 3, _, _, rfl, rfl⟩⟩ <|
  mi_cR (Or.inl ⟨rfl, (by decide +kernel), rfl⟩) <| mi_cN
set_option maxRecDepth 100000 in
set_option maxHeartbeats 4000000 in
theorem ok_X5_writeThousandths : ∀ q ∈ t_X5_writeThousandths, mi_OkE mi_ms RX5 cX5_writeThousandths 5 false none q :=
  mi_cI (mi_iload_n_ok (k := 1) (by decide +kernel) rfl rfl) <|
  mi_cI (mi_if_ge_ok (off := 8) (by decide +kernel) (by decide) rfl) <|
  mi_cI (mi_iload_n_ok (k := 1) (by decide +kernel) rfl rfl) <|
  mi_cI (mi_ineg_ok (by decide +kernel) rfl) <|
  mi_cI (mi_goto_ok (off := 4) (by decide +kernel) (by decide)) <|
  mi_cI (mi_iload_n_ok (k := 1) (by decide +kernel) rfl rfl) <|
  mi_cI (mi_istore_n_ok (k := 2) (by decide +kernel) rfl (by decide) rfl) <|
  mi_cI (mi_iload_n_ok (k := 1) (by decide +kernel) rfl rfl) <|
  mi_cI (mi_if_ge_ok (off := 12) (by decide +kernel) (by decide) rfl) <|
  mi_cI (mi_aload_n_ok (k := 0) (by decide +kernel) rfl rfl) <|
  mi_cI (mi_get_ok (by decide +kernel) fl_X5_9 rfl) <|
  mi_cI (mi_bipush_ok (n := 45) (by decide) (by decide +kernel) rfl) <|
  mi_cC ⟨m_X3_add, rfl, okM_X3_add, 47, 1, by decide +kernel, Or.inl ⟨(by decide +kernel), rfl, (mi_gd3 87 rfl rfl), (mi_gd2 53 rfl rfl), (mi_gd2 54 rfl rfl), 3, _, _, rfl, rfl⟩⟩ <|
  mi_cI (mi_aload_n_ok (k := 0) (by decide +kernel) rfl rfl) <|
  mi_cI (mi_iload_n_ok (k := 2) (by decide +kernel) rfl rfl) <|
  mi_cI (mi_sipush_ok (n := 1000) (by decide) (by decide +kernel) rfl) <|
  mi_cI (mi_idiv_ok (by decide +kernel) rfl) <|
  mi_cC ⟨m_X5_writeWhole, rfl, okM_X5_writeWhole, 67, 1, by decide +kernel, Or.inl ⟨(by decide +kernel), rfl, (mi_gd3 100 rfl rfl), (mi_gd3 102 rfl rfl), (mi_gd0 25 rfl rfl), 5, _, _, rfl, rfl⟩⟩ <|
  mi_cI (mi_iload_n_ok (k := 2) (by decide +kernel) rfl rfl) <|
  mi_cI (mi_sipush_ok (n := 1000) (by decide) (by decide +kernel) rfl) <|
  mi_cI (mi_irem_ok (by decide +kernel) rfl) <|
  mi_cI (mi_istore_n_ok (k := 3) (by decide +kernel) rfl (by decide) rfl) <|
  mi_cI (mi_iload_n_ok (k := 3) (by decide +kernel) rfl rfl) <|
  mi_cI (mi_if_le_ok (off := 12) (by decide +kernel) (by decide) rfl) <|
  mi_cI (mi_aload_n_ok (k := 0) (by decide +kernel) rfl rfl) <|
  mi_cI (mi_get_ok (by decide +kernel) fl_X5_9 rfl) <|
  mi_cI (mi_bipush_ok (n := 46) (by decide) (by decide +kernel) rfl) <|
  mi_cC ⟨m_X3_add, rfl, okM_X3_add, 47, 1, by decide +kernel, Or.inl ⟨(by decide +kernel), rfl, (mi_gd3 87 rfl rfl), (mi_gd2 53 rfl rfl), (mi_gd2 54 rfl rfl), 3, _, _, rfl, rfl⟩⟩ <|
  mi_cI (mi_iconst_ok (n := 0) (by decide) (by decide +kernel) rfl) <|
  mi_cI (mi_istore_ok (by decide +kernel) (by decide) rfl) <|
  mi_cI (mi_iload_ok (by decide +kernel) rfl) <|
  mi_cI (mi_iconst_ok (n := 3) (by decide) (by decide +kernel) rfl) <|
  mi_cI (mi_icmp_ge_ok (off := 35) (by decide +kernel) (by decide) rfl) <|
  mi_cI (mi_iload_n_ok (k := 3) (by decide +kernel) rfl rfl) <|
  mi_cI (mi_if_le_ok (off := 31) (by decide +kernel) (by decide) rfl) <|
  mi_cI (mi_aload_n_ok (k := 0) (by decide +kernel) rfl rfl) <|
  mi_cI (mi_get_ok (by decide +kernel) fl_X5_9 rfl) <|
  mi_cI (mi_bipush_ok (n := 48) (by decide) (by decide +kernel) rfl) <|
  mi_cI (mi_iload_n_ok (k := 3) (by decide +kernel) rfl rfl) <|
  mi_cI (mi_bipush_ok (n := 100) (by decide) (by decide +kernel) rfl) <|
  mi_cI (mi_idiv_ok (by decide +kernel) rfl) <|
  mi_cI (mi_iadd_ok (by decide +kernel) rfl) <|
  mi_cC ⟨m_X3_add, rfl, okM_X3_add, 47, 1, by decide +kernel, Or.inl ⟨(by decide +kernel), rfl, (mi_gd3 87 rfl rfl), (mi_gd2 53 rfl rfl), (mi_gd2 54 rfl rfl), 3, _, _, rfl, rfl⟩⟩ <|
  mi_cI (mi_iload_n_ok (k := 3) (by decide +kernel) rfl rfl) <|
  mi_cI (mi_bipush_ok (n := 100) (by decide) (by decide +kernel) rfl) <|
  mi_cI (mi_irem_ok (by decide +kernel) rfl) <|
  mi_cI (mi_bipush_ok (n := 10) (by decide) (by decide +kernel) rfl) <|
  mi_cI (mi_imul_ok (by decide +kernel) rfl) <|
  mi_cI (mi_istore_n_ok (k := 3) (by decide +kernel) rfl (by decide) rfl) <|
  mi_cI (mi_inc_ok (by decide +kernel) (by decide) rfl) <|
  mi_cI (mi_goto_ok (off := (-35)) (by decide +kernel) (by decide)) <|
  mi_cR (Or.inl ⟨rfl, (by decide +kernel), rfl⟩) <| mi_cN
set_option maxRecDepth 100000 in
set_option maxHeartbeats 4000000 in
theorem ok_X5_writeWhole : ∀ q ∈ t_X5_writeWhole, mi_OkE mi_ms RX5 cX5_writeWhole 3 false none q :=
  mi_cI (mi_ldc_ok (index := 118) (by decide +kernel) (mi_gd3 104 rfl rfl) rfl) <|
  mi_cI (mi_istore_n_ok (k := 2) (by decide +kernel) rfl (by decide) rfl) <|
  mi_cI (mi_iload_n_ok (k := 2) (by decide +kernel) rfl rfl) <|
  mi_cI (mi_if_le_ok (off := 37) (by decide +kernel) (by decide) rfl) <|
  mi_cI (mi_iload_n_ok (k := 1) (by decide +kernel) rfl rfl) <|
  mi_cI (mi_iload_n_ok (k := 2) (by decide +kernel) rfl rfl) <|
  mi_cI (mi_icmp_ge_ok (off := 8) (by decide +kernel) (by decide) rfl) <|
  mi_cI (mi_iload_n_ok (k := 2) (by decide +kernel) rfl rfl) <|
  mi_cI (mi_iconst_ok (n := 1) (by decide) (by decide +kernel) rfl) <|
  mi_cI (mi_icmp_ne_ok (off := 19) (by decide +kernel) (by decide) rfl) <|
  mi_cI (mi_aload_n_ok (k := 0) (by decide +kernel) rfl rfl) <|
  mi_cI (mi_get_ok (by decide +kernel) fl_X5_9 rfl) <|
  mi_cI (mi_bipush_ok (n := 48) (by decide) (by decide +kernel) rfl) <|
  mi_cI (mi_iload_n_ok (k := 1) (by decide +kernel) rfl rfl) <|
  mi_cI (mi_iload_n_ok (k := 2) (by decide +kernel) rfl rfl) <|
  mi_cI (mi_idiv_ok (by decide +kernel) rfl) <|
  mi_cI (mi_bipush_ok (n := 10) (by decide) (by decide +kernel) rfl) <|
  mi_cI (mi_irem_ok (by decide +kernel) rfl) <|
  mi_cI (mi_iadd_ok (by decide +kernel) rfl) <|
  mi_cC ⟨m_X3_add, rfl, okM_X3_add, 47, 1, by decide +kernel, Or.inl ⟨(by decide +kernel), rfl, (mi_gd3 87 rfl rfl), (mi_gd2 53 rfl rfl), (mi_gd2 54 rfl rfl), 3, _, _, rfl, rfl⟩⟩ <|
  mi_cI (mi_iload_n_ok (k := 2) (by decide +kernel) rfl rfl) <|
  mi_cI (mi_bipush_ok (n := 10) (by decide) (by decide +kernel) rfl) <|
  mi_cI (mi_idiv_ok (by decide +kernel) rfl) <|
  mi_cI (mi_istore_n_ok (k := 2) (by decide +kernel) rfl (by decide) rfl) <|
  mi_cI (mi_goto_ok (off := (-35)) (by decide +kernel) (by decide)) <|
  mi_cR (Or.inl ⟨rfl, (by decide +kernel), rfl⟩) <| mi_cN
set_option maxRecDepth 100000 in
set_option maxHeartbeats 4000000 in
theorem ok_X6_init : ∀ q ∈ t_X6_init, mi_OkE mi_ms RX6 cX6_init 1 true none q :=
  mi_cI (mi_aload_n_ok (k := 0) (by decide +kernel) rfl rfl) <|
  mi_cI (mi_obj_ok (index := 1) (by decide +kernel) (mi_gd1 23 rfl rfl) (mi_gd1 24 rfl rfl) (mi_gd1 25 rfl rfl) rfl) <|
  mi_cI (mi_aload_n_ok (k := 0) (by decide +kernel) rfl rfl) <|
  mi_cI (mi_new_ok (index := 7) (by decide +kernel) cf_X3 (mi_gd1 26 rfl rfl) (mi_gd1 27 rfl rfl) (mi_gd1 2 rfl rfl) (by decide +kernel) (by decide +kernel) rfl) <|
  mi_cI (mi_dup_ok (by decide +kernel) rfl) <|
  mi_cI (mi_sipush_ok (n := 600) (by decide) (by decide +kernel) rfl) <|
  mi_cC ⟨m_X3_init, rfl, okM_X3_init, 11, 1, by decide +kernel, Or.inr (Or.inl ⟨(by decide +kernel), rfl, (mi_gd1 28 rfl rfl), (mi_gd1 29 rfl rfl), rfl, rfl, 3, rfl⟩)⟩ <|
  mi_cI (mi_putF_ok (by decide +kernel) fl_X6_14 rfl rfl (fun C T N h => by cases h; rfl) (fun C T N h => by cases h; exact (mi_gd2 22 rfl rfl)) rfl) <|
  mi_cI (mi_aload_n_ok (k := 0) (by decide +kernel) rfl rfl) <|
  mi_cI (mi_new_ok (index := 7) (by decide +kernel) cf_X3 (mi_gd1 26 rfl rfl) (mi_gd1 27 rfl rfl) (mi_gd1 2 rfl rfl) (by decide +kernel) (by decide +kernel) rfl) <|
  mi_cI (mi_dup_ok (by decide +kernel) rfl) <|
  mi_cI (mi_sipush_ok (n := 841) (by decide) (by decide +kernel) rfl) <|
  mi_cC ⟨m_X3_init, rfl, okM_X3_init, 11, 1, by decide +kernel, Or.inr (Or.inl ⟨(by decide +kernel), rfl, (mi_gd1 28 rfl rfl), (mi_gd1 29 rfl rfl), rfl, rfl, 3, rfl⟩)⟩ <|
  mi_cI (mi_putF_ok (by decide +kernel) fl_X6_18 rfl rfl (fun C T N h => by cases h; rfl) (fun C T N h => by cases h; exact (mi_gd2 23 rfl rfl)) rfl) <|
  mi_cI (mi_aload_n_ok (k := 0) (by decide +kernel) rfl rfl) <|
  mi_cI (mi_new_ok (index := 21) (by decide +kernel) cf_X5 (mi_gd1 50 rfl rfl) (mi_gd1 51 rfl rfl) (mi_gd1 4 rfl rfl) (by decide +kernel) (by decide +kernel) rfl) <|
  mi_cI (mi_dup_ok (by decide +kernel) rfl) <|
  mi_cI (mi_aload_n_ok (k := 0) (by decide +kernel) rfl rfl) <|
  mi_cI (mi_get_ok (by decide +kernel) fl_X6_18 rfl) <|
  mi_cC ⟨m_X5_init, rfl, okM_X5_init, 23, 1, by decide +kernel, Or.inr (Or.inl ⟨(by decide +kernel), rfl, (mi_gd1 52 rfl rfl), (mi_gd1 53 rfl rfl), rfl, rfl, 5, rfl⟩)⟩ <|
  mi_cI (mi_putF_ok (by decide +kernel) fl_X6_26 rfl rfl (fun C T N h => by cases h; rfl) (fun C T N h => by cases h; exact (mi_gd2 25 rfl rfl)) rfl) <|
  mi_cI (mi_aload_n_ok (k := 0) (by decide +kernel) rfl rfl) <|
  mi_cI (mi_new_ok (index := 30) (by decide +kernel) cf_X1 (mi_gd1 60 rfl rfl) (mi_gd1 61 rfl rfl) (mi_gd1 5 rfl rfl) (by decide +kernel) (by decide +kernel) rfl) <|
  mi_cI (mi_dup_ok (by decide +kernel) rfl) <|
  mi_cC ⟨m_X1_init, rfl, okM_X1_init, 32, 0, by decide +kernel, Or.inr (Or.inl ⟨(by decide +kernel), rfl, (mi_gd1 62 rfl rfl), (mi_gd1 63 rfl rfl), rfl, rfl, 1, rfl⟩)⟩ <|
  mi_cI (mi_put_ok (by decide +kernel) fl_X6_33 rfl rfl) <|
  mi_cI (mi_aload_n_ok (k := 0) (by decide +kernel) rfl rfl) <|
  mi_cI (mi_new_ok (index := 30) (by decide +kernel) cf_X1 (mi_gd1 60 rfl rfl) (mi_gd1 61 rfl rfl) (mi_gd1 5 rfl rfl) (by decide +kernel) (by decide +kernel) rfl) <|
  mi_cI (mi_dup_ok (by decide +kernel) rfl) <|
  mi_cC ⟨m_X1_init, rfl, okM_X1_init, 32, 0, by decide +kernel, Or.inr (Or.inl ⟨(by decide +kernel), rfl, (mi_gd1 62 rfl rfl), (mi_gd1 63 rfl rfl), rfl, rfl, 1, rfl⟩)⟩ <|
  mi_cI (mi_put_ok (by decide +kernel) fl_X6_37 rfl rfl) <|
  mi_cI (mi_aload_n_ok (k := 0) (by decide +kernel) rfl rfl) <|
  mi_cI (mi_new_ok (index := 40) (by decide +kernel) cf_X2 (mi_gd1 169 rfl rfl) (mi_gd1 170 rfl rfl) (mi_gd1 7 rfl rfl) (by decide +kernel) (by decide +kernel) rfl) <|
  mi_cI (mi_dup_ok (by decide +kernel) rfl) <|
  mi_cI (mi_aload_n_ok (k := 0) (by decide +kernel) rfl rfl) <|
  mi_cI (mi_get_ok (by decide +kernel) fl_X6_14 rfl) <|
  mi_cI (mi_aload_n_ok (k := 0) (by decide +kernel) rfl rfl) <|
  mi_cI (mi_get_ok (by decide +kernel) fl_X6_37 rfl) <|
  mi_cC ⟨m_X2_init, rfl, okM_X2_init, 42, 2, by decide +kernel, Or.inr (Or.inl ⟨(by decide +kernel), rfl, (mi_gd1 171 rfl rfl), (mi_gd1 172 rfl rfl), rfl, rfl, 2, rfl⟩)⟩ <|
  mi_cI (mi_putF_ok (by decide +kernel) fl_X6_45 rfl rfl (fun C T N h => by cases h; rfl) (fun C T N h => by cases h; exact (mi_gd2 24 rfl rfl)) rfl) <|
  mi_cI (mi_aload_n_ok (k := 0) (by decide +kernel) rfl rfl) <|
  mi_cI (mi_iconst_ok (n := 0) (by decide) (by decide +kernel) rfl) <|
  mi_cI (mi_put_ok (by decide +kernel) fl_X6_49 rfl rfl) <|
  mi_cI (mi_aload_n_ok (k := 0) (by decide +kernel) rfl rfl) <|
  mi_cI (mi_iconst_ok (n := 0) (by decide) (by decide +kernel) rfl) <|
  mi_cI (mi_put_ok (by decide +kernel) fl_X6_53 rfl rfl) <|
  mi_cR (Or.inl ⟨rfl, (by decide +kernel), rfl⟩) <| mi_cN
set_option maxRecDepth 100000 in
set_option maxHeartbeats 4000000 in
theorem ok_X6_feed : ∀ q ∈ t_X6_feed, mi_OkE mi_ms RX6 cX6_feed 5 false (some .int) q :=
  mi_cI (mi_iload_n_ok (k := 1) (by decide +kernel) rfl rfl) <|
  mi_cI (mi_iconst_ok (n := 1) (by decide) (by decide +kernel) rfl) <|
  mi_cI (mi_icmp_lt_ok (off := 9) (by decide +kernel) (by decide) rfl) <|
  mi_cI (mi_iload_n_ok (k := 1) (by decide +kernel) rfl rfl) <|
  mi_cI (mi_bipush_ok (n := 8) (by decide) (by decide +kernel) rfl) <|
  mi_cI (mi_icmp_le_ok (off := 6) (by decide +kernel) (by decide) rfl) <|
  mi_cI (mi_bipush_ok (n := (-102)) (by decide) (by decide +kernel) rfl) <|
  mi_cR (Or.inr (Or.inl ⟨rfl, (by decide +kernel), rfl⟩)) <|
  mi_cI (mi_aload_n_ok (k := 0) (by decide +kernel) rfl rfl) <|
  mi_cI (mi_get_ok (by decide +kernel) fl_X6_14 rfl) <|
  mi_cI (mi_get_ok (by decide +kernel) fl_X6_57 rfl) <|
  mi_cI (mi_iload_n_ok (k := 1) (by decide +kernel) rfl rfl) <|
  mi_cI (mi_iadd_ok (by decide +kernel) rfl) <|
  mi_cI (mi_sipush_ok (n := 600) (by decide) (by decide +kernel) rfl) <|
  mi_cI (mi_icmp_le_ok (off := 6) (by decide +kernel) (by decide) rfl) <|
  mi_cI (mi_bipush_ok (n := (-104)) (by decide) (by decide +kernel) rfl) <|
  mi_cR (Or.inr (Or.inl ⟨rfl, (by decide +kernel), rfl⟩)) <|
  mi_cI (mi_iload_n_ok (k := 1) (by decide +kernel) rfl rfl) <|
  mi_cI (mi_iconst_ok (n := 1) (by decide) (by decide +kernel) rfl) <|
  mi_cI (mi_isub_ok (by decide +kernel) rfl) <|
  mi_cI (mi_istore_ok (by decide +kernel) (by decide) rfl) <|
  mi_cI (mi_iload_ok (by decide +kernel) rfl) <|
  mi_cI (mi_if_lt_ok (off := 28) (by decide +kernel) (by decide) rfl) <|
  mi_cI (mi_aload_n_ok (k := 0) (by decide +kernel) rfl rfl) <|
  mi_cI (mi_get_ok (by decide +kernel) fl_X6_14 rfl) <|
  mi_cI (mi_lload_n_ok (k := 2) (by decide +kernel) rfl rfl) <|
  mi_cI (mi_bipush_ok (n := 8) (by decide) (by decide +kernel) rfl) <|
  mi_cI (mi_iload_ok (by decide +kernel) rfl) <|
  mi_cI (mi_imul_ok (by decide +kernel) rfl) <|
  mi_cI (mi_lushr_ok (by decide +kernel) rfl) <|
  mi_cI (mi_ldc2_ok (index := 60) (by decide +kernel) (mi_gd2 51 rfl rfl) rfl) <|
  mi_cI (mi_land_ok (by decide +kernel) rfl) <|
  mi_cI (mi_l2i_ok (by decide +kernel) rfl) <|
  mi_cC ⟨m_X3_add, rfl, okM_X3_add, 62, 1, by decide +kernel, Or.inl ⟨(by decide +kernel), rfl, (mi_gd2 52 rfl rfl), (mi_gd2 53 rfl rfl), (mi_gd2 54 rfl rfl), 3, _, _, rfl, rfl⟩⟩ <|
  mi_cI (mi_inc_ok (by decide +kernel) (by decide) rfl) <|
  mi_cI (mi_goto_ok (off := (-27)) (by decide +kernel) (by decide)) <|
  mi_cI (mi_aload_n_ok (k := 0) (by decide +kernel) rfl rfl) <|
  mi_cI (mi_get_ok (by decide +kernel) fl_X6_14 rfl) <|
  mi_cI (mi_get_ok (by decide +kernel) fl_X6_57 rfl) <|
  mi_cR (Or.inr (Or.inl ⟨rfl, (by decide +kernel), rfl⟩)) <| mi_cN
set_option maxRecDepth 100000 in
set_option maxHeartbeats 4000000 in
theorem ok_X6_read : ∀ q ∈ t_X6_read, mi_OkE mi_ms RX6 cX6_read 3 false (some .int) q :=
  mi_cI (mi_aload_n_ok (k := 0) (by decide +kernel) rfl rfl) <|
  mi_cI (mi_get_ok (by decide +kernel) fl_X6_45 rfl) <|
  mi_cI (mi_aload_n_ok (k := 0) (by decide +kernel) rfl rfl) <|
  mi_cI (mi_get_ok (by decide +kernel) fl_X6_14 rfl) <|
  mi_cI (mi_aload_n_ok (k := 0) (by decide +kernel) rfl rfl) <|
  mi_cI (mi_get_ok (by decide +kernel) fl_X6_37 rfl) <|
  mi_cI (mi_aload_n_ok (k := 0) (by decide +kernel) rfl rfl) <|
  mi_cI (mi_get_ok (by decide +kernel) fl_X6_53 rfl) <|
  mi_cC ⟨m_X2_readText, rfl, okM_X2_readText, 65, 3, by decide +kernel, Or.inl ⟨(by decide +kernel), rfl, (mi_gd2 60 rfl rfl), (mi_gd2 61 rfl rfl), (mi_gd2 62 rfl rfl), 2, _, _, rfl, rfl⟩⟩ <|
  mi_cI (mi_istore_n_ok (k := 1) (by decide +kernel) rfl (by decide) rfl) <|
  mi_cI (mi_aload_n_ok (k := 0) (by decide +kernel) rfl rfl) <|
  mi_cI (mi_get_ok (by decide +kernel) fl_X6_14 rfl) <|
  mi_cC ⟨m_X3_clear, rfl, okM_X3_clear, 69, 0, by decide +kernel, Or.inl ⟨(by decide +kernel), rfl, (mi_gd3 41 rfl rfl), (mi_gd2 81 rfl rfl), (mi_gd2 82 rfl rfl), 3, _, _, rfl, rfl⟩⟩ <|
  mi_cI (mi_iload_n_ok (k := 1) (by decide +kernel) rfl rfl) <|
  mi_cI (mi_if_ne_ok (off := 17) (by decide +kernel) (by decide) rfl) <|
  mi_cI (mi_bipush_ok (n := (-10)) (by decide) (by decide +kernel) rfl) <|
  mi_cI (mi_aload_n_ok (k := 0) (by decide +kernel) rfl rfl) <|
  mi_cI (mi_get_ok (by decide +kernel) fl_X6_45 rfl) <|
  mi_cI (mi_get_ok (by decide +kernel) fl_X6_72 rfl) <|
  mi_cI (mi_get_ok (by decide +kernel) fl_X6_76 rfl) <|
  mi_cI (mi_isub_ok (by decide +kernel) rfl) <|
  mi_cR (Or.inr (Or.inl ⟨rfl, (by decide +kernel), rfl⟩)) <|
  mi_cI (mi_aload_n_ok (k := 0) (by decide +kernel) rfl rfl) <|
  mi_cI (mi_get_ok (by decide +kernel) fl_X6_33 rfl) <|
  mi_cI (mi_astore_n_ok (k := 2) (by decide +kernel) rfl (by decide) rfl) <|
  mi_cI (mi_aload_n_ok (k := 0) (by decide +kernel) rfl rfl) <|
  mi_cI (mi_aload_n_ok (k := 0) (by decide +kernel) rfl rfl) <|
  mi_cI (mi_get_ok (by decide +kernel) fl_X6_37 rfl) <|
  mi_cI (mi_put_ok (by decide +kernel) fl_X6_33 rfl rfl) <|
  mi_cI (mi_aload_n_ok (k := 0) (by decide +kernel) rfl rfl) <|
  mi_cI (mi_aload_n_ok (k := 2) (by decide +kernel) rfl rfl) <|
  mi_cI (mi_put_ok (by decide +kernel) fl_X6_37 rfl rfl) <|
  mi_cI (mi_aload_n_ok (k := 0) (by decide +kernel) rfl rfl) <|
  mi_cI (mi_iconst_ok (n := 1) (by decide) (by decide +kernel) rfl) <|
  mi_cI (mi_put_ok (by decide +kernel) fl_X6_49 rfl rfl) <|
  mi_cI (mi_aload_n_ok (k := 0) (by decide +kernel) rfl rfl) <|
  mi_cI (mi_get_ok (by decide +kernel) fl_X6_33 rfl) <|
  mi_cC ⟨m_X1_arcCount, rfl, okM_X1_arcCount, 81, 0, by decide +kernel, Or.inl ⟨(by decide +kernel), rfl, (mi_gd3 42 rfl rfl), (mi_gd3 13 rfl rfl), (mi_gd3 14 rfl rfl), 1, _, _, rfl, rfl⟩⟩ <|
  mi_cR (Or.inr (Or.inl ⟨rfl, (by decide +kernel), rfl⟩)) <| mi_cN
set_option maxRecDepth 100000 in
set_option maxHeartbeats 4000000 in
theorem ok_X6_fault : ∀ q ∈ t_X6_fault, mi_OkE mi_ms RX6 cX6_fault 2 false (some .int) q :=
  mi_cI (mi_iload_n_ok (k := 1) (by decide +kernel) rfl rfl) <|
  mi_cI (mi_if_lt_ok (off := 8) (by decide +kernel) (by decide) rfl) <|
  mi_cI (mi_iload_n_ok (k := 1) (by decide +kernel) rfl rfl) <|
  mi_cI (mi_iconst_ok (n := 1) (by decide) (by decide +kernel) rfl) <|
  mi_cI (mi_icmp_le_ok (off := 6) (by decide +kernel) (by decide) rfl) <|
  mi_cI (mi_bipush_ok (n := (-102)) (by decide) (by decide +kernel) rfl) <|
  mi_cR (Or.inr (Or.inl ⟨rfl, (by decide +kernel), rfl⟩)) <|
  mi_cI (mi_aload_n_ok (k := 0) (by decide +kernel) rfl rfl) <|
  mi_cI (mi_get_ok (by decide +kernel) fl_X6_45 rfl) <|
  mi_cI (mi_get_ok (by decide +kernel) fl_X6_72 rfl) <|
  mi_cI (mi_get_ok (by decide +kernel) fl_X6_76 rfl) <|
  mi_cI (mi_if_ne_ok (off := 5) (by decide +kernel) (by decide) rfl) <|
  mi_cI (mi_iconst_ok (n := (-1)) (by decide) (by decide +kernel) rfl) <|
  mi_cR (Or.inr (Or.inl ⟨rfl, (by decide +kernel), rfl⟩)) <|
  mi_cI (mi_iload_n_ok (k := 1) (by decide +kernel) rfl rfl) <|
  mi_cI (mi_if_ne_ok (off := 16) (by decide +kernel) (by decide) rfl) <|
  mi_cI (mi_aload_n_ok (k := 0) (by decide +kernel) rfl rfl) <|
  mi_cI (mi_get_ok (by decide +kernel) fl_X6_45 rfl) <|
  mi_cI (mi_get_ok (by decide +kernel) fl_X6_72 rfl) <|
  mi_cI (mi_get_ok (by decide +kernel) fl_X6_85 rfl) <|
  mi_cI (mi_goto_ok (off := 13) (by decide +kernel) (by decide)) <|
  mi_cI (mi_aload_n_ok (k := 0) (by decide +kernel) rfl rfl) <|
  mi_cI (mi_get_ok (by decide +kernel) fl_X6_45 rfl) <|
  mi_cI (mi_get_ok (by decide +kernel) fl_X6_72 rfl) <|
  mi_cI (mi_get_ok (by decide +kernel) fl_X6_88 rfl) <|
  mi_cR (Or.inr (Or.inl ⟨rfl, (by decide +kernel), rfl⟩)) <| mi_cN
set_option maxRecDepth 100000 in
set_option maxHeartbeats 4000000 in
theorem ok_X6_manner : ∀ q ∈ t_X6_manner, mi_OkE mi_ms RX6 cX6_manner 3 false (some .int) q :=
  mi_cI (mi_iload_n_ok (k := 1) (by decide +kernel) rfl rfl) <|
  mi_cI (mi_if_lt_ok (off := 8) (by decide +kernel) (by decide) rfl) <|
  mi_cI (mi_iload_n_ok (k := 1) (by decide +kernel) rfl rfl) <|
  mi_cI (mi_iconst_ok (n := 2) (by decide) (by decide +kernel) rfl) <|
  mi_cI (mi_icmp_le_ok (off := 6) (by decide +kernel) (by decide) rfl) <|
  mi_cI (mi_bipush_ok (n := (-102)) (by decide) (by decide +kernel) rfl) <|
  mi_cR (Or.inr (Or.inl ⟨rfl, (by decide +kernel), rfl⟩)) <|
  mi_cI (mi_aload_n_ok (k := 0) (by decide +kernel) rfl rfl) <|
  mi_cI (mi_get_ok (by decide +kernel) fl_X6_53 rfl) <|
  mi_cI (mi_istore_n_ok (k := 2) (by decide +kernel) rfl (by decide) rfl) <|
  mi_cI (mi_aload_n_ok (k := 0) (by decide +kernel) rfl rfl) <|
  mi_cI (mi_iload_n_ok (k := 1) (by decide +kernel) rfl rfl) <|
  mi_cI (mi_put_ok (by decide +kernel) fl_X6_53 rfl rfl) <|
  mi_cI (mi_iload_n_ok (k := 2) (by decide +kernel) rfl rfl) <|
  mi_cR (Or.inr (Or.inl ⟨rfl, (by decide +kernel), rfl⟩)) <| mi_cN
set_option maxRecDepth 100000 in
set_option maxHeartbeats 4000000 in
theorem ok_X6_find : ∀ q ∈ t_X6_find, mi_OkE mi_ms RX6 cX6_find 2 false (some .int) q :=
  mi_cI (mi_aload_n_ok (k := 0) (by decide +kernel) rfl rfl) <|
  mi_cI (mi_get_ok (by decide +kernel) fl_X6_33 rfl) <|
  mi_cI (mi_get_ok (by decide +kernel) fl_X6_91 rfl) <|
  mi_cI (mi_aload_n_ok (k := 0) (by decide +kernel) rfl rfl) <|
  mi_cI (mi_get_ok (by decide +kernel) fl_X6_14 rfl) <|
  mi_cI (mi_iconst_ok (n := 0) (by decide) (by decide +kernel) rfl) <|
  mi_cI (mi_aload_n_ok (k := 0) (by decide +kernel) rfl rfl) <|
  mi_cI (mi_get_ok (by decide +kernel) fl_X6_14 rfl) <|
  mi_cI (mi_get_ok (by decide +kernel) fl_X6_57 rfl) <|
  mi_cC ⟨m_X4_indexOf, rfl, okM_X4_indexOf, 95, 3, by decide +kernel, Or.inl ⟨(by decide +kernel), rfl, (mi_gd3 55 rfl rfl), (mi_gd2 162 rfl rfl), (mi_gd2 163 rfl rfl), 4, _, _, rfl, rfl⟩⟩ <|
  mi_cI (mi_istore_n_ok (k := 1) (by decide +kernel) rfl (by decide) rfl) <|
  mi_cI (mi_aload_n_ok (k := 0) (by decide +kernel) rfl rfl) <|
  mi_cI (mi_get_ok (by decide +kernel) fl_X6_14 rfl) <|
  mi_cC ⟨m_X3_clear, rfl, okM_X3_clear, 69, 0, by decide +kernel, Or.inl ⟨(by decide +kernel), rfl, (mi_gd3 41 rfl rfl), (mi_gd2 81 rfl rfl), (mi_gd2 82 rfl rfl), 3, _, _, rfl, rfl⟩⟩ <|
  mi_cI (mi_iload_n_ok (k := 1) (by decide +kernel) rfl rfl) <|
  mi_cI (mi_iconst_ok (n := (-1)) (by decide) (by decide +kernel) rfl) <|
  mi_cI (mi_icmp_ne_ok (off := 7) (by decide +kernel) (by decide) rfl) <|
  mi_cI (mi_iconst_ok (n := (-1)) (by decide) (by decide +kernel) rfl) <|
  mi_cI (mi_goto_ok (off := 4) (by decide +kernel) (by decide)) <|
  mi_cI (mi_iload_n_ok (k := 1) (by decide +kernel) rfl rfl) <|
  mi_cR (Or.inr (Or.inl ⟨rfl, (by decide +kernel), rfl⟩)) <| mi_cN
set_option maxRecDepth 100000 in
set_option maxHeartbeats 4000000 in
theorem ok_X6_node : ∀ q ∈ t_X6_node, mi_OkE mi_ms RX6 cX6_node 3 false (some .int) q :=
  mi_cI (mi_aload_n_ok (k := 0) (by decide +kernel) rfl rfl) <|
  mi_cI (mi_get_ok (by decide +kernel) fl_X6_33 rfl) <|
  mi_cI (mi_get_ok (by decide +kernel) fl_X6_91 rfl) <|
  mi_cI (mi_iload_n_ok (k := 1) (by decide +kernel) rfl rfl) <|
  mi_cI (mi_iload_n_ok (k := 2) (by decide +kernel) rfl rfl) <|
  mi_cC ⟨m_X6_signOfSpan, rfl, okM_X6_signOfSpan, 101, 3, by decide +kernel, Or.inr (Or.inr ⟨(by decide +kernel), rfl, (mi_gd3 234 rfl rfl), Or.inl (mi_gd3 233 rfl rfl)⟩)⟩ <|
  mi_cR (Or.inr (Or.inl ⟨rfl, (by decide +kernel), rfl⟩)) <| mi_cN
set_option maxRecDepth 100000 in
set_option maxHeartbeats 4000000 in
theorem ok_X6_arc : ∀ q ∈ t_X6_arc, mi_OkE mi_ms RX6 cX6_arc 3 false (some .int) q :=
  mi_cI (mi_aload_n_ok (k := 0) (by decide +kernel) rfl rfl) <|
  mi_cI (mi_get_ok (by decide +kernel) fl_X6_33 rfl) <|
  mi_cI (mi_get_ok (by decide +kernel) fl_X6_105 rfl) <|
  mi_cI (mi_iload_n_ok (k := 1) (by decide +kernel) rfl rfl) <|
  mi_cC ⟨m_X3_has, rfl, okM_X3_has, 108, 1, by decide +kernel, Or.inl ⟨(by decide +kernel), rfl, (mi_gd3 60 rfl rfl), (mi_gd3 61 rfl rfl), (mi_gd3 62 rfl rfl), 3, _, _, rfl, rfl⟩⟩ <|
  mi_cI (mi_if_ne_ok (off := 6) (by decide +kernel) (by decide) rfl) <|
  mi_cI (mi_bipush_ok (n := (-101)) (by decide) (by decide +kernel) rfl) <|
  mi_cR (Or.inr (Or.inl ⟨rfl, (by decide +kernel), rfl⟩)) <|
  mi_cI (mi_iload_n_ok (k := 2) (by decide +kernel) rfl rfl) <|
  mi_cI (mi_tab_ok (dflt := 75) (offs := #[30, 42, 54, 66]) (len := 30) (by decide +kernel) (by decide) (by decide) (by decide +kernel)) <|
  mi_cI (mi_aload_n_ok (k := 0) (by decide +kernel) rfl rfl) <|
  mi_cI (mi_get_ok (by decide +kernel) fl_X6_33 rfl) <|
  mi_cI (mi_get_ok (by decide +kernel) fl_X6_105 rfl) <|
  mi_cI (mi_iload_n_ok (k := 1) (by decide +kernel) rfl rfl) <|
  mi_cC ⟨m_X3_at, rfl, okM_X3_at, 112, 1, by decide +kernel, Or.inl ⟨(by decide +kernel), rfl, (mi_gd3 64 rfl rfl), (mi_gd2 170 rfl rfl), (mi_gd2 171 rfl rfl), 3, _, _, rfl, rfl⟩⟩ <|
  mi_cR (Or.inr (Or.inl ⟨rfl, (by decide +kernel), rfl⟩)) <|
  mi_cI (mi_aload_n_ok (k := 0) (by decide +kernel) rfl rfl) <|
  mi_cI (mi_get_ok (by decide +kernel) fl_X6_33 rfl) <|
  mi_cI (mi_get_ok (by decide +kernel) fl_X6_116 rfl) <|
  mi_cI (mi_iload_n_ok (k := 1) (by decide +kernel) rfl rfl) <|
  mi_cC ⟨m_X3_at, rfl, okM_X3_at, 112, 1, by decide +kernel, Or.inl ⟨(by decide +kernel), rfl, (mi_gd3 64 rfl rfl), (mi_gd2 170 rfl rfl), (mi_gd2 171 rfl rfl), 3, _, _, rfl, rfl⟩⟩ <|
  mi_cR (Or.inr (Or.inl ⟨rfl, (by decide +kernel), rfl⟩)) <|
  mi_cI (mi_aload_n_ok (k := 0) (by decide +kernel) rfl rfl) <|
  mi_cI (mi_get_ok (by decide +kernel) fl_X6_33 rfl) <|
  mi_cI (mi_get_ok (by decide +kernel) fl_X6_119 rfl) <|
  mi_cI (mi_iload_n_ok (k := 1) (by decide +kernel) rfl rfl) <|
  mi_cC ⟨m_X3_at, rfl, okM_X3_at, 112, 1, by decide +kernel, Or.inl ⟨(by decide +kernel), rfl, (mi_gd3 64 rfl rfl), (mi_gd2 170 rfl rfl), (mi_gd2 171 rfl rfl), 3, _, _, rfl, rfl⟩⟩ <|
  mi_cR (Or.inr (Or.inl ⟨rfl, (by decide +kernel), rfl⟩)) <|
  mi_cI (mi_aload_n_ok (k := 0) (by decide +kernel) rfl rfl) <|
  mi_cI (mi_get_ok (by decide +kernel) fl_X6_33 rfl) <|
  mi_cI (mi_iload_n_ok (k := 1) (by decide +kernel) rfl rfl) <|
  mi_cC ⟨m_X1_missingOf, rfl, okM_X1_missingOf, 122, 1, by decide +kernel, Or.inl ⟨(by decide +kernel), rfl, (mi_gd3 65 rfl rfl), (mi_gd3 66 rfl rfl), (mi_gd3 67 rfl rfl), 1, _, _, rfl, rfl⟩⟩ <|
  mi_cR (Or.inr (Or.inl ⟨rfl, (by decide +kernel), rfl⟩)) <|
  mi_cI (mi_bipush_ok (n := (-102)) (by decide) (by decide +kernel) rfl) <|
  mi_cR (Or.inr (Or.inl ⟨rfl, (by decide +kernel), rfl⟩)) <| mi_cN
set_option maxRecDepth 100000 in
set_option maxHeartbeats 4000000 in
theorem ok_X6_kind : ∀ q ∈ t_X6_kind, mi_OkE mi_ms RX6 cX6_kind 2 false (some .int) q :=
  mi_cI (mi_aload_n_ok (k := 0) (by decide +kernel) rfl rfl) <|
  mi_cI (mi_get_ok (by decide +kernel) fl_X6_33 rfl) <|
  mi_cI (mi_get_ok (by decide +kernel) fl_X6_125 rfl) <|
  mi_cI (mi_iload_n_ok (k := 1) (by decide +kernel) rfl rfl) <|
  mi_cC ⟨m_X3_has, rfl, okM_X3_has, 108, 1, by decide +kernel, Or.inl ⟨(by decide +kernel), rfl, (mi_gd3 60 rfl rfl), (mi_gd3 61 rfl rfl), (mi_gd3 62 rfl rfl), 3, _, _, rfl, rfl⟩⟩ <|
  mi_cI (mi_if_eq_ok (off := 17) (by decide +kernel) (by decide) rfl) <|
  mi_cI (mi_aload_n_ok (k := 0) (by decide +kernel) rfl rfl) <|
  mi_cI (mi_get_ok (by decide +kernel) fl_X6_33 rfl) <|
  mi_cI (mi_get_ok (by decide +kernel) fl_X6_125 rfl) <|
  mi_cI (mi_iload_n_ok (k := 1) (by decide +kernel) rfl rfl) <|
  mi_cC ⟨m_X3_at, rfl, okM_X3_at, 112, 1, by decide +kernel, Or.inl ⟨(by decide +kernel), rfl, (mi_gd3 64 rfl rfl), (mi_gd2 170 rfl rfl), (mi_gd2 171 rfl rfl), 3, _, _, rfl, rfl⟩⟩ <|
  mi_cI (mi_goto_ok (off := 5) (by decide +kernel) (by decide)) <|
  mi_cI (mi_bipush_ok (n := (-101)) (by decide) (by decide +kernel) rfl) <|
  mi_cR (Or.inr (Or.inl ⟨rfl, (by decide +kernel), rfl⟩)) <| mi_cN
set_option maxRecDepth 100000 in
set_option maxHeartbeats 4000000 in
theorem ok_X6_head : ∀ q ∈ t_X6_head, mi_OkE mi_ms RX6 cX6_head 3 false (some .int) q :=
  mi_cI (mi_aload_n_ok (k := 0) (by decide +kernel) rfl rfl) <|
  mi_cI (mi_get_ok (by decide +kernel) fl_X6_33 rfl) <|
  mi_cI (mi_get_ok (by decide +kernel) fl_X6_128 rfl) <|
  mi_cI (mi_iload_n_ok (k := 1) (by decide +kernel) rfl rfl) <|
  mi_cI (mi_iload_n_ok (k := 2) (by decide +kernel) rfl rfl) <|
  mi_cC ⟨m_X6_signOfSpan, rfl, okM_X6_signOfSpan, 101, 3, by decide +kernel, Or.inr (Or.inr ⟨(by decide +kernel), rfl, (mi_gd3 234 rfl rfl), Or.inl (mi_gd3 233 rfl rfl)⟩)⟩ <|
  mi_cR (Or.inr (Or.inl ⟨rfl, (by decide +kernel), rfl⟩)) <| mi_cN
set_option maxRecDepth 100000 in
set_option maxHeartbeats 4000000 in
theorem ok_X6_value : ∀ q ∈ t_X6_value, mi_OkE mi_ms RX6 cX6_value 4 false (some .int) q :=
  mi_cI (mi_aload_n_ok (k := 0) (by decide +kernel) rfl rfl) <|
  mi_cI (mi_get_ok (by decide +kernel) fl_X6_33 rfl) <|
  mi_cI (mi_iload_n_ok (k := 1) (by decide +kernel) rfl rfl) <|
  mi_cI (mi_iload_n_ok (k := 2) (by decide +kernel) rfl rfl) <|
  mi_cC ⟨m_X1_hasValue, rfl, okM_X1_hasValue, 131, 2, by decide +kernel, Or.inl ⟨(by decide +kernel), rfl, (mi_gd4 59 rfl rfl), (mi_gd4 60 rfl rfl), (mi_gd4 61 rfl rfl), 1, _, _, rfl, rfl⟩⟩ <|
  mi_cI (mi_if_ne_ok (off := 6) (by decide +kernel) (by decide) rfl) <|
  mi_cI (mi_bipush_ok (n := (-101)) (by decide) (by decide +kernel) rfl) <|
  mi_cR (Or.inr (Or.inl ⟨rfl, (by decide +kernel), rfl⟩)) <|
  mi_cI (mi_aload_n_ok (k := 0) (by decide +kernel) rfl rfl) <|
  mi_cI (mi_get_ok (by decide +kernel) fl_X6_33 rfl) <|
  mi_cI (mi_iload_n_ok (k := 1) (by decide +kernel) rfl rfl) <|
  mi_cI (mi_iload_n_ok (k := 2) (by decide +kernel) rfl rfl) <|
  mi_cC ⟨m_X1_roomOf, rfl, okM_X1_roomOf, 135, 2, by decide +kernel, Or.inl ⟨(by decide +kernel), rfl, (mi_gd4 65 rfl rfl), (mi_gd2 237 rfl rfl), (mi_gd2 238 rfl rfl), 1, _, _, rfl, rfl⟩⟩ <|
  mi_cI (mi_istore_n_ok (k := 3) (by decide +kernel) rfl (by decide) rfl) <|
  mi_cI (mi_aload_n_ok (k := 0) (by decide +kernel) rfl rfl) <|
  mi_cI (mi_get_ok (by decide +kernel) fl_X6_33 rfl) <|
  mi_cI (mi_get_ok (by decide +kernel) fl_X6_139 rfl) <|
  mi_cI (mi_iload_n_ok (k := 3) (by decide +kernel) rfl rfl) <|
  mi_cC ⟨m_X3_at, rfl, okM_X3_at, 112, 1, by decide +kernel, Or.inl ⟨(by decide +kernel), rfl, (mi_gd3 64 rfl rfl), (mi_gd2 170 rfl rfl), (mi_gd2 171 rfl rfl), 3, _, _, rfl, rfl⟩⟩ <|
  mi_cI (mi_if_ne_ok (off := 13) (by decide +kernel) (by decide) rfl) <|
  mi_cT <|
  mi_cI (mi_aload_n_ok (k := 0) (by decide +kernel) rfl rfl) <|
  mi_cI (mi_get_ok (by decide +kernel) fl_X6_33 rfl) <|
  mi_cI (mi_get_ok (by decide +kernel) fl_X6_125 rfl) <|
  mi_cI (mi_iload_n_ok (k := 2) (by decide +kernel) rfl rfl) <|
  mi_cC ⟨m_X3_at, rfl, okM_X3_at, 112, 1, by decide +kernel, Or.inl ⟨(by decide +kernel), rfl, (mi_gd3 64 rfl rfl), (mi_gd2 170 rfl rfl), (mi_gd2 171 rfl rfl), 3, _, _, rfl, rfl⟩⟩ <|
  mi_cI (mi_iconst_ok (n := 2) (by decide) (by decide +kernel) rfl) <|
  mi_cI (mi_icmp_ne_ok (off := 13) (by decide +kernel) (by decide) rfl) <|
  mi_cT <|
  mi_cI (mi_aload_n_ok (k := 0) (by decide +kernel) rfl rfl) <|
  mi_cI (mi_get_ok (by decide +kernel) fl_X6_33 rfl) <|
  mi_cI (mi_get_ok (by decide +kernel) fl_X6_154 rfl) <|
  mi_cI (mi_iload_n_ok (k := 3) (by decide +kernel) rfl rfl) <|
  mi_cC ⟨m_X3_at, rfl, okM_X3_at, 112, 1, by decide +kernel, Or.inl ⟨(by decide +kernel), rfl, (mi_gd3 64 rfl rfl), (mi_gd2 170 rfl rfl), (mi_gd2 171 rfl rfl), 3, _, _, rfl, rfl⟩⟩ <|
  mi_cR (Or.inr (Or.inl ⟨rfl, (by decide +kernel), rfl⟩)) <| mi_cN
set_option maxRecDepth 100000 in
set_option maxHeartbeats 4000000 in
theorem ok_X6_sign : ∀ q ∈ t_X6_sign, mi_OkE mi_ms RX6 cX6_sign 5 false (some .int) q :=
  mi_cI (mi_aload_n_ok (k := 0) (by decide +kernel) rfl rfl) <|
  mi_cI (mi_get_ok (by decide +kernel) fl_X6_33 rfl) <|
  mi_cI (mi_iload_n_ok (k := 1) (by decide +kernel) rfl rfl) <|
  mi_cI (mi_iload_n_ok (k := 2) (by decide +kernel) rfl rfl) <|
  mi_cC ⟨m_X1_hasValue, rfl, okM_X1_hasValue, 131, 2, by decide +kernel, Or.inl ⟨(by decide +kernel), rfl, (mi_gd4 59 rfl rfl), (mi_gd4 60 rfl rfl), (mi_gd4 61 rfl rfl), 1, _, _, rfl, rfl⟩⟩ <|
  mi_cI (mi_if_ne_ok (off := 6) (by decide +kernel) (by decide) rfl) <|
  mi_cI (mi_bipush_ok (n := (-101)) (by decide) (by decide +kernel) rfl) <|
  mi_cR (Or.inr (Or.inl ⟨rfl, (by decide +kernel), rfl⟩)) <|
  mi_cI (mi_aload_n_ok (k := 0) (by decide +kernel) rfl rfl) <|
  mi_cI (mi_get_ok (by decide +kernel) fl_X6_33 rfl) <|
  mi_cI (mi_iload_n_ok (k := 1) (by decide +kernel) rfl rfl) <|
  mi_cI (mi_iload_n_ok (k := 2) (by decide +kernel) rfl rfl) <|
  mi_cC ⟨m_X1_roomOf, rfl, okM_X1_roomOf, 135, 2, by decide +kernel, Or.inl ⟨(by decide +kernel), rfl, (mi_gd4 65 rfl rfl), (mi_gd2 237 rfl rfl), (mi_gd2 238 rfl rfl), 1, _, _, rfl, rfl⟩⟩ <|
  mi_cI (mi_istore_ok (by decide +kernel) (by decide) rfl) <|
  mi_cI (mi_aload_n_ok (k := 0) (by decide +kernel) rfl rfl) <|
  mi_cI (mi_get_ok (by decide +kernel) fl_X6_33 rfl) <|
  mi_cI (mi_get_ok (by decide +kernel) fl_X6_139 rfl) <|
  mi_cI (mi_iload_ok (by decide +kernel) rfl) <|
  mi_cC ⟨m_X3_at, rfl, okM_X3_at, 112, 1, by decide +kernel, Or.inl ⟨(by decide +kernel), rfl, (mi_gd3 64 rfl rfl), (mi_gd2 170 rfl rfl), (mi_gd2 171 rfl rfl), 3, _, _, rfl, rfl⟩⟩ <|
  mi_cI (mi_if_ne_ok (off := 13) (by decide +kernel) (by decide) rfl) <|
  mi_cT <|
  mi_cI (mi_aload_n_ok (k := 0) (by decide +kernel) rfl rfl) <|
  mi_cI (mi_get_ok (by decide +kernel) fl_X6_33 rfl) <|
  mi_cI (mi_get_ok (by decide +kernel) fl_X6_125 rfl) <|
  mi_cI (mi_iload_n_ok (k := 2) (by decide +kernel) rfl rfl) <|
  mi_cC ⟨m_X3_at, rfl, okM_X3_at, 112, 1, by decide +kernel, Or.inl ⟨(by decide +kernel), rfl, (mi_gd3 64 rfl rfl), (mi_gd2 170 rfl rfl), (mi_gd2 171 rfl rfl), 3, _, _, rfl, rfl⟩⟩ <|
  mi_cI (mi_iconst_ok (n := 2) (by decide) (by decide +kernel) rfl) <|
  mi_cI (mi_icmp_eq_ok (off := 13) (by decide +kernel) (by decide) rfl) <|
  mi_cT <|
  mi_cI (mi_aload_n_ok (k := 0) (by decide +kernel) rfl rfl) <|
  mi_cI (mi_get_ok (by decide +kernel) fl_X6_33 rfl) <|
  mi_cI (mi_get_ok (by decide +kernel) fl_X6_159 rfl) <|
  mi_cI (mi_iload_ok (by decide +kernel) rfl) <|
  mi_cI (mi_iload_n_ok (k := 3) (by decide +kernel) rfl rfl) <|
  mi_cC ⟨m_X6_signOfSpan, rfl, okM_X6_signOfSpan, 101, 3, by decide +kernel, Or.inr (Or.inr ⟨(by decide +kernel), rfl, (mi_gd3 234 rfl rfl), Or.inl (mi_gd3 233 rfl rfl)⟩)⟩ <|
  mi_cR (Or.inr (Or.inl ⟨rfl, (by decide +kernel), rfl⟩)) <| mi_cN
set_option maxRecDepth 100000 in
set_option maxHeartbeats 4000000 in
theorem ok_X6_comment : ∀ q ∈ t_X6_comment, mi_OkE mi_ms RX6 cX6_comment 3 false (some .int) q :=
  mi_cI (mi_aload_n_ok (k := 0) (by decide +kernel) rfl rfl) <|
  mi_cI (mi_get_ok (by decide +kernel) fl_X6_33 rfl) <|
  mi_cI (mi_get_ok (by decide +kernel) fl_X6_162 rfl) <|
  mi_cI (mi_iload_n_ok (k := 1) (by decide +kernel) rfl rfl) <|
  mi_cI (mi_iload_n_ok (k := 2) (by decide +kernel) rfl rfl) <|
  mi_cC ⟨m_X6_signOfSpan, rfl, okM_X6_signOfSpan, 101, 3, by decide +kernel, Or.inr (Or.inr ⟨(by decide +kernel), rfl, (mi_gd3 234 rfl rfl), Or.inl (mi_gd3 233 rfl rfl)⟩)⟩ <|
  mi_cR (Or.inr (Or.inl ⟨rfl, (by decide +kernel), rfl⟩)) <| mi_cN
set_option maxRecDepth 100000 in
set_option maxHeartbeats 4000000 in
theorem ok_X6_print : ∀ q ∈ t_X6_print, mi_OkE mi_ms RX6 cX6_print 1 false (some .int) q :=
  mi_cI (mi_aload_n_ok (k := 0) (by decide +kernel) rfl rfl) <|
  mi_cI (mi_get_ok (by decide +kernel) fl_X6_49 rfl) <|
  mi_cI (mi_if_ne_ok (off := 6) (by decide +kernel) (by decide) rfl) <|
  mi_cI (mi_bipush_ok (n := (-103)) (by decide) (by decide +kernel) rfl) <|
  mi_cR (Or.inr (Or.inl ⟨rfl, (by decide +kernel), rfl⟩)) <|
  mi_cI (mi_aload_n_ok (k := 0) (by decide +kernel) rfl rfl) <|
  mi_cI (mi_get_ok (by decide +kernel) fl_X6_26 rfl) <|
  mi_cI (mi_aload_n_ok (k := 0) (by decide +kernel) rfl rfl) <|
  mi_cI (mi_get_ok (by decide +kernel) fl_X6_33 rfl) <|
  mi_cC ⟨m_X5_writeGraph, rfl, okM_X5_writeGraph, 165, 1, by decide +kernel, Or.inl ⟨(by decide +kernel), rfl, (mi_gd3 77 rfl rfl), (mi_gd3 78 rfl rfl), (mi_gd3 79 rfl rfl), 5, _, _, rfl, rfl⟩⟩ <|
  mi_cI (mi_aload_n_ok (k := 0) (by decide +kernel) rfl rfl) <|
  mi_cI (mi_get_ok (by decide +kernel) fl_X6_18 rfl) <|
  mi_cI (mi_get_ok (by decide +kernel) fl_X6_57 rfl) <|
  mi_cR (Or.inr (Or.inl ⟨rfl, (by decide +kernel), rfl⟩)) <| mi_cN
set_option maxRecDepth 100000 in
set_option maxHeartbeats 4000000 in
theorem ok_X6_out : ∀ q ∈ t_X6_out, mi_OkE mi_ms RX6 cX6_out 2 false (some .int) q :=
  mi_cI (mi_aload_n_ok (k := 0) (by decide +kernel) rfl rfl) <|
  mi_cI (mi_get_ok (by decide +kernel) fl_X6_18 rfl) <|
  mi_cI (mi_iload_n_ok (k := 1) (by decide +kernel) rfl rfl) <|
  mi_cC ⟨m_X3_has, rfl, okM_X3_has, 108, 1, by decide +kernel, Or.inl ⟨(by decide +kernel), rfl, (mi_gd3 60 rfl rfl), (mi_gd3 61 rfl rfl), (mi_gd3 62 rfl rfl), 3, _, _, rfl, rfl⟩⟩ <|
  mi_cI (mi_if_ne_ok (off := 13) (by decide +kernel) (by decide) rfl) <|
  mi_cT <|
  mi_cI (mi_aload_n_ok (k := 0) (by decide +kernel) rfl rfl) <|
  mi_cI (mi_get_ok (by decide +kernel) fl_X6_18 rfl) <|
  mi_cI (mi_iload_n_ok (k := 1) (by decide +kernel) rfl rfl) <|
  mi_cC ⟨m_X3_at, rfl, okM_X3_at, 112, 1, by decide +kernel, Or.inl ⟨(by decide +kernel), rfl, (mi_gd3 64 rfl rfl), (mi_gd2 170 rfl rfl), (mi_gd2 171 rfl rfl), 3, _, _, rfl, rfl⟩⟩ <|
  mi_cR (Or.inr (Or.inl ⟨rfl, (by decide +kernel), rfl⟩)) <| mi_cN
set_option maxRecDepth 100000 in
set_option maxHeartbeats 4000000 in
theorem ok_X6_about : ∀ q ∈ t_X6_about, mi_OkE mi_ms RX6 cX6_about 2 false (some .int) q :=
  mi_cI (mi_iload_n_ok (k := 1) (by decide +kernel) rfl rfl) <|
  mi_cI (mi_tab_ok (dflt := 108) (offs := #[43, 51, 62, 70, 81, 89, 100]) (len := 43) (by decide +kernel) (by decide) (by decide) (by decide +kernel)) <|
  mi_cI (mi_aload_n_ok (k := 0) (by decide +kernel) rfl rfl) <|
  mi_cI (mi_get_ok (by decide +kernel) fl_X6_14 rfl) <|
  mi_cI (mi_get_ok (by decide +kernel) fl_X6_57 rfl) <|
  mi_cR (Or.inr (Or.inl ⟨rfl, (by decide +kernel), rfl⟩)) <|
  mi_cI (mi_aload_n_ok (k := 0) (by decide +kernel) rfl rfl) <|
  mi_cI (mi_get_ok (by decide +kernel) fl_X6_33 rfl) <|
  mi_cI (mi_get_ok (by decide +kernel) fl_X6_91 rfl) <|
  mi_cI (mi_get_ok (by decide +kernel) fl_X6_174 rfl) <|
  mi_cR (Or.inr (Or.inl ⟨rfl, (by decide +kernel), rfl⟩)) <|
  mi_cI (mi_aload_n_ok (k := 0) (by decide +kernel) rfl rfl) <|
  mi_cI (mi_get_ok (by decide +kernel) fl_X6_33 rfl) <|
  mi_cC ⟨m_X1_arcCount, rfl, okM_X1_arcCount, 81, 0, by decide +kernel, Or.inl ⟨(by decide +kernel), rfl, (mi_gd3 42 rfl rfl), (mi_gd3 13 rfl rfl), (mi_gd3 14 rfl rfl), 1, _, _, rfl, rfl⟩⟩ <|
  mi_cR (Or.inr (Or.inl ⟨rfl, (by decide +kernel), rfl⟩)) <|
  mi_cI (mi_aload_n_ok (k := 0) (by decide +kernel) rfl rfl) <|
  mi_cI (mi_get_ok (by decide +kernel) fl_X6_33 rfl) <|
  mi_cI (mi_get_ok (by decide +kernel) fl_X6_128 rfl) <|
  mi_cI (mi_get_ok (by decide +kernel) fl_X6_174 rfl) <|
  mi_cR (Or.inr (Or.inl ⟨rfl, (by decide +kernel), rfl⟩)) <|
  mi_cI (mi_aload_n_ok (k := 0) (by decide +kernel) rfl rfl) <|
  mi_cI (mi_get_ok (by decide +kernel) fl_X6_33 rfl) <|
  mi_cI (mi_get_ok (by decide +kernel) fl_X6_177 rfl) <|
  mi_cR (Or.inr (Or.inl ⟨rfl, (by decide +kernel), rfl⟩)) <|
  mi_cI (mi_aload_n_ok (k := 0) (by decide +kernel) rfl rfl) <|
  mi_cI (mi_get_ok (by decide +kernel) fl_X6_33 rfl) <|
  mi_cI (mi_get_ok (by decide +kernel) fl_X6_162 rfl) <|
  mi_cI (mi_get_ok (by decide +kernel) fl_X6_174 rfl) <|
  mi_cR (Or.inr (Or.inl ⟨rfl, (by decide +kernel), rfl⟩)) <|
  mi_cI (mi_aload_n_ok (k := 0) (by decide +kernel) rfl rfl) <|
  mi_cI (mi_get_ok (by decide +kernel) fl_X6_18 rfl) <|
  mi_cI (mi_get_ok (by decide +kernel) fl_X6_57 rfl) <|
  mi_cR (Or.inr (Or.inl ⟨rfl, (by decide +kernel), rfl⟩)) <|
  mi_cI (mi_bipush_ok (n := (-102)) (by decide) (by decide +kernel) rfl) <|
  mi_cR (Or.inr (Or.inl ⟨rfl, (by decide +kernel), rfl⟩)) <| mi_cN
set_option maxRecDepth 100000 in
set_option maxHeartbeats 4000000 in
theorem ok_X6_signOfSpan : ∀ q ∈ t_X6_signOfSpan, mi_OkE mi_ms RX6 cX6_signOfSpan 3 false (some .int) q :=
  mi_cI (mi_aload_n_ok (k := 0) (by decide +kernel) rfl rfl) <|
  mi_cI (mi_iload_n_ok (k := 1) (by decide +kernel) rfl rfl) <|
  mi_cC ⟨m_X4_has, rfl, okM_X4_has, 180, 1, by decide +kernel, Or.inl ⟨(by decide +kernel), rfl, (mi_gd3 236 rfl rfl), (mi_gd3 237 rfl rfl), (mi_gd3 238 rfl rfl), 4, _, _, rfl, rfl⟩⟩ <|
  mi_cI (mi_if_ne_ok (off := 6) (by decide +kernel) (by decide) rfl) <|
  mi_cI (mi_bipush_ok (n := (-101)) (by decide) (by decide +kernel) rfl) <|
  mi_cR (Or.inr (Or.inl ⟨rfl, (by decide +kernel), rfl⟩)) <|
  mi_cI (mi_iload_n_ok (k := 2) (by decide +kernel) rfl rfl) <|
  mi_cI (mi_if_lt_ok (off := 12) (by decide +kernel) (by decide) rfl) <|
  mi_cI (mi_iload_n_ok (k := 2) (by decide +kernel) rfl rfl) <|
  mi_cI (mi_aload_n_ok (k := 0) (by decide +kernel) rfl rfl) <|
  mi_cI (mi_iload_n_ok (k := 1) (by decide +kernel) rfl rfl) <|
  mi_cC ⟨m_X4_lengthOf, rfl, okM_X4_lengthOf, 181, 1, by decide +kernel, Or.inl ⟨(by decide +kernel), rfl, (mi_gd4 0 rfl rfl), (mi_gd3 89 rfl rfl), (mi_gd3 90 rfl rfl), 4, _, _, rfl, rfl⟩⟩ <|
  mi_cI (mi_icmp_lt_ok (off := 13) (by decide +kernel) (by decide) rfl) <|
  mi_cT <|
  mi_cI (mi_aload_n_ok (k := 0) (by decide +kernel) rfl rfl) <|
  mi_cI (mi_iload_n_ok (k := 1) (by decide +kernel) rfl rfl) <|
  mi_cI (mi_iload_n_ok (k := 2) (by decide +kernel) rfl rfl) <|
  mi_cC ⟨m_X4_signAt, rfl, okM_X4_signAt, 186, 2, by decide +kernel, Or.inl ⟨(by decide +kernel), rfl, (mi_gd4 4 rfl rfl), (mi_gd3 93 rfl rfl), (mi_gd3 94 rfl rfl), 4, _, _, rfl, rfl⟩⟩ <|
  mi_cR (Or.inr (Or.inl ⟨rfl, (by decide +kernel), rfl⟩)) <| mi_cN
set_option maxRecDepth 100000 in
set_option maxHeartbeats 4000000 in
theorem ok_X6_isFigure : ∀ q ∈ t_X6_isFigure, mi_OkE mi_ms RX6 cX6_isFigure 1 false (some .boolean) q :=
  mi_cI (mi_iload_n_ok (k := 0) (by decide +kernel) rfl rfl) <|
  mi_cI (mi_bipush_ok (n := 48) (by decide) (by decide +kernel) rfl) <|
  mi_cI (mi_icmp_lt_ok (off := 13) (by decide +kernel) (by decide) rfl) <|
  mi_cI (mi_iload_n_ok (k := 0) (by decide +kernel) rfl rfl) <|
  mi_cI (mi_bipush_ok (n := 57) (by decide) (by decide +kernel) rfl) <|
  mi_cI (mi_icmp_gt_ok (off := 7) (by decide +kernel) (by decide) rfl) <|
  mi_cI (mi_iconst_ok (n := 1) (by decide) (by decide +kernel) rfl) <|
  mi_cI (mi_goto_ok (off := 4) (by decide +kernel) (by decide)) <|
  mi_cI (mi_iconst_ok (n := 0) (by decide) (by decide +kernel) rfl) <|
  mi_cR (Or.inr (Or.inr (Or.inl ⟨rfl, (by decide +kernel), rfl⟩))) <| mi_cN
set_option maxRecDepth 100000 in
set_option maxHeartbeats 4000000 in
theorem ok_X6_isPlain : ∀ q ∈ t_X6_isPlain, mi_OkE mi_ms RX6 cX6_isPlain 1 false (some .boolean) q :=
  mi_cI (mi_iload_n_ok (k := 0) (by decide +kernel) rfl rfl) <|
  mi_cI (mi_bipush_ok (n := 97) (by decide) (by decide +kernel) rfl) <|
  mi_cI (mi_icmp_lt_ok (off := 9) (by decide +kernel) (by decide) rfl) <|
  mi_cI (mi_iload_n_ok (k := 0) (by decide +kernel) rfl rfl) <|
  mi_cI (mi_bipush_ok (n := 122) (by decide) (by decide +kernel) rfl) <|
  mi_cI (mi_icmp_le_ok (off := 21) (by decide +kernel) (by decide) rfl) <|
  mi_cI (mi_iload_n_ok (k := 0) (by decide +kernel) rfl rfl) <|
  mi_cI (mi_bipush_ok (n := 48) (by decide) (by decide +kernel) rfl) <|
  mi_cI (mi_icmp_lt_ok (off := 9) (by decide +kernel) (by decide) rfl) <|
  mi_cI (mi_iload_n_ok (k := 0) (by decide +kernel) rfl rfl) <|
  mi_cI (mi_bipush_ok (n := 57) (by decide) (by decide +kernel) rfl) <|
  mi_cI (mi_icmp_le_ok (off := 9) (by decide +kernel) (by decide) rfl) <|
  mi_cI (mi_iload_n_ok (k := 0) (by decide +kernel) rfl rfl) <|
  mi_cI (mi_bipush_ok (n := 95) (by decide) (by decide +kernel) rfl) <|
  mi_cI (mi_icmp_ne_ok (off := 7) (by decide +kernel) (by decide) rfl) <|
  mi_cI (mi_iconst_ok (n := 1) (by decide) (by decide +kernel) rfl) <|
  mi_cI (mi_goto_ok (off := 4) (by decide +kernel) (by decide)) <|
  mi_cI (mi_iconst_ok (n := 0) (by decide) (by decide +kernel) rfl) <|
  mi_cR (Or.inr (Or.inr (Or.inl ⟨rfl, (by decide +kernel), rfl⟩))) <| mi_cN
set_option maxRecDepth 100000 in
set_option maxHeartbeats 4000000 in
theorem ok_X6_isPrintable : ∀ q ∈ t_X6_isPrintable, mi_OkE mi_ms RX6 cX6_isPrintable 1 false (some .boolean) q :=
  mi_cI (mi_iload_n_ok (k := 0) (by decide +kernel) rfl rfl) <|
  mi_cI (mi_bipush_ok (n := 32) (by decide) (by decide +kernel) rfl) <|
  mi_cI (mi_icmp_lt_ok (off := 13) (by decide +kernel) (by decide) rfl) <|
  mi_cI (mi_iload_n_ok (k := 0) (by decide +kernel) rfl rfl) <|
  mi_cI (mi_bipush_ok (n := 126) (by decide) (by decide +kernel) rfl) <|
  mi_cI (mi_icmp_gt_ok (off := 7) (by decide +kernel) (by decide) rfl) <|
  mi_cI (mi_iconst_ok (n := 1) (by decide) (by decide +kernel) rfl) <|
  mi_cI (mi_goto_ok (off := 4) (by decide +kernel) (by decide)) <|
  mi_cI (mi_iconst_ok (n := 0) (by decide) (by decide +kernel) rfl) <|
  mi_cR (Or.inr (Or.inr (Or.inl ⟨rfl, (by decide +kernel), rfl⟩))) <| mi_cN
set_option maxRecDepth 100000 in
set_option maxHeartbeats 4000000 in
theorem ok_X7_init : ∀ q ∈ t_X7_init, mi_OkE mi_ms RX7 cX7_init 1 true none q :=
  mi_cI (mi_aload_n_ok (k := 0) (by decide +kernel) rfl rfl) <|
  mi_cI (mi_obj_ok (index := 1) (by decide +kernel) (mi_gd4 103 rfl rfl) (mi_gd1 24 rfl rfl) (mi_gd1 25 rfl rfl) rfl) <|
  mi_cI (mi_aload_n_ok (k := 0) (by decide +kernel) rfl rfl) <|
  mi_cI (mi_sipush_ok (n := 600) (by decide) (by decide +kernel) rfl) <|
  mi_cI (mi_newI_ok (by decide +kernel) (mi_gd1 49 rfl rfl) rfl) <|
  mi_cI (mi_putF_ok (by decide +kernel) fl_X7_7 rfl rfl (fun C T N h => by cases h; rfl) (fun C T N h => by cases h; exact (mi_gd4 105 rfl rfl)) rfl) <|
  mi_cI (mi_aload_n_ok (k := 0) (by decide +kernel) rfl rfl) <|
  mi_cI (mi_iconst_ok (n := (-1)) (by decide) (by decide +kernel) rfl) <|
  mi_cI (mi_put_ok (by decide +kernel) fl_X7_13 rfl rfl) <|
  mi_cI (mi_aload_n_ok (k := 0) (by decide +kernel) rfl rfl) <|
  mi_cI (mi_iconst_ok (n := (-1)) (by decide) (by decide +kernel) rfl) <|
  mi_cI (mi_put_ok (by decide +kernel) fl_X7_17 rfl rfl) <|
  mi_cI (mi_aload_n_ok (k := 0) (by decide +kernel) rfl rfl) <|
  mi_cI (mi_iconst_ok (n := 2) (by decide) (by decide +kernel) rfl) <|
  mi_cI (mi_newI_ok (by decide +kernel) (mi_gd1 49 rfl rfl) rfl) <|
  mi_cI (mi_putF_ok (by decide +kernel) fl_X7_20 rfl rfl (fun C T N h => by cases h; rfl) (fun C T N h => by cases h; exact (mi_gd4 111 rfl rfl)) rfl) <|
  mi_cI (mi_aload_n_ok (k := 0) (by decide +kernel) rfl rfl) <|
  mi_cI (mi_sipush_ok (n := 540) (by decide) (by decide +kernel) rfl) <|
  mi_cI (mi_newI_ok (by decide +kernel) (mi_gd1 49 rfl rfl) rfl) <|
  mi_cI (mi_putF_ok (by decide +kernel) fl_X7_23 rfl rfl (fun C T N h => by cases h; rfl) (fun C T N h => by cases h; exact (mi_gd4 112 rfl rfl)) rfl) <|
  mi_cI (mi_aload_n_ok (k := 0) (by decide +kernel) rfl rfl) <|
  mi_cI (mi_iconst_ok (n := 2) (by decide) (by decide +kernel) rfl) <|
  mi_cI (mi_newI_ok (by decide +kernel) (mi_gd1 49 rfl rfl) rfl) <|
  mi_cI (mi_putF_ok (by decide +kernel) fl_X7_26 rfl rfl (fun C T N h => by cases h; rfl) (fun C T N h => by cases h; exact (mi_gd4 113 rfl rfl)) rfl) <|
  mi_cI (mi_aload_n_ok (k := 0) (by decide +kernel) rfl rfl) <|
  mi_cI (mi_bipush_ok (n := 80) (by decide) (by decide +kernel) rfl) <|
  mi_cI (mi_newI_ok (by decide +kernel) (mi_gd1 49 rfl rfl) rfl) <|
  mi_cI (mi_putF_ok (by decide +kernel) fl_X7_29 rfl rfl (fun C T N h => by cases h; rfl) (fun C T N h => by cases h; exact (mi_gd4 114 rfl rfl)) rfl) <|
  mi_cI (mi_aload_n_ok (k := 0) (by decide +kernel) rfl rfl) <|
  mi_cI (mi_bipush_ok (n := 80) (by decide) (by decide +kernel) rfl) <|
  mi_cI (mi_newI_ok (by decide +kernel) (mi_gd1 49 rfl rfl) rfl) <|
  mi_cI (mi_putF_ok (by decide +kernel) fl_X7_32 rfl rfl (fun C T N h => by cases h; rfl) (fun C T N h => by cases h; exact (mi_gd4 115 rfl rfl)) rfl) <|
  mi_cI (mi_aload_n_ok (k := 0) (by decide +kernel) rfl rfl) <|
  mi_cI (mi_bipush_ok (n := 80) (by decide) (by decide +kernel) rfl) <|
  mi_cI (mi_newI_ok (by decide +kernel) (mi_gd1 49 rfl rfl) rfl) <|
  mi_cI (mi_putF_ok (by decide +kernel) fl_X7_35 rfl rfl (fun C T N h => by cases h; rfl) (fun C T N h => by cases h; exact (mi_gd4 116 rfl rfl)) rfl) <|
  mi_cI (mi_aload_n_ok (k := 0) (by decide +kernel) rfl rfl) <|
  mi_cI (mi_iconst_ok (n := 2) (by decide) (by decide +kernel) rfl) <|
  mi_cI (mi_newI_ok (by decide +kernel) (mi_gd1 49 rfl rfl) rfl) <|
  mi_cI (mi_putF_ok (by decide +kernel) fl_X7_38 rfl rfl (fun C T N h => by cases h; rfl) (fun C T N h => by cases h; exact (mi_gd4 117 rfl rfl)) rfl) <|
  mi_cI (mi_aload_n_ok (k := 0) (by decide +kernel) rfl rfl) <|
  mi_cI (mi_bipush_ok (n := 6) (by decide) (by decide +kernel) rfl) <|
  mi_cI (mi_newI_ok (by decide +kernel) (mi_gd1 49 rfl rfl) rfl) <|
  mi_cI (mi_putF_ok (by decide +kernel) fl_X7_41 rfl rfl (fun C T N h => by cases h; rfl) (fun C T N h => by cases h; exact (mi_gd4 118 rfl rfl)) rfl) <|
  mi_cI (mi_aload_n_ok (k := 0) (by decide +kernel) rfl rfl) <|
  mi_cI (mi_bipush_ok (n := 54) (by decide) (by decide +kernel) rfl) <|
  mi_cI (mi_newI_ok (by decide +kernel) (mi_gd1 49 rfl rfl) rfl) <|
  mi_cI (mi_putF_ok (by decide +kernel) fl_X7_44 rfl rfl (fun C T N h => by cases h; rfl) (fun C T N h => by cases h; exact (mi_gd4 119 rfl rfl)) rfl) <|
  mi_cI (mi_aload_n_ok (k := 0) (by decide +kernel) rfl rfl) <|
  mi_cI (mi_sipush_ok (n := 240) (by decide) (by decide +kernel) rfl) <|
  mi_cI (mi_newI_ok (by decide +kernel) (mi_gd1 49 rfl rfl) rfl) <|
  mi_cI (mi_putF_ok (by decide +kernel) fl_X7_47 rfl rfl (fun C T N h => by cases h; rfl) (fun C T N h => by cases h; exact (mi_gd4 120 rfl rfl)) rfl) <|
  mi_cI (mi_aload_n_ok (k := 0) (by decide +kernel) rfl rfl) <|
  mi_cI (mi_sipush_ok (n := 240) (by decide) (by decide +kernel) rfl) <|
  mi_cI (mi_newI_ok (by decide +kernel) (mi_gd1 49 rfl rfl) rfl) <|
  mi_cI (mi_putF_ok (by decide +kernel) fl_X7_50 rfl rfl (fun C T N h => by cases h; rfl) (fun C T N h => by cases h; exact (mi_gd4 121 rfl rfl)) rfl) <|
  mi_cI (mi_aload_n_ok (k := 0) (by decide +kernel) rfl rfl) <|
  mi_cI (mi_sipush_ok (n := 2160) (by decide) (by decide +kernel) rfl) <|
  mi_cI (mi_newI_ok (by decide +kernel) (mi_gd1 49 rfl rfl) rfl) <|
  mi_cI (mi_putF_ok (by decide +kernel) fl_X7_53 rfl rfl (fun C T N h => by cases h; rfl) (fun C T N h => by cases h; exact (mi_gd4 122 rfl rfl)) rfl) <|
  mi_cI (mi_aload_n_ok (k := 0) (by decide +kernel) rfl rfl) <|
  mi_cI (mi_iconst_ok (n := 2) (by decide) (by decide +kernel) rfl) <|
  mi_cI (mi_newI_ok (by decide +kernel) (mi_gd1 49 rfl rfl) rfl) <|
  mi_cI (mi_putF_ok (by decide +kernel) fl_X7_56 rfl rfl (fun C T N h => by cases h; rfl) (fun C T N h => by cases h; exact (mi_gd4 123 rfl rfl)) rfl) <|
  mi_cI (mi_aload_n_ok (k := 0) (by decide +kernel) rfl rfl) <|
  mi_cI (mi_iconst_ok (n := 2) (by decide) (by decide +kernel) rfl) <|
  mi_cI (mi_newI_ok (by decide +kernel) (mi_gd1 49 rfl rfl) rfl) <|
  mi_cI (mi_putF_ok (by decide +kernel) fl_X7_59 rfl rfl (fun C T N h => by cases h; rfl) (fun C T N h => by cases h; exact (mi_gd4 124 rfl rfl)) rfl) <|
  mi_cI (mi_aload_n_ok (k := 0) (by decide +kernel) rfl rfl) <|
  mi_cI (mi_sipush_ok (n := 12600) (by decide) (by decide +kernel) rfl) <|
  mi_cI (mi_newI_ok (by decide +kernel) (mi_gd1 49 rfl rfl) rfl) <|
  mi_cI (mi_putF_ok (by decide +kernel) fl_X7_62 rfl rfl (fun C T N h => by cases h; rfl) (fun C T N h => by cases h; exact (mi_gd4 125 rfl rfl)) rfl) <|
  mi_cI (mi_aload_n_ok (k := 0) (by decide +kernel) rfl rfl) <|
  mi_cI (mi_iconst_ok (n := 2) (by decide) (by decide +kernel) rfl) <|
  mi_cI (mi_newI_ok (by decide +kernel) (mi_gd1 49 rfl rfl) rfl) <|
  mi_cI (mi_putF_ok (by decide +kernel) fl_X7_65 rfl rfl (fun C T N h => by cases h; rfl) (fun C T N h => by cases h; exact (mi_gd4 126 rfl rfl)) rfl) <|
  mi_cI (mi_aload_n_ok (k := 0) (by decide +kernel) rfl rfl) <|
  mi_cI (mi_sipush_ok (n := 1202) (by decide) (by decide +kernel) rfl) <|
  mi_cI (mi_newI_ok (by decide +kernel) (mi_gd1 49 rfl rfl) rfl) <|
  mi_cI (mi_putF_ok (by decide +kernel) fl_X7_68 rfl rfl (fun C T N h => by cases h; rfl) (fun C T N h => by cases h; exact (mi_gd4 127 rfl rfl)) rfl) <|
  mi_cI (mi_aload_n_ok (k := 0) (by decide +kernel) rfl rfl) <|
  mi_cI (mi_iconst_ok (n := 4) (by decide) (by decide +kernel) rfl) <|
  mi_cI (mi_newI_ok (by decide +kernel) (mi_gd1 49 rfl rfl) rfl) <|
  mi_cI (mi_putF_ok (by decide +kernel) fl_X7_71 rfl rfl (fun C T N h => by cases h; rfl) (fun C T N h => by cases h; exact (mi_gd4 128 rfl rfl)) rfl) <|
  mi_cI (mi_aload_n_ok (k := 0) (by decide +kernel) rfl rfl) <|
  mi_cI (mi_sipush_ok (n := 2400) (by decide) (by decide +kernel) rfl) <|
  mi_cI (mi_newI_ok (by decide +kernel) (mi_gd1 49 rfl rfl) rfl) <|
  mi_cI (mi_putF_ok (by decide +kernel) fl_X7_74 rfl rfl (fun C T N h => by cases h; rfl) (fun C T N h => by cases h; exact (mi_gd4 129 rfl rfl)) rfl) <|
  mi_cI (mi_aload_n_ok (k := 0) (by decide +kernel) rfl rfl) <|
  mi_cI (mi_bipush_ok (n := 9) (by decide) (by decide +kernel) rfl) <|
  mi_cI (mi_newI_ok (by decide +kernel) (mi_gd1 49 rfl rfl) rfl) <|
  mi_cI (mi_putF_ok (by decide +kernel) fl_X7_77 rfl rfl (fun C T N h => by cases h; rfl) (fun C T N h => by cases h; exact (mi_gd4 136 rfl rfl)) rfl) <|
  mi_cI (mi_aload_n_ok (k := 0) (by decide +kernel) rfl rfl) <|
  mi_cI (mi_iconst_ok (n := 2) (by decide) (by decide +kernel) rfl) <|
  mi_cI (mi_newI_ok (by decide +kernel) (mi_gd1 49 rfl rfl) rfl) <|
  mi_cI (mi_putF_ok (by decide +kernel) fl_X7_80 rfl rfl (fun C T N h => by cases h; rfl) (fun C T N h => by cases h; exact (mi_gd4 140 rfl rfl)) rfl) <|
  mi_cI (mi_aload_n_ok (k := 0) (by decide +kernel) rfl rfl) <|
  mi_cI (mi_iconst_ok (n := 2) (by decide) (by decide +kernel) rfl) <|
  mi_cI (mi_newI_ok (by decide +kernel) (mi_gd1 49 rfl rfl) rfl) <|
  mi_cI (mi_putF_ok (by decide +kernel) fl_X7_83 rfl rfl (fun C T N h => by cases h; rfl) (fun C T N h => by cases h; exact (mi_gd4 141 rfl rfl)) rfl) <|
  mi_cI (mi_aload_n_ok (k := 0) (by decide +kernel) rfl rfl) <|
  mi_cI (mi_iconst_ok (n := 3) (by decide) (by decide +kernel) rfl) <|
  mi_cI (mi_newI_ok (by decide +kernel) (mi_gd1 49 rfl rfl) rfl) <|
  mi_cI (mi_putF_ok (by decide +kernel) fl_X7_86 rfl rfl (fun C T N h => by cases h; rfl) (fun C T N h => by cases h; exact (mi_gd4 143 rfl rfl)) rfl) <|
  mi_cI (mi_aload_n_ok (k := 0) (by decide +kernel) rfl rfl) <|
  mi_cI (mi_iconst_ok (n := 3) (by decide) (by decide +kernel) rfl) <|
  mi_cI (mi_newI_ok (by decide +kernel) (mi_gd1 49 rfl rfl) rfl) <|
  mi_cI (mi_putF_ok (by decide +kernel) fl_X7_89 rfl rfl (fun C T N h => by cases h; rfl) (fun C T N h => by cases h; exact (mi_gd4 144 rfl rfl)) rfl) <|
  mi_cI (mi_aload_n_ok (k := 0) (by decide +kernel) rfl rfl) <|
  mi_cI (mi_bipush_ok (n := 27) (by decide) (by decide +kernel) rfl) <|
  mi_cI (mi_newI_ok (by decide +kernel) (mi_gd1 49 rfl rfl) rfl) <|
  mi_cI (mi_putF_ok (by decide +kernel) fl_X7_92 rfl rfl (fun C T N h => by cases h; rfl) (fun C T N h => by cases h; exact (mi_gd4 145 rfl rfl)) rfl) <|
  mi_cI (mi_aload_n_ok (k := 0) (by decide +kernel) rfl rfl) <|
  mi_cI (mi_iconst_ok (n := 0) (by decide) (by decide +kernel) rfl) <|
  mi_cI (mi_put_ok (by decide +kernel) fl_X7_95 rfl rfl) <|
  mi_cR (Or.inl ⟨rfl, (by decide +kernel), rfl⟩) <| mi_cN
end MJ3
