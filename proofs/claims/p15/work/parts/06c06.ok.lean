section MJ6
set_option maxRecDepth 100000 in
set_option maxHeartbeats 4000000 in
theorem ok_X7_readLine : ∀ q ∈ t_X7_readLine, mi_OkE mi_ms RX7 cX7_readLine 2 false none q :=
  mi_cI (mi_aload_n_ok (k := 0) (by decide +kernel) rfl rfl) <|
  mi_cC ⟨m_X7_blanks, rfl, okM_X7_blanks, 171, 0, by decide +kernel, Or.inl ⟨(by decide +kernel), rfl, (mi_gd5 10 rfl rfl), (mi_gd5 12 rfl rfl), (mi_gd0 34 rfl rfl), 7, _, _, rfl, rfl⟩⟩ <|
  mi_cI (mi_aload_n_ok (k := 0) (by decide +kernel) rfl rfl) <|
  mi_cC ⟨m_X7_here, rfl, okM_X7_here, 118, 0, by decide +kernel, Or.inl ⟨(by decide +kernel), rfl, (mi_gd5 14 rfl rfl), (mi_gd5 16 rfl rfl), (mi_gd0 35 rfl rfl), 7, _, _, rfl, rfl⟩⟩ <|
  mi_cI (mi_istore_n_ok (k := 1) (by decide +kernel) rfl (by decide) rfl) <|
  mi_cI (mi_iload_n_ok (k := 1) (by decide +kernel) rfl rfl) <|
  mi_cI (mi_bipush_ok (n := 35) (by decide) (by decide +kernel) rfl) <|
  mi_cI (mi_icmp_ne_ok (off := 10) (by decide +kernel) (by decide) rfl) <|
  mi_cI (mi_aload_n_ok (k := 0) (by decide +kernel) rfl rfl) <|
  mi_cC ⟨m_X7_readComment, rfl, okM_X7_readComment, 205, 0, by decide +kernel, Or.inl ⟨(by decide +kernel), rfl, (mi_gd5 18 rfl rfl), (mi_gd5 20 rfl rfl), (mi_gd0 36 rfl rfl), 7, _, _, rfl, rfl⟩⟩ <|
  mi_cI (mi_goto_ok (off := 38) (by decide +kernel) (by decide)) <|
  mi_cI (mi_iload_n_ok (k := 1) (by decide +kernel) rfl rfl) <|
  mi_cI (mi_bipush_ok (n := 33) (by decide) (by decide +kernel) rfl) <|
  mi_cI (mi_icmp_ne_ok (off := 10) (by decide +kernel) (by decide) rfl) <|
  mi_cI (mi_aload_n_ok (k := 0) (by decide +kernel) rfl rfl) <|
  mi_cC ⟨m_X7_readCount, rfl, okM_X7_readCount, 208, 0, by decide +kernel, Or.inl ⟨(by decide +kernel), rfl, (mi_gd5 30 rfl rfl), (mi_gd5 32 rfl rfl), (mi_gd0 39 rfl rfl), 7, _, _, rfl, rfl⟩⟩ <|
  mi_cI (mi_goto_ok (off := 25) (by decide +kernel) (by decide)) <|
  mi_cI (mi_iload_n_ok (k := 1) (by decide +kernel) rfl rfl) <|
  mi_cI (mi_bipush_ok (n := 37) (by decide) (by decide +kernel) rfl) <|
  mi_cI (mi_icmp_ne_ok (off := 10) (by decide +kernel) (by decide) rfl) <|
  mi_cI (mi_aload_n_ok (k := 0) (by decide +kernel) rfl rfl) <|
  mi_cC ⟨m_X7_readHead, rfl, okM_X7_readHead, 211, 0, by decide +kernel, Or.inl ⟨(by decide +kernel), rfl, (mi_gd5 41 rfl rfl), (mi_gd5 43 rfl rfl), (mi_gd0 41 rfl rfl), 7, _, _, rfl, rfl⟩⟩ <|
  mi_cI (mi_goto_ok (off := 12) (by decide +kernel) (by decide)) <|
  mi_cI (mi_iload_n_ok (k := 1) (by decide +kernel) rfl rfl) <|
  mi_cI (mi_iconst_ok (n := (-1)) (by decide) (by decide +kernel) rfl) <|
  mi_cI (mi_icmp_eq_ok (off := 7) (by decide +kernel) (by decide) rfl) <|
  mi_cI (mi_aload_n_ok (k := 0) (by decide +kernel) rfl rfl) <|
  mi_cC ⟨m_X7_readArc, rfl, okM_X7_readArc, 214, 0, by decide +kernel, Or.inl ⟨(by decide +kernel), rfl, (mi_gd5 68 rfl rfl), (mi_gd5 70 rfl rfl), (mi_gd0 47 rfl rfl), 7, _, _, rfl, rfl⟩⟩ <|
  mi_cI (mi_aload_n_ok (k := 0) (by decide +kernel) rfl rfl) <|
  mi_cC ⟨m_X7_blanks, rfl, okM_X7_blanks, 171, 0, by decide +kernel, Or.inl ⟨(by decide +kernel), rfl, (mi_gd5 10 rfl rfl), (mi_gd5 12 rfl rfl), (mi_gd0 34 rfl rfl), 7, _, _, rfl, rfl⟩⟩ <|
  mi_cI (mi_aload_n_ok (k := 0) (by decide +kernel) rfl rfl) <|
  mi_cC ⟨m_X7_here, rfl, okM_X7_here, 118, 0, by decide +kernel, Or.inl ⟨(by decide +kernel), rfl, (mi_gd5 14 rfl rfl), (mi_gd5 16 rfl rfl), (mi_gd0 35 rfl rfl), 7, _, _, rfl, rfl⟩⟩ <|
  mi_cI (mi_iconst_ok (n := (-1)) (by decide) (by decide +kernel) rfl) <|
  mi_cI (mi_icmp_eq_ok (off := 12) (by decide +kernel) (by decide) rfl) <|
  mi_cI (mi_aload_n_ok (k := 0) (by decide +kernel) rfl rfl) <|
  mi_cI (mi_iconst_ok (n := 1) (by decide) (by decide +kernel) rfl) <|
  mi_cI (mi_aload_n_ok (k := 0) (by decide +kernel) rfl rfl) <|
  mi_cI (mi_get_ok (by decide +kernel) fl_X7_105 rfl) <|
  mi_cC ⟨m_X7_wrong, rfl, okM_X7_wrong, 122, 2, by decide +kernel, Or.inl ⟨(by decide +kernel), rfl, (mi_gd5 22 rfl rfl), (mi_gd5 24 rfl rfl), (mi_gd0 37 rfl rfl), 7, _, _, rfl, rfl⟩⟩ <|
  mi_cR (Or.inl ⟨rfl, (by decide +kernel), rfl⟩) <| mi_cN
set_option maxRecDepth 100000 in
set_option maxHeartbeats 4000000 in
theorem ok_X7_guessKinds : ∀ q ∈ t_X7_guessKinds, mi_OkE mi_ms RX7 cX7_guessKinds 4 false none q :=
  mi_cI (mi_iconst_ok (n := 0) (by decide) (by decide +kernel) rfl) <|
  mi_cI (mi_istore_n_ok (k := 1) (by decide +kernel) rfl (by decide) rfl) <|
  mi_cI (mi_iload_n_ok (k := 1) (by decide +kernel) rfl rfl) <|
  mi_cI (mi_aload_n_ok (k := 0) (by decide +kernel) rfl rfl) <|
  mi_cI (mi_get_ok (by decide +kernel) fl_X7_38 rfl) <|
  mi_cI (mi_iconst_ok (n := 1) (by decide) (by decide +kernel) rfl) <|
  mi_cI (mi_iald_ok (by decide +kernel) rfl) <|
  mi_cI (mi_icmp_ge_ok (off := 85) (by decide +kernel) (by decide) rfl) <|
  mi_cI (mi_aload_n_ok (k := 0) (by decide +kernel) rfl rfl) <|
  mi_cI (mi_get_ok (by decide +kernel) fl_X7_41 rfl) <|
  mi_cI (mi_iconst_ok (n := 3) (by decide) (by decide +kernel) rfl) <|
  mi_cI (mi_iload_n_ok (k := 1) (by decide +kernel) rfl rfl) <|
  mi_cI (mi_iadd_ok (by decide +kernel) rfl) <|
  mi_cI (mi_iald_ok (by decide +kernel) rfl) <|
  mi_cI (mi_iconst_ok (n := 3) (by decide) (by decide +kernel) rfl) <|
  mi_cI (mi_icmp_ne_ok (off := 67) (by decide +kernel) (by decide) rfl) <|
  mi_cI (mi_iconst_ok (n := 1) (by decide) (by decide +kernel) rfl) <|
  mi_cI (mi_istore_n_ok (k := 2) (by decide +kernel) rfl (by decide) rfl) <|
  mi_cI (mi_bipush_ok (n := 40) (by decide) (by decide +kernel) rfl) <|
  mi_cI (mi_istore_n_ok (k := 3) (by decide +kernel) rfl (by decide) rfl) <|
  mi_cI (mi_iload_n_ok (k := 3) (by decide +kernel) rfl rfl) <|
  mi_cI (mi_bipush_ok (n := 40) (by decide) (by decide +kernel) rfl) <|
  mi_cI (mi_aload_n_ok (k := 0) (by decide +kernel) rfl rfl) <|
  mi_cI (mi_get_ok (by decide +kernel) fl_X7_26 rfl) <|
  mi_cI (mi_iconst_ok (n := 1) (by decide) (by decide +kernel) rfl) <|
  mi_cI (mi_iald_ok (by decide +kernel) rfl) <|
  mi_cI (mi_iadd_ok (by decide +kernel) rfl) <|
  mi_cI (mi_icmp_ge_ok (off := 38) (by decide +kernel) (by decide) rfl) <|
  mi_cI (mi_aload_n_ok (k := 0) (by decide +kernel) rfl rfl) <|
  mi_cI (mi_get_ok (by decide +kernel) fl_X7_47 rfl) <|
  mi_cI (mi_iconst_ok (n := 3) (by decide) (by decide +kernel) rfl) <|
  mi_cI (mi_iload_n_ok (k := 3) (by decide +kernel) rfl rfl) <|
  mi_cI (mi_imul_ok (by decide +kernel) rfl) <|
  mi_cI (mi_iload_n_ok (k := 1) (by decide +kernel) rfl rfl) <|
  mi_cI (mi_iadd_ok (by decide +kernel) rfl) <|
  mi_cI (mi_iald_ok (by decide +kernel) rfl) <|
  mi_cI (mi_iload_n_ok (k := 2) (by decide +kernel) rfl rfl) <|
  mi_cI (mi_icmp_le_ok (off := 16) (by decide +kernel) (by decide) rfl) <|
  mi_cI (mi_aload_n_ok (k := 0) (by decide +kernel) rfl rfl) <|
  mi_cI (mi_get_ok (by decide +kernel) fl_X7_47 rfl) <|
  mi_cI (mi_iconst_ok (n := 3) (by decide) (by decide +kernel) rfl) <|
  mi_cI (mi_iload_n_ok (k := 3) (by decide +kernel) rfl rfl) <|
  mi_cI (mi_imul_ok (by decide +kernel) rfl) <|
  mi_cI (mi_iload_n_ok (k := 1) (by decide +kernel) rfl rfl) <|
  mi_cI (mi_iadd_ok (by decide +kernel) rfl) <|
  mi_cI (mi_iald_ok (by decide +kernel) rfl) <|
  mi_cI (mi_goto_ok (off := 4) (by decide +kernel) (by decide)) <|
  mi_cI (mi_iload_n_ok (k := 2) (by decide +kernel) rfl rfl) <|
  mi_cI (mi_istore_n_ok (k := 2) (by decide +kernel) rfl (by decide) rfl) <|
  mi_cI (mi_inc_ok (by decide +kernel) (by decide) rfl) <|
  mi_cI (mi_goto_ok (off := (-45)) (by decide +kernel) (by decide)) <|
  mi_cI (mi_aload_n_ok (k := 0) (by decide +kernel) rfl rfl) <|
  mi_cI (mi_get_ok (by decide +kernel) fl_X7_41 rfl) <|
  mi_cI (mi_iconst_ok (n := 3) (by decide) (by decide +kernel) rfl) <|
  mi_cI (mi_iload_n_ok (k := 1) (by decide +kernel) rfl rfl) <|
  mi_cI (mi_iadd_ok (by decide +kernel) rfl) <|
  mi_cI (mi_iload_n_ok (k := 2) (by decide +kernel) rfl rfl) <|
  mi_cI (mi_iconst_ok (n := 1) (by decide) (by decide +kernel) rfl) <|
  mi_cI (mi_isub_ok (by decide +kernel) rfl) <|
  mi_cI (mi_iast_ok (by decide +kernel) rfl) <|
  mi_cI (mi_inc_ok (by decide +kernel) (by decide) rfl) <|
  mi_cI (mi_goto_ok (off := (-89)) (by decide +kernel) (by decide)) <|
  mi_cR (Or.inl ⟨rfl, (by decide +kernel), rfl⟩) <| mi_cN
set_option maxRecDepth 100000 in
set_option maxHeartbeats 4000000 in
theorem ok_X7_takeOver : ∀ q ∈ t_X7_takeOver, mi_OkE mi_ms RX7 cX7_takeOver 1 false none q :=
  mi_cI (mi_aload_n_ok (k := 0) (by decide +kernel) rfl rfl) <|
  mi_cI (mi_iconst_ok (n := 1) (by decide) (by decide +kernel) rfl) <|
  mi_cI (mi_put_ok (by decide +kernel) fl_X7_217 rfl rfl) <|
  mi_cI (mi_aload_n_ok (k := 0) (by decide +kernel) rfl rfl) <|
  mi_cI (mi_get_ok (by decide +kernel) fl_X7_20 rfl) <|
  mi_cI (mi_iconst_ok (n := 0) (by decide) (by decide +kernel) rfl) <|
  mi_cI (mi_aload_n_ok (k := 0) (by decide +kernel) rfl rfl) <|
  mi_cI (mi_get_ok (by decide +kernel) fl_X7_20 rfl) <|
  mi_cI (mi_iconst_ok (n := 1) (by decide) (by decide +kernel) rfl) <|
  mi_cI (mi_iald_ok (by decide +kernel) rfl) <|
  mi_cI (mi_iast_ok (by decide +kernel) rfl) <|
  mi_cI (mi_aload_n_ok (k := 0) (by decide +kernel) rfl rfl) <|
  mi_cI (mi_get_ok (by decide +kernel) fl_X7_26 rfl) <|
  mi_cI (mi_iconst_ok (n := 0) (by decide) (by decide +kernel) rfl) <|
  mi_cI (mi_aload_n_ok (k := 0) (by decide +kernel) rfl rfl) <|
  mi_cI (mi_get_ok (by decide +kernel) fl_X7_26 rfl) <|
  mi_cI (mi_iconst_ok (n := 1) (by decide) (by decide +kernel) rfl) <|
  mi_cI (mi_iald_ok (by decide +kernel) rfl) <|
  mi_cI (mi_iast_ok (by decide +kernel) rfl) <|
  mi_cI (mi_aload_n_ok (k := 0) (by decide +kernel) rfl rfl) <|
  mi_cI (mi_get_ok (by decide +kernel) fl_X7_38 rfl) <|
  mi_cI (mi_iconst_ok (n := 0) (by decide) (by decide +kernel) rfl) <|
  mi_cI (mi_aload_n_ok (k := 0) (by decide +kernel) rfl rfl) <|
  mi_cI (mi_get_ok (by decide +kernel) fl_X7_38 rfl) <|
  mi_cI (mi_iconst_ok (n := 1) (by decide) (by decide +kernel) rfl) <|
  mi_cI (mi_iald_ok (by decide +kernel) rfl) <|
  mi_cI (mi_iast_ok (by decide +kernel) rfl) <|
  mi_cI (mi_aload_n_ok (k := 0) (by decide +kernel) rfl rfl) <|
  mi_cI (mi_get_ok (by decide +kernel) fl_X7_56 rfl) <|
  mi_cI (mi_iconst_ok (n := 0) (by decide) (by decide +kernel) rfl) <|
  mi_cI (mi_aload_n_ok (k := 0) (by decide +kernel) rfl rfl) <|
  mi_cI (mi_get_ok (by decide +kernel) fl_X7_56 rfl) <|
  mi_cI (mi_iconst_ok (n := 1) (by decide) (by decide +kernel) rfl) <|
  mi_cI (mi_iald_ok (by decide +kernel) rfl) <|
  mi_cI (mi_iast_ok (by decide +kernel) rfl) <|
  mi_cI (mi_aload_n_ok (k := 0) (by decide +kernel) rfl rfl) <|
  mi_cI (mi_get_ok (by decide +kernel) fl_X7_59 rfl) <|
  mi_cI (mi_iconst_ok (n := 0) (by decide) (by decide +kernel) rfl) <|
  mi_cI (mi_aload_n_ok (k := 0) (by decide +kernel) rfl rfl) <|
  mi_cI (mi_get_ok (by decide +kernel) fl_X7_59 rfl) <|
  mi_cI (mi_iconst_ok (n := 1) (by decide) (by decide +kernel) rfl) <|
  mi_cI (mi_iald_ok (by decide +kernel) rfl) <|
  mi_cI (mi_iast_ok (by decide +kernel) rfl) <|
  mi_cI (mi_aload_n_ok (k := 0) (by decide +kernel) rfl rfl) <|
  mi_cI (mi_get_ok (by decide +kernel) fl_X7_65 rfl) <|
  mi_cI (mi_iconst_ok (n := 0) (by decide) (by decide +kernel) rfl) <|
  mi_cI (mi_aload_n_ok (k := 0) (by decide +kernel) rfl rfl) <|
  mi_cI (mi_get_ok (by decide +kernel) fl_X7_65 rfl) <|
  mi_cI (mi_iconst_ok (n := 1) (by decide) (by decide +kernel) rfl) <|
  mi_cI (mi_iald_ok (by decide +kernel) rfl) <|
  mi_cI (mi_iast_ok (by decide +kernel) rfl) <|
  mi_cI (mi_aload_n_ok (k := 0) (by decide +kernel) rfl rfl) <|
  mi_cI (mi_get_ok (by decide +kernel) fl_X7_71 rfl) <|
  mi_cI (mi_iconst_ok (n := 0) (by decide) (by decide +kernel) rfl) <|
  mi_cI (mi_aload_n_ok (k := 0) (by decide +kernel) rfl rfl) <|
  mi_cI (mi_get_ok (by decide +kernel) fl_X7_71 rfl) <|
  mi_cI (mi_iconst_ok (n := 2) (by decide) (by decide +kernel) rfl) <|
  mi_cI (mi_iald_ok (by decide +kernel) rfl) <|
  mi_cI (mi_iast_ok (by decide +kernel) rfl) <|
  mi_cI (mi_aload_n_ok (k := 0) (by decide +kernel) rfl rfl) <|
  mi_cI (mi_get_ok (by decide +kernel) fl_X7_71 rfl) <|
  mi_cI (mi_iconst_ok (n := 1) (by decide) (by decide +kernel) rfl) <|
  mi_cI (mi_aload_n_ok (k := 0) (by decide +kernel) rfl rfl) <|
  mi_cI (mi_get_ok (by decide +kernel) fl_X7_71 rfl) <|
  mi_cI (mi_iconst_ok (n := 3) (by decide) (by decide +kernel) rfl) <|
  mi_cI (mi_iald_ok (by decide +kernel) rfl) <|
  mi_cI (mi_iast_ok (by decide +kernel) rfl) <|
  mi_cI (mi_aload_n_ok (k := 0) (by decide +kernel) rfl rfl) <|
  mi_cI (mi_get_ok (by decide +kernel) fl_X7_23 rfl) <|
  mi_cI (mi_sipush_ok (n := 270) (by decide) (by decide +kernel) rfl) <|
  mi_cC ⟨m_X7_takeRow, rfl, okM_X7_takeRow, 220, 2, by decide +kernel, Or.inr (Or.inr ⟨(by decide +kernel), rfl, (mi_gd5 121 rfl rfl), Or.inl (mi_gd5 120 rfl rfl)⟩)⟩ <|
  mi_cI (mi_aload_n_ok (k := 0) (by decide +kernel) rfl rfl) <|
  mi_cI (mi_get_ok (by decide +kernel) fl_X7_29 rfl) <|
  mi_cI (mi_bipush_ok (n := 40) (by decide) (by decide +kernel) rfl) <|
  mi_cC ⟨m_X7_takeRow, rfl, okM_X7_takeRow, 220, 2, by decide +kernel, Or.inr (Or.inr ⟨(by decide +kernel), rfl, (mi_gd5 121 rfl rfl), Or.inl (mi_gd5 120 rfl rfl)⟩)⟩ <|
  mi_cI (mi_aload_n_ok (k := 0) (by decide +kernel) rfl rfl) <|
  mi_cI (mi_get_ok (by decide +kernel) fl_X7_32 rfl) <|
  mi_cI (mi_bipush_ok (n := 40) (by decide) (by decide +kernel) rfl) <|
  mi_cC ⟨m_X7_takeRow, rfl, okM_X7_takeRow, 220, 2, by decide +kernel, Or.inr (Or.inr ⟨(by decide +kernel), rfl, (mi_gd5 121 rfl rfl), Or.inl (mi_gd5 120 rfl rfl)⟩)⟩ <|
  mi_cI (mi_aload_n_ok (k := 0) (by decide +kernel) rfl rfl) <|
  mi_cI (mi_get_ok (by decide +kernel) fl_X7_35 rfl) <|
  mi_cI (mi_bipush_ok (n := 40) (by decide) (by decide +kernel) rfl) <|
  mi_cC ⟨m_X7_takeRow, rfl, okM_X7_takeRow, 220, 2, by decide +kernel, Or.inr (Or.inr ⟨(by decide +kernel), rfl, (mi_gd5 121 rfl rfl), Or.inl (mi_gd5 120 rfl rfl)⟩)⟩ <|
  mi_cI (mi_aload_n_ok (k := 0) (by decide +kernel) rfl rfl) <|
  mi_cI (mi_get_ok (by decide +kernel) fl_X7_41 rfl) <|
  mi_cI (mi_iconst_ok (n := 3) (by decide) (by decide +kernel) rfl) <|
  mi_cC ⟨m_X7_takeRow, rfl, okM_X7_takeRow, 220, 2, by decide +kernel, Or.inr (Or.inr ⟨(by decide +kernel), rfl, (mi_gd5 121 rfl rfl), Or.inl (mi_gd5 120 rfl rfl)⟩)⟩ <|
  mi_cI (mi_aload_n_ok (k := 0) (by decide +kernel) rfl rfl) <|
  mi_cI (mi_get_ok (by decide +kernel) fl_X7_44 rfl) <|
  mi_cI (mi_bipush_ok (n := 27) (by decide) (by decide +kernel) rfl) <|
  mi_cC ⟨m_X7_takeRow, rfl, okM_X7_takeRow, 220, 2, by decide +kernel, Or.inr (Or.inr ⟨(by decide +kernel), rfl, (mi_gd5 121 rfl rfl), Or.inl (mi_gd5 120 rfl rfl)⟩)⟩ <|
  mi_cI (mi_aload_n_ok (k := 0) (by decide +kernel) rfl rfl) <|
  mi_cI (mi_get_ok (by decide +kernel) fl_X7_47 rfl) <|
  mi_cI (mi_bipush_ok (n := 120) (by decide) (by decide +kernel) rfl) <|
  mi_cC ⟨m_X7_takeRow, rfl, okM_X7_takeRow, 220, 2, by decide +kernel, Or.inr (Or.inr ⟨(by decide +kernel), rfl, (mi_gd5 121 rfl rfl), Or.inl (mi_gd5 120 rfl rfl)⟩)⟩ <|
  mi_cI (mi_aload_n_ok (k := 0) (by decide +kernel) rfl rfl) <|
  mi_cI (mi_get_ok (by decide +kernel) fl_X7_50 rfl) <|
  mi_cI (mi_bipush_ok (n := 120) (by decide) (by decide +kernel) rfl) <|
  mi_cC ⟨m_X7_takeRow, rfl, okM_X7_takeRow, 220, 2, by decide +kernel, Or.inr (Or.inr ⟨(by decide +kernel), rfl, (mi_gd5 121 rfl rfl), Or.inl (mi_gd5 120 rfl rfl)⟩)⟩ <|
  mi_cI (mi_aload_n_ok (k := 0) (by decide +kernel) rfl rfl) <|
  mi_cI (mi_get_ok (by decide +kernel) fl_X7_53 rfl) <|
  mi_cI (mi_sipush_ok (n := 1080) (by decide) (by decide +kernel) rfl) <|
  mi_cC ⟨m_X7_takeRow, rfl, okM_X7_takeRow, 220, 2, by decide +kernel, Or.inr (Or.inr ⟨(by decide +kernel), rfl, (mi_gd5 121 rfl rfl), Or.inl (mi_gd5 120 rfl rfl)⟩)⟩ <|
  mi_cI (mi_aload_n_ok (k := 0) (by decide +kernel) rfl rfl) <|
  mi_cI (mi_get_ok (by decide +kernel) fl_X7_62 rfl) <|
  mi_cI (mi_sipush_ok (n := 6300) (by decide) (by decide +kernel) rfl) <|
  mi_cC ⟨m_X7_takeRow, rfl, okM_X7_takeRow, 220, 2, by decide +kernel, Or.inr (Or.inr ⟨(by decide +kernel), rfl, (mi_gd5 121 rfl rfl), Or.inl (mi_gd5 120 rfl rfl)⟩)⟩ <|
  mi_cI (mi_aload_n_ok (k := 0) (by decide +kernel) rfl rfl) <|
  mi_cI (mi_get_ok (by decide +kernel) fl_X7_68 rfl) <|
  mi_cI (mi_sipush_ok (n := 601) (by decide) (by decide +kernel) rfl) <|
  mi_cC ⟨m_X7_takeRow, rfl, okM_X7_takeRow, 220, 2, by decide +kernel, Or.inr (Or.inr ⟨(by decide +kernel), rfl, (mi_gd5 121 rfl rfl), Or.inl (mi_gd5 120 rfl rfl)⟩)⟩ <|
  mi_cR (Or.inl ⟨rfl, (by decide +kernel), rfl⟩) <| mi_cN
set_option maxRecDepth 100000 in
set_option maxHeartbeats 4000000 in
theorem ok_X7_takeRow : ∀ q ∈ t_X7_takeRow, mi_OkE mi_ms RX7 cX7_takeRow 3 false none q :=
  mi_cI (mi_iconst_ok (n := 0) (by decide) (by decide +kernel) rfl) <|
  mi_cI (mi_istore_n_ok (k := 2) (by decide +kernel) rfl (by decide) rfl) <|
  mi_cI (mi_iload_n_ok (k := 2) (by decide +kernel) rfl rfl) <|
  mi_cI (mi_iload_n_ok (k := 1) (by decide +kernel) rfl rfl) <|
  mi_cI (mi_icmp_ge_ok (off := 17) (by decide +kernel) (by decide) rfl) <|
  mi_cI (mi_aload_n_ok (k := 0) (by decide +kernel) rfl rfl) <|
  mi_cI (mi_iload_n_ok (k := 2) (by decide +kernel) rfl rfl) <|
  mi_cI (mi_aload_n_ok (k := 0) (by decide +kernel) rfl rfl) <|
  mi_cI (mi_iload_n_ok (k := 1) (by decide +kernel) rfl rfl) <|
  mi_cI (mi_iload_n_ok (k := 2) (by decide +kernel) rfl rfl) <|
  mi_cI (mi_iadd_ok (by decide +kernel) rfl) <|
  mi_cI (mi_iald_ok (by decide +kernel) rfl) <|
  mi_cI (mi_iast_ok (by decide +kernel) rfl) <|
  mi_cI (mi_inc_ok (by decide +kernel) (by decide) rfl) <|
  mi_cI (mi_goto_ok (off := (-16)) (by decide +kernel) (by decide)) <|
  mi_cR (Or.inl ⟨rfl, (by decide +kernel), rfl⟩) <| mi_cN
set_option maxRecDepth 100000 in
set_option maxHeartbeats 4000000 in
theorem ok_X7_read : ∀ q ∈ t_X7_read, mi_OkE mi_ms RX7 cX7_read 2 false (some .int) q :=
  mi_cI (mi_aload_n_ok (k := 0) (by decide +kernel) rfl rfl) <|
  mi_cI (mi_iconst_ok (n := 0) (by decide) (by decide +kernel) rfl) <|
  mi_cI (mi_put_ok (by decide +kernel) fl_X7_98 rfl rfl) <|
  mi_cI (mi_aload_n_ok (k := 0) (by decide +kernel) rfl rfl) <|
  mi_cI (mi_iconst_ok (n := 0) (by decide) (by decide +kernel) rfl) <|
  mi_cI (mi_put_ok (by decide +kernel) fl_X7_105 rfl rfl) <|
  mi_cI (mi_aload_n_ok (k := 0) (by decide +kernel) rfl rfl) <|
  mi_cI (mi_iconst_ok (n := 1) (by decide) (by decide +kernel) rfl) <|
  mi_cI (mi_put_ok (by decide +kernel) fl_X7_174 rfl rfl) <|
  mi_cI (mi_aload_n_ok (k := 0) (by decide +kernel) rfl rfl) <|
  mi_cI (mi_iconst_ok (n := 0) (by decide) (by decide +kernel) rfl) <|
  mi_cI (mi_put_ok (by decide +kernel) fl_X7_223 rfl rfl) <|
  mi_cI (mi_aload_n_ok (k := 0) (by decide +kernel) rfl rfl) <|
  mi_cI (mi_iconst_ok (n := 0) (by decide) (by decide +kernel) rfl) <|
  mi_cI (mi_put_ok (by decide +kernel) fl_X7_108 rfl rfl) <|
  mi_cI (mi_aload_n_ok (k := 0) (by decide +kernel) rfl rfl) <|
  mi_cI (mi_iconst_ok (n := 0) (by decide) (by decide +kernel) rfl) <|
  mi_cI (mi_put_ok (by decide +kernel) fl_X7_167 rfl rfl) <|
  mi_cI (mi_aload_n_ok (k := 0) (by decide +kernel) rfl rfl) <|
  mi_cI (mi_iconst_ok (n := 0) (by decide) (by decide +kernel) rfl) <|
  mi_cI (mi_put_ok (by decide +kernel) fl_X7_177 rfl rfl) <|
  mi_cI (mi_aload_n_ok (k := 0) (by decide +kernel) rfl rfl) <|
  mi_cI (mi_get_ok (by decide +kernel) fl_X7_20 rfl) <|
  mi_cI (mi_iconst_ok (n := 1) (by decide) (by decide +kernel) rfl) <|
  mi_cI (mi_iconst_ok (n := 0) (by decide) (by decide +kernel) rfl) <|
  mi_cI (mi_iast_ok (by decide +kernel) rfl) <|
  mi_cI (mi_aload_n_ok (k := 0) (by decide +kernel) rfl rfl) <|
  mi_cI (mi_get_ok (by decide +kernel) fl_X7_26 rfl) <|
  mi_cI (mi_iconst_ok (n := 1) (by decide) (by decide +kernel) rfl) <|
  mi_cI (mi_iconst_ok (n := 0) (by decide) (by decide +kernel) rfl) <|
  mi_cI (mi_iast_ok (by decide +kernel) rfl) <|
  mi_cI (mi_aload_n_ok (k := 0) (by decide +kernel) rfl rfl) <|
  mi_cI (mi_get_ok (by decide +kernel) fl_X7_38 rfl) <|
  mi_cI (mi_iconst_ok (n := 1) (by decide) (by decide +kernel) rfl) <|
  mi_cI (mi_iconst_ok (n := 0) (by decide) (by decide +kernel) rfl) <|
  mi_cI (mi_iast_ok (by decide +kernel) rfl) <|
  mi_cI (mi_aload_n_ok (k := 0) (by decide +kernel) rfl rfl) <|
  mi_cI (mi_get_ok (by decide +kernel) fl_X7_56 rfl) <|
  mi_cI (mi_iconst_ok (n := 1) (by decide) (by decide +kernel) rfl) <|
  mi_cI (mi_iconst_ok (n := 0) (by decide) (by decide +kernel) rfl) <|
  mi_cI (mi_iast_ok (by decide +kernel) rfl) <|
  mi_cI (mi_aload_n_ok (k := 0) (by decide +kernel) rfl rfl) <|
  mi_cI (mi_get_ok (by decide +kernel) fl_X7_59 rfl) <|
  mi_cI (mi_iconst_ok (n := 1) (by decide) (by decide +kernel) rfl) <|
  mi_cI (mi_iconst_ok (n := 0) (by decide) (by decide +kernel) rfl) <|
  mi_cI (mi_iast_ok (by decide +kernel) rfl) <|
  mi_cI (mi_aload_n_ok (k := 0) (by decide +kernel) rfl rfl) <|
  mi_cI (mi_get_ok (by decide +kernel) fl_X7_65 rfl) <|
  mi_cI (mi_iconst_ok (n := 1) (by decide) (by decide +kernel) rfl) <|
  mi_cI (mi_iconst_ok (n := 0) (by decide) (by decide +kernel) rfl) <|
  mi_cI (mi_iast_ok (by decide +kernel) rfl) <|
  mi_cI (mi_aload_n_ok (k := 0) (by decide +kernel) rfl rfl) <|
  mi_cI (mi_get_ok (by decide +kernel) fl_X7_95 rfl) <|
  mi_cI (mi_if_le_ok (off := 7) (by decide +kernel) (by decide) rfl) <|
  mi_cI (mi_iconst_ok (n := 1) (by decide) (by decide +kernel) rfl) <|
  mi_cI (mi_goto_ok (off := 4) (by decide +kernel) (by decide)) <|
  mi_cI (mi_iconst_ok (n := 0) (by decide) (by decide +kernel) rfl) <|
  mi_cI (mi_istore_n_ok (k := 1) (by decide +kernel) rfl (by decide) rfl) <|
  mi_cI (mi_iload_n_ok (k := 1) (by decide +kernel) rfl rfl) <|
  mi_cI (mi_if_eq_ok (off := 68) (by decide +kernel) (by decide) rfl) <|
  mi_cI (mi_aload_n_ok (k := 0) (by decide +kernel) rfl rfl) <|
  mi_cC ⟨m_X7_readLine, rfl, okM_X7_readLine, 226, 0, by decide +kernel, Or.inl ⟨(by decide +kernel), rfl, (mi_gd5 6 rfl rfl), (mi_gd5 8 rfl rfl), (mi_gd0 33 rfl rfl), 7, _, _, rfl, rfl⟩⟩ <|
  mi_cI (mi_aload_n_ok (k := 0) (by decide +kernel) rfl rfl) <|
  mi_cI (mi_get_ok (by decide +kernel) fl_X7_108 rfl) <|
  mi_cI (mi_if_ne_ok (off := 20) (by decide +kernel) (by decide) rfl) <|
  mi_cI (mi_aload_n_ok (k := 0) (by decide +kernel) rfl rfl) <|
  mi_cI (mi_get_ok (by decide +kernel) fl_X7_105 rfl) <|
  mi_cI (mi_aload_n_ok (k := 0) (by decide +kernel) rfl rfl) <|
  mi_cI (mi_get_ok (by decide +kernel) fl_X7_95 rfl) <|
  mi_cI (mi_iconst_ok (n := 1) (by decide) (by decide +kernel) rfl) <|
  mi_cI (mi_isub_ok (by decide +kernel) rfl) <|
  mi_cI (mi_icmp_ge_ok (off := 7) (by decide +kernel) (by decide) rfl) <|
  mi_cI (mi_iconst_ok (n := 1) (by decide) (by decide +kernel) rfl) <|
  mi_cI (mi_goto_ok (off := 4) (by decide +kernel) (by decide)) <|
  mi_cI (mi_iconst_ok (n := 0) (by decide) (by decide +kernel) rfl) <|
  mi_cI (mi_istore_n_ok (k := 1) (by decide +kernel) rfl (by decide) rfl) <|
  mi_cI (mi_iload_n_ok (k := 1) (by decide +kernel) rfl rfl) <|
  mi_cI (mi_if_eq_ok (off := (-35)) (by decide +kernel) (by decide) rfl) <|
  mi_cI (mi_aload_n_ok (k := 0) (by decide +kernel) rfl rfl) <|
  mi_cI (mi_dup_ok (by decide +kernel) rfl) <|
  mi_cI (mi_get_ok (by decide +kernel) fl_X7_105 rfl) <|
  mi_cI (mi_iconst_ok (n := 1) (by decide) (by decide +kernel) rfl) <|
  mi_cI (mi_iadd_ok (by decide +kernel) rfl) <|
  mi_cI (mi_put_ok (by decide +kernel) fl_X7_105 rfl rfl) <|
  mi_cI (mi_aload_n_ok (k := 0) (by decide +kernel) rfl rfl) <|
  mi_cI (mi_dup_ok (by decide +kernel) rfl) <|
  mi_cI (mi_get_ok (by decide +kernel) fl_X7_174 rfl) <|
  mi_cI (mi_iconst_ok (n := 1) (by decide) (by decide +kernel) rfl) <|
  mi_cI (mi_iadd_ok (by decide +kernel) rfl) <|
  mi_cI (mi_put_ok (by decide +kernel) fl_X7_174 rfl rfl) <|
  mi_cI (mi_aload_n_ok (k := 0) (by decide +kernel) rfl rfl) <|
  mi_cI (mi_aload_n_ok (k := 0) (by decide +kernel) rfl rfl) <|
  mi_cI (mi_get_ok (by decide +kernel) fl_X7_105 rfl) <|
  mi_cI (mi_put_ok (by decide +kernel) fl_X7_223 rfl rfl) <|
  mi_cI (mi_goto_ok (off := (-66)) (by decide +kernel) (by decide)) <|
  mi_cI (mi_aload_n_ok (k := 0) (by decide +kernel) rfl rfl) <|
  mi_cI (mi_aload_n_ok (k := 0) (by decide +kernel) rfl rfl) <|
  mi_cI (mi_get_ok (by decide +kernel) fl_X7_20 rfl) <|
  mi_cI (mi_iconst_ok (n := 1) (by decide) (by decide +kernel) rfl) <|
  mi_cI (mi_iald_ok (by decide +kernel) rfl) <|
  mi_cI (mi_iconst_ok (n := 0) (by decide) (by decide +kernel) rfl) <|
  mi_cC ⟨m_X7_lie, rfl, okM_X7_lie, 229, 2, by decide +kernel, Or.inl ⟨(by decide +kernel), rfl, (mi_gd5 108 rfl rfl), (mi_gd5 110 rfl rfl), (mi_gd0 57 rfl rfl), 7, _, _, rfl, rfl⟩⟩ <|
  mi_cI (mi_aload_n_ok (k := 0) (by decide +kernel) rfl rfl) <|
  mi_cI (mi_aload_n_ok (k := 0) (by decide +kernel) rfl rfl) <|
  mi_cI (mi_get_ok (by decide +kernel) fl_X7_26 rfl) <|
  mi_cI (mi_iconst_ok (n := 1) (by decide) (by decide +kernel) rfl) <|
  mi_cI (mi_iald_ok (by decide +kernel) rfl) <|
  mi_cI (mi_iconst_ok (n := 1) (by decide) (by decide +kernel) rfl) <|
  mi_cC ⟨m_X7_lie, rfl, okM_X7_lie, 229, 2, by decide +kernel, Or.inl ⟨(by decide +kernel), rfl, (mi_gd5 108 rfl rfl), (mi_gd5 110 rfl rfl), (mi_gd0 57 rfl rfl), 7, _, _, rfl, rfl⟩⟩ <|
  mi_cI (mi_aload_n_ok (k := 0) (by decide +kernel) rfl rfl) <|
  mi_cI (mi_iconst_ok (n := 0) (by decide) (by decide +kernel) rfl) <|
  mi_cI (mi_put_ok (by decide +kernel) fl_X7_95 rfl rfl) <|
  mi_cI (mi_aload_n_ok (k := 0) (by decide +kernel) rfl rfl) <|
  mi_cI (mi_aload_n_ok (k := 0) (by decide +kernel) rfl rfl) <|
  mi_cI (mi_get_ok (by decide +kernel) fl_X7_108 rfl) <|
  mi_cI (mi_if_ne_ok (off := 7) (by decide +kernel) (by decide) rfl) <|
  mi_cI (mi_iconst_ok (n := (-1)) (by decide) (by decide +kernel) rfl) <|
  mi_cI (mi_goto_ok (off := 7) (by decide +kernel) (by decide)) <|
  mi_cI (mi_aload_n_ok (k := 0) (by decide +kernel) rfl rfl) <|
  mi_cI (mi_get_ok (by decide +kernel) fl_X7_174 rfl) <|
  mi_cI (mi_put_ok (by decide +kernel) fl_X7_13 rfl rfl) <|
  mi_cI (mi_aload_n_ok (k := 0) (by decide +kernel) rfl rfl) <|
  mi_cI (mi_aload_n_ok (k := 0) (by decide +kernel) rfl rfl) <|
  mi_cI (mi_get_ok (by decide +kernel) fl_X7_108 rfl) <|
  mi_cI (mi_if_ne_ok (off := 7) (by decide +kernel) (by decide) rfl) <|
  mi_cI (mi_iconst_ok (n := (-1)) (by decide) (by decide +kernel) rfl) <|
  mi_cI (mi_goto_ok (off := 14) (by decide +kernel) (by decide)) <|
  mi_cI (mi_aload_n_ok (k := 0) (by decide +kernel) rfl rfl) <|
  mi_cI (mi_get_ok (by decide +kernel) fl_X7_111 rfl) <|
  mi_cI (mi_aload_n_ok (k := 0) (by decide +kernel) rfl rfl) <|
  mi_cI (mi_get_ok (by decide +kernel) fl_X7_223 rfl) <|
  mi_cI (mi_isub_ok (by decide +kernel) rfl) <|
  mi_cI (mi_iconst_ok (n := 1) (by decide) (by decide +kernel) rfl) <|
  mi_cI (mi_iadd_ok (by decide +kernel) rfl) <|
  mi_cI (mi_put_ok (by decide +kernel) fl_X7_17 rfl rfl) <|
  mi_cI (mi_aload_n_ok (k := 0) (by decide +kernel) rfl rfl) <|
  mi_cI (mi_get_ok (by decide +kernel) fl_X7_108 rfl) <|
  mi_cI (mi_if_le_ok (off := 11) (by decide +kernel) (by decide) rfl) <|
  mi_cI (mi_bipush_ok (n := (-10)) (by decide) (by decide +kernel) rfl) <|
  mi_cI (mi_aload_n_ok (k := 0) (by decide +kernel) rfl rfl) <|
  mi_cI (mi_get_ok (by decide +kernel) fl_X7_108 rfl) <|
  mi_cI (mi_isub_ok (by decide +kernel) rfl) <|
  mi_cR (Or.inr (Or.inl ⟨rfl, (by decide +kernel), rfl⟩)) <|
  mi_cI (mi_aload_n_ok (k := 0) (by decide +kernel) rfl rfl) <|
  mi_cC ⟨m_X7_guessKinds, rfl, okM_X7_guessKinds, 232, 0, by decide +kernel, Or.inl ⟨(by decide +kernel), rfl, (mi_gd5 112 rfl rfl), (mi_gd5 114 rfl rfl), (mi_gd0 58 rfl rfl), 7, _, _, rfl, rfl⟩⟩ <|
  mi_cI (mi_aload_n_ok (k := 0) (by decide +kernel) rfl rfl) <|
  mi_cC ⟨m_X7_takeOver, rfl, okM_X7_takeOver, 235, 0, by decide +kernel, Or.inl ⟨(by decide +kernel), rfl, (mi_gd5 116 rfl rfl), (mi_gd5 118 rfl rfl), (mi_gd0 59 rfl rfl), 7, _, _, rfl, rfl⟩⟩ <|
  mi_cI (mi_aload_n_ok (k := 0) (by decide +kernel) rfl rfl) <|
  mi_cI (mi_get_ok (by decide +kernel) fl_X7_26 rfl) <|
  mi_cI (mi_iconst_ok (n := 0) (by decide) (by decide +kernel) rfl) <|
  mi_cI (mi_iald_ok (by decide +kernel) rfl) <|
  mi_cR (Or.inr (Or.inl ⟨rfl, (by decide +kernel), rfl⟩)) <| mi_cN
set_option maxRecDepth 100000 in
set_option maxHeartbeats 4000000 in
theorem ok_X7_lie : ∀ q ∈ t_X7_lie, mi_OkE mi_ms RX7 cX7_lie 3 false none q :=
  mi_cI (mi_aload_n_ok (k := 0) (by decide +kernel) rfl rfl) <|
  mi_cI (mi_get_ok (by decide +kernel) fl_X7_108 rfl) <|
  mi_cI (mi_if_ne_ok (off := 90) (by decide +kernel) (by decide) rfl) <|
  mi_cI (mi_aload_n_ok (k := 0) (by decide +kernel) rfl rfl) <|
  mi_cI (mi_get_ok (by decide +kernel) fl_X7_167 rfl) <|
  mi_cI (mi_if_eq_ok (off := 83) (by decide +kernel) (by decide) rfl) <|
  mi_cI (mi_aload_n_ok (k := 0) (by decide +kernel) rfl rfl) <|
  mi_cI (mi_get_ok (by decide +kernel) fl_X7_71 rfl) <|
  mi_cI (mi_iconst_ok (n := 2) (by decide) (by decide +kernel) rfl) <|
  mi_cI (mi_iload_n_ok (k := 2) (by decide +kernel) rfl rfl) <|
  mi_cI (mi_iadd_ok (by decide +kernel) rfl) <|
  mi_cI (mi_iald_ok (by decide +kernel) rfl) <|
  mi_cI (mi_iload_n_ok (k := 1) (by decide +kernel) rfl rfl) <|
  mi_cI (mi_icmp_eq_ok (off := 71) (by decide +kernel) (by decide) rfl) <|
  mi_cI (mi_aload_n_ok (k := 0) (by decide +kernel) rfl rfl) <|
  mi_cI (mi_bipush_ok (n := 7) (by decide) (by decide +kernel) rfl) <|
  mi_cI (mi_aload_n_ok (k := 0) (by decide +kernel) rfl rfl) <|
  mi_cI (mi_get_ok (by decide +kernel) fl_X7_80 rfl) <|
  mi_cI (mi_iload_n_ok (k := 2) (by decide +kernel) rfl rfl) <|
  mi_cI (mi_iald_ok (by decide +kernel) rfl) <|
  mi_cC ⟨m_X7_wrong, rfl, okM_X7_wrong, 122, 2, by decide +kernel, Or.inl ⟨(by decide +kernel), rfl, (mi_gd5 22 rfl rfl), (mi_gd5 24 rfl rfl), (mi_gd0 37 rfl rfl), 7, _, _, rfl, rfl⟩⟩ <|
  mi_cI (mi_aload_n_ok (k := 0) (by decide +kernel) rfl rfl) <|
  mi_cI (mi_aload_n_ok (k := 0) (by decide +kernel) rfl rfl) <|
  mi_cI (mi_get_ok (by decide +kernel) fl_X7_83 rfl) <|
  mi_cI (mi_iload_n_ok (k := 2) (by decide +kernel) rfl rfl) <|
  mi_cI (mi_iald_ok (by decide +kernel) rfl) <|
  mi_cI (mi_put_ok (by decide +kernel) fl_X7_174 rfl rfl) <|
  mi_cI (mi_aload_n_ok (k := 0) (by decide +kernel) rfl rfl) <|
  mi_cI (mi_aload_n_ok (k := 0) (by decide +kernel) rfl rfl) <|
  mi_cI (mi_get_ok (by decide +kernel) fl_X7_80 rfl) <|
  mi_cI (mi_iload_n_ok (k := 2) (by decide +kernel) rfl rfl) <|
  mi_cI (mi_iald_ok (by decide +kernel) rfl) <|
  mi_cI (mi_put_ok (by decide +kernel) fl_X7_223 rfl rfl) <|
  mi_cI (mi_aload_n_ok (k := 0) (by decide +kernel) rfl rfl) <|
  mi_cI (mi_get_ok (by decide +kernel) fl_X7_223 rfl) <|
  mi_cI (mi_if_le_ok (off := 32) (by decide +kernel) (by decide) rfl) <|
  mi_cI (mi_aload_n_ok (k := 0) (by decide +kernel) rfl rfl) <|
  mi_cI (mi_get_ok (by decide +kernel) fl_X7_7 rfl) <|
  mi_cI (mi_aload_n_ok (k := 0) (by decide +kernel) rfl rfl) <|
  mi_cI (mi_get_ok (by decide +kernel) fl_X7_223 rfl) <|
  mi_cI (mi_iconst_ok (n := 1) (by decide) (by decide +kernel) rfl) <|
  mi_cI (mi_isub_ok (by decide +kernel) rfl) <|
  mi_cI (mi_iald_ok (by decide +kernel) rfl) <|
  mi_cI (mi_bipush_ok (n := 10) (by decide) (by decide +kernel) rfl) <|
  mi_cI (mi_icmp_eq_ok (off := 16) (by decide +kernel) (by decide) rfl) <|
  mi_cI (mi_aload_n_ok (k := 0) (by decide +kernel) rfl rfl) <|
  mi_cI (mi_dup_ok (by decide +kernel) rfl) <|
  mi_cI (mi_get_ok (by decide +kernel) fl_X7_223 rfl) <|
  mi_cI (mi_iconst_ok (n := 1) (by decide) (by decide +kernel) rfl) <|
  mi_cI (mi_isub_ok (by decide +kernel) rfl) <|
  mi_cI (mi_put_ok (by decide +kernel) fl_X7_223 rfl rfl) <|
  mi_cI (mi_goto_ok (off := (-33)) (by decide +kernel) (by decide)) <|
  mi_cR (Or.inl ⟨rfl, (by decide +kernel), rfl⟩) <| mi_cN
set_option maxRecDepth 100000 in
set_option maxHeartbeats 4000000 in
theorem ok_X7_fault : ∀ q ∈ t_X7_fault, mi_OkE mi_ms RX7 cX7_fault 2 false (some .int) q :=
  mi_cI (mi_aload_n_ok (k := 0) (by decide +kernel) rfl rfl) <|
  mi_cI (mi_iconst_ok (n := 0) (by decide) (by decide +kernel) rfl) <|
  mi_cI (mi_put_ok (by decide +kernel) fl_X7_98 rfl rfl) <|
  mi_cI (mi_iload_n_ok (k := 1) (by decide +kernel) rfl rfl) <|
  mi_cI (mi_if_ne_ok (off := 10) (by decide +kernel) (by decide) rfl) <|
  mi_cI (mi_aload_n_ok (k := 0) (by decide +kernel) rfl rfl) <|
  mi_cI (mi_get_ok (by decide +kernel) fl_X7_13 rfl) <|
  mi_cI (mi_goto_ok (off := 17) (by decide +kernel) (by decide)) <|
  mi_cI (mi_iload_n_ok (k := 1) (by decide +kernel) rfl rfl) <|
  mi_cI (mi_iconst_ok (n := 1) (by decide) (by decide +kernel) rfl) <|
  mi_cI (mi_icmp_ne_ok (off := 10) (by decide +kernel) (by decide) rfl) <|
  mi_cI (mi_aload_n_ok (k := 0) (by decide +kernel) rfl rfl) <|
  mi_cI (mi_get_ok (by decide +kernel) fl_X7_17 rfl) <|
  mi_cI (mi_goto_ok (off := 5) (by decide +kernel) (by decide)) <|
  mi_cI (mi_bipush_ok (n := (-102)) (by decide) (by decide +kernel) rfl) <|
  mi_cR (Or.inr (Or.inl ⟨rfl, (by decide +kernel), rfl⟩)) <| mi_cN
set_option maxRecDepth 100000 in
set_option maxHeartbeats 4000000 in
theorem ok_X7_manner : ∀ q ∈ t_X7_manner, mi_OkE mi_ms RX7 cX7_manner 3 false (some .int) q :=
  mi_cI (mi_aload_n_ok (k := 0) (by decide +kernel) rfl rfl) <|
  mi_cI (mi_iconst_ok (n := 0) (by decide) (by decide +kernel) rfl) <|
  mi_cI (mi_put_ok (by decide +kernel) fl_X7_98 rfl rfl) <|
  mi_cI (mi_iload_n_ok (k := 1) (by decide +kernel) rfl rfl) <|
  mi_cI (mi_iconst_ok (n := 0) (by decide) (by decide +kernel) rfl) <|
  mi_cI (mi_iconst_ok (n := 2) (by decide) (by decide +kernel) rfl) <|
  mi_cC ⟨m_X7_in, rfl, okM_X7_in, 101, 3, by decide +kernel, Or.inr (Or.inr ⟨(by decide +kernel), rfl, (mi_gd5 0 rfl rfl), Or.inl (mi_gd4 239 rfl rfl)⟩)⟩ <|
  mi_cI (mi_if_ne_ok (off := 6) (by decide +kernel) (by decide) rfl) <|
  mi_cI (mi_bipush_ok (n := (-102)) (by decide) (by decide +kernel) rfl) <|
  mi_cR (Or.inr (Or.inl ⟨rfl, (by decide +kernel), rfl⟩)) <|
  mi_cI (mi_aload_n_ok (k := 0) (by decide +kernel) rfl rfl) <|
  mi_cI (mi_get_ok (by decide +kernel) fl_X7_196 rfl) <|
  mi_cI (mi_istore_n_ok (k := 2) (by decide +kernel) rfl (by decide) rfl) <|
  mi_cI (mi_aload_n_ok (k := 0) (by decide +kernel) rfl rfl) <|
  mi_cI (mi_iload_n_ok (k := 1) (by decide +kernel) rfl rfl) <|
  mi_cI (mi_put_ok (by decide +kernel) fl_X7_196 rfl rfl) <|
  mi_cI (mi_iload_n_ok (k := 2) (by decide +kernel) rfl rfl) <|
  mi_cR (Or.inr (Or.inl ⟨rfl, (by decide +kernel), rfl⟩)) <| mi_cN
set_option maxRecDepth 100000 in
set_option maxHeartbeats 4000000 in
theorem ok_X7_find : ∀ q ∈ t_X7_find, mi_OkE mi_ms RX7 cX7_find 5 false (some .int) q :=
  mi_cI (mi_aload_n_ok (k := 0) (by decide +kernel) rfl rfl) <|
  mi_cI (mi_iconst_ok (n := 0) (by decide) (by decide +kernel) rfl) <|
  mi_cI (mi_put_ok (by decide +kernel) fl_X7_98 rfl rfl) <|
  mi_cI (mi_iconst_ok (n := (-1)) (by decide) (by decide +kernel) rfl) <|
  mi_cI (mi_istore_n_ok (k := 1) (by decide +kernel) rfl (by decide) rfl) <|
  mi_cI (mi_iconst_ok (n := 0) (by decide) (by decide +kernel) rfl) <|
  mi_cI (mi_istore_n_ok (k := 2) (by decide +kernel) rfl (by decide) rfl) <|
  mi_cI (mi_iload_n_ok (k := 2) (by decide +kernel) rfl rfl) <|
  mi_cI (mi_aload_n_ok (k := 0) (by decide +kernel) rfl rfl) <|
  mi_cI (mi_get_ok (by decide +kernel) fl_X7_20 rfl) <|
  mi_cI (mi_iconst_ok (n := 0) (by decide) (by decide +kernel) rfl) <|
  mi_cI (mi_iald_ok (by decide +kernel) rfl) <|
  mi_cI (mi_icmp_ge_ok (off := 93) (by decide +kernel) (by decide) rfl) <|
  mi_cI (mi_aload_n_ok (k := 0) (by decide +kernel) rfl rfl) <|
  mi_cI (mi_get_ok (by decide +kernel) fl_X7_23 rfl) <|
  mi_cI (mi_bipush_ok (n := 9) (by decide) (by decide +kernel) rfl) <|
  mi_cI (mi_iload_n_ok (k := 2) (by decide +kernel) rfl rfl) <|
  mi_cI (mi_imul_ok (by decide +kernel) rfl) <|
  mi_cI (mi_iald_ok (by decide +kernel) rfl) <|
  mi_cI (mi_aload_n_ok (k := 0) (by decide +kernel) rfl rfl) <|
  mi_cI (mi_get_ok (by decide +kernel) fl_X7_95 rfl) <|
  mi_cI (mi_icmp_ne_ok (off := 7) (by decide +kernel) (by decide) rfl) <|
  mi_cI (mi_iconst_ok (n := 1) (by decide) (by decide +kernel) rfl) <|
  mi_cI (mi_goto_ok (off := 4) (by decide +kernel) (by decide)) <|
  mi_cI (mi_iconst_ok (n := 0) (by decide) (by decide +kernel) rfl) <|
  mi_cI (mi_istore_n_ok (k := 3) (by decide +kernel) rfl (by decide) rfl) <|
  mi_cI (mi_iconst_ok (n := 0) (by decide) (by decide +kernel) rfl) <|
  mi_cI (mi_istore_ok (by decide +kernel) (by decide) rfl) <|
  mi_cI (mi_iload_ok (by decide +kernel) rfl) <|
  mi_cI (mi_aload_n_ok (k := 0) (by decide +kernel) rfl rfl) <|
  mi_cI (mi_get_ok (by decide +kernel) fl_X7_95 rfl) <|
  mi_cI (mi_icmp_ge_ok (off := 43) (by decide +kernel) (by decide) rfl) <|
  mi_cI (mi_iload_n_ok (k := 3) (by decide +kernel) rfl rfl) <|
  mi_cI (mi_if_eq_ok (off := 39) (by decide +kernel) (by decide) rfl) <|
  mi_cI (mi_aload_n_ok (k := 0) (by decide +kernel) rfl rfl) <|
  mi_cI (mi_get_ok (by decide +kernel) fl_X7_23 rfl) <|
  mi_cI (mi_bipush_ok (n := 9) (by decide) (by decide +kernel) rfl) <|
  mi_cI (mi_iload_n_ok (k := 2) (by decide +kernel) rfl rfl) <|
  mi_cI (mi_imul_ok (by decide +kernel) rfl) <|
  mi_cI (mi_iconst_ok (n := 1) (by decide) (by decide +kernel) rfl) <|
  mi_cI (mi_iadd_ok (by decide +kernel) rfl) <|
  mi_cI (mi_iload_ok (by decide +kernel) rfl) <|
  mi_cI (mi_iadd_ok (by decide +kernel) rfl) <|
  mi_cI (mi_iald_ok (by decide +kernel) rfl) <|
  mi_cI (mi_aload_n_ok (k := 0) (by decide +kernel) rfl rfl) <|
  mi_cI (mi_get_ok (by decide +kernel) fl_X7_7 rfl) <|
  mi_cI (mi_iload_ok (by decide +kernel) rfl) <|
  mi_cI (mi_iald_ok (by decide +kernel) rfl) <|
  mi_cI (mi_icmp_ne_ok (off := 7) (by decide +kernel) (by decide) rfl) <|
  mi_cI (mi_iconst_ok (n := 1) (by decide) (by decide +kernel) rfl) <|
  mi_cI (mi_goto_ok (off := 4) (by decide +kernel) (by decide)) <|
  mi_cI (mi_iconst_ok (n := 0) (by decide) (by decide +kernel) rfl) <|
  mi_cI (mi_istore_n_ok (k := 3) (by decide +kernel) rfl (by decide) rfl) <|
  mi_cI (mi_inc_ok (by decide +kernel) (by decide) rfl) <|
  mi_cI (mi_goto_ok (off := (-46)) (by decide +kernel) (by decide)) <|
  mi_cI (mi_iload_n_ok (k := 3) (by decide +kernel) rfl rfl) <|
  mi_cI (mi_if_eq_ok (off := 7) (by decide +kernel) (by decide) rfl) <|
  mi_cI (mi_iload_n_ok (k := 2) (by decide +kernel) rfl rfl) <|
  mi_cI (mi_goto_ok (off := 4) (by decide +kernel) (by decide)) <|
  mi_cI (mi_iload_n_ok (k := 1) (by decide +kernel) rfl rfl) <|
  mi_cI (mi_istore_n_ok (k := 1) (by decide +kernel) rfl (by decide) rfl) <|
  mi_cI (mi_inc_ok (by decide +kernel) (by decide) rfl) <|
  mi_cI (mi_goto_ok (off := (-97)) (by decide +kernel) (by decide)) <|
  mi_cI (mi_aload_n_ok (k := 0) (by decide +kernel) rfl rfl) <|
  mi_cI (mi_iconst_ok (n := 0) (by decide) (by decide +kernel) rfl) <|
  mi_cI (mi_put_ok (by decide +kernel) fl_X7_95 rfl rfl) <|
  mi_cI (mi_iload_n_ok (k := 1) (by decide +kernel) rfl rfl) <|
  mi_cR (Or.inr (Or.inl ⟨rfl, (by decide +kernel), rfl⟩)) <| mi_cN
set_option maxRecDepth 100000 in
set_option maxHeartbeats 4000000 in
theorem ok_X7_node : ∀ q ∈ t_X7_node, mi_OkE mi_ms RX7 cX7_node 3 false (some .int) q :=
  mi_cI (mi_aload_n_ok (k := 0) (by decide +kernel) rfl rfl) <|
  mi_cI (mi_iconst_ok (n := 0) (by decide) (by decide +kernel) rfl) <|
  mi_cI (mi_put_ok (by decide +kernel) fl_X7_98 rfl rfl) <|
  mi_cI (mi_iload_n_ok (k := 1) (by decide +kernel) rfl rfl) <|
  mi_cI (mi_iconst_ok (n := 0) (by decide) (by decide +kernel) rfl) <|
  mi_cI (mi_aload_n_ok (k := 0) (by decide +kernel) rfl rfl) <|
  mi_cI (mi_get_ok (by decide +kernel) fl_X7_20 rfl) <|
  mi_cI (mi_iconst_ok (n := 0) (by decide) (by decide +kernel) rfl) <|
  mi_cI (mi_iald_ok (by decide +kernel) rfl) <|
  mi_cI (mi_iconst_ok (n := 1) (by decide) (by decide +kernel) rfl) <|
  mi_cI (mi_isub_ok (by decide +kernel) rfl) <|
  mi_cC ⟨m_X7_in, rfl, okM_X7_in, 101, 3, by decide +kernel, Or.inr (Or.inr ⟨(by decide +kernel), rfl, (mi_gd5 0 rfl rfl), Or.inl (mi_gd4 239 rfl rfl)⟩)⟩ <|
  mi_cI (mi_if_ne_ok (off := 6) (by decide +kernel) (by decide) rfl) <|
  mi_cI (mi_bipush_ok (n := (-101)) (by decide) (by decide +kernel) rfl) <|
  mi_cR (Or.inr (Or.inl ⟨rfl, (by decide +kernel), rfl⟩)) <|
  mi_cI (mi_aload_n_ok (k := 0) (by decide +kernel) rfl rfl) <|
  mi_cI (mi_iload_n_ok (k := 2) (by decide +kernel) rfl rfl) <|
  mi_cI (mi_iconst_ok (n := 0) (by decide) (by decide +kernel) rfl) <|
  mi_cI (mi_aload_n_ok (k := 0) (by decide +kernel) rfl rfl) <|
  mi_cI (mi_get_ok (by decide +kernel) fl_X7_23 rfl) <|
  mi_cI (mi_bipush_ok (n := 9) (by decide) (by decide +kernel) rfl) <|
  mi_cI (mi_iload_n_ok (k := 1) (by decide +kernel) rfl rfl) <|
  mi_cI (mi_imul_ok (by decide +kernel) rfl) <|
  mi_cI (mi_iald_ok (by decide +kernel) rfl) <|
  mi_cI (mi_iconst_ok (n := 1) (by decide) (by decide +kernel) rfl) <|
  mi_cI (mi_isub_ok (by decide +kernel) rfl) <|
  mi_cC ⟨m_X7_in, rfl, okM_X7_in, 101, 3, by decide +kernel, Or.inr (Or.inr ⟨(by decide +kernel), rfl, (mi_gd5 0 rfl rfl), Or.inl (mi_gd4 239 rfl rfl)⟩)⟩ <|
  mi_cI (mi_if_eq_ok (off := 7) (by decide +kernel) (by decide) rfl) <|
  mi_cI (mi_iconst_ok (n := 0) (by decide) (by decide +kernel) rfl) <|
  mi_cI (mi_goto_ok (off := 4) (by decide +kernel) (by decide)) <|
  mi_cI (mi_iconst_ok (n := 1) (by decide) (by decide +kernel) rfl) <|
  mi_cI (mi_put_ok (by decide +kernel) fl_X7_98 rfl rfl) <|
  mi_cI (mi_aload_n_ok (k := 0) (by decide +kernel) rfl rfl) <|
  mi_cI (mi_get_ok (by decide +kernel) fl_X7_98 rfl) <|
  mi_cI (mi_if_le_ok (off := 7) (by decide +kernel) (by decide) rfl) <|
  mi_cI (mi_iconst_ok (n := 0) (by decide) (by decide +kernel) rfl) <|
  mi_cI (mi_goto_ok (off := 16) (by decide +kernel) (by decide)) <|
  mi_cI (mi_aload_n_ok (k := 0) (by decide +kernel) rfl rfl) <|
  mi_cI (mi_get_ok (by decide +kernel) fl_X7_23 rfl) <|
  mi_cI (mi_bipush_ok (n := 9) (by decide) (by decide +kernel) rfl) <|
  mi_cI (mi_iload_n_ok (k := 1) (by decide +kernel) rfl rfl) <|
  mi_cI (mi_imul_ok (by decide +kernel) rfl) <|
  mi_cI (mi_iconst_ok (n := 1) (by decide) (by decide +kernel) rfl) <|
  mi_cI (mi_iadd_ok (by decide +kernel) rfl) <|
  mi_cI (mi_iload_n_ok (k := 2) (by decide +kernel) rfl rfl) <|
  mi_cI (mi_iadd_ok (by decide +kernel) rfl) <|
  mi_cI (mi_iald_ok (by decide +kernel) rfl) <|
  mi_cR (Or.inr (Or.inl ⟨rfl, (by decide +kernel), rfl⟩)) <| mi_cN
set_option maxRecDepth 100000 in
set_option maxHeartbeats 4000000 in
theorem ok_X7_arc : ∀ q ∈ t_X7_arc, mi_OkE mi_ms RX7 cX7_arc 5 false (some .int) q :=
  mi_cI (mi_aload_n_ok (k := 0) (by decide +kernel) rfl rfl) <|
  mi_cI (mi_iconst_ok (n := 0) (by decide) (by decide +kernel) rfl) <|
  mi_cI (mi_put_ok (by decide +kernel) fl_X7_98 rfl rfl) <|
  mi_cI (mi_iload_n_ok (k := 1) (by decide +kernel) rfl rfl) <|
  mi_cI (mi_iconst_ok (n := 0) (by decide) (by decide +kernel) rfl) <|
  mi_cI (mi_aload_n_ok (k := 0) (by decide +kernel) rfl rfl) <|
  mi_cI (mi_get_ok (by decide +kernel) fl_X7_26 rfl) <|
  mi_cI (mi_iconst_ok (n := 0) (by decide) (by decide +kernel) rfl) <|
  mi_cI (mi_iald_ok (by decide +kernel) rfl) <|
  mi_cI (mi_iconst_ok (n := 1) (by decide) (by decide +kernel) rfl) <|
  mi_cI (mi_isub_ok (by decide +kernel) rfl) <|
  mi_cC ⟨m_X7_in, rfl, okM_X7_in, 101, 3, by decide +kernel, Or.inr (Or.inr ⟨(by decide +kernel), rfl, (mi_gd5 0 rfl rfl), Or.inl (mi_gd4 239 rfl rfl)⟩)⟩ <|
  mi_cI (mi_if_ne_ok (off := 6) (by decide +kernel) (by decide) rfl) <|
  mi_cI (mi_bipush_ok (n := (-101)) (by decide) (by decide +kernel) rfl) <|
  mi_cR (Or.inr (Or.inl ⟨rfl, (by decide +kernel), rfl⟩)) <|
  mi_cI (mi_iconst_ok (n := 0) (by decide) (by decide +kernel) rfl) <|
  mi_cI (mi_istore_n_ok (k := 3) (by decide +kernel) rfl (by decide) rfl) <|
  mi_cI (mi_iconst_ok (n := 0) (by decide) (by decide +kernel) rfl) <|
  mi_cI (mi_istore_ok (by decide +kernel) (by decide) rfl) <|
  mi_cI (mi_iload_ok (by decide +kernel) rfl) <|
  mi_cI (mi_aload_n_ok (k := 0) (by decide +kernel) rfl rfl) <|
  mi_cI (mi_get_ok (by decide +kernel) fl_X7_38 rfl) <|
  mi_cI (mi_iconst_ok (n := 0) (by decide) (by decide +kernel) rfl) <|
  mi_cI (mi_iald_ok (by decide +kernel) rfl) <|
  mi_cI (mi_icmp_ge_ok (off := 31) (by decide +kernel) (by decide) rfl) <|
  mi_cI (mi_iload_n_ok (k := 3) (by decide +kernel) rfl rfl) <|
  mi_cI (mi_aload_n_ok (k := 0) (by decide +kernel) rfl rfl) <|
  mi_cI (mi_get_ok (by decide +kernel) fl_X7_47 rfl) <|
  mi_cI (mi_iconst_ok (n := 3) (by decide) (by decide +kernel) rfl) <|
  mi_cI (mi_iload_n_ok (k := 1) (by decide +kernel) rfl rfl) <|
  mi_cI (mi_imul_ok (by decide +kernel) rfl) <|
  mi_cI (mi_iload_ok (by decide +kernel) rfl) <|
  mi_cI (mi_iadd_ok (by decide +kernel) rfl) <|
  mi_cI (mi_iald_ok (by decide +kernel) rfl) <|
  mi_cI (mi_if_ne_ok (off := 7) (by decide +kernel) (by decide) rfl) <|
  mi_cI (mi_iconst_ok (n := 1) (by decide) (by decide +kernel) rfl) <|
  mi_cI (mi_goto_ok (off := 4) (by decide +kernel) (by decide)) <|
  mi_cI (mi_iconst_ok (n := 0) (by decide) (by decide +kernel) rfl) <|
  mi_cI (mi_iadd_ok (by decide +kernel) rfl) <|
  mi_cI (mi_istore_n_ok (k := 3) (by decide +kernel) rfl (by decide) rfl) <|
  mi_cI (mi_inc_ok (by decide +kernel) (by decide) rfl) <|
  mi_cI (mi_goto_ok (off := (-36)) (by decide +kernel) (by decide)) <|
  mi_cI (mi_iload_n_ok (k := 2) (by decide +kernel) rfl rfl) <|
  mi_cI (mi_if_ne_ok (off := 12) (by decide +kernel) (by decide) rfl) <|
  mi_cI (mi_aload_n_ok (k := 0) (by decide +kernel) rfl rfl) <|
  mi_cI (mi_get_ok (by decide +kernel) fl_X7_29 rfl) <|
  mi_cI (mi_iload_n_ok (k := 1) (by decide +kernel) rfl rfl) <|
  mi_cI (mi_iald_ok (by decide +kernel) rfl) <|
  mi_cI (mi_goto_ok (off := 42) (by decide +kernel) (by decide)) <|
  mi_cI (mi_iload_n_ok (k := 2) (by decide +kernel) rfl rfl) <|
  mi_cI (mi_iconst_ok (n := 1) (by decide) (by decide +kernel) rfl) <|
  mi_cI (mi_icmp_ne_ok (off := 12) (by decide +kernel) (by decide) rfl) <|
  mi_cI (mi_aload_n_ok (k := 0) (by decide +kernel) rfl rfl) <|
  mi_cI (mi_get_ok (by decide +kernel) fl_X7_32 rfl) <|
  mi_cI (mi_iload_n_ok (k := 1) (by decide +kernel) rfl rfl) <|
  mi_cI (mi_iald_ok (by decide +kernel) rfl) <|
  mi_cI (mi_goto_ok (off := 28) (by decide +kernel) (by decide)) <|
  mi_cI (mi_iload_n_ok (k := 2) (by decide +kernel) rfl rfl) <|
  mi_cI (mi_iconst_ok (n := 2) (by decide) (by decide +kernel) rfl) <|
  mi_cI (mi_icmp_ne_ok (off := 12) (by decide +kernel) (by decide) rfl) <|
  mi_cI (mi_aload_n_ok (k := 0) (by decide +kernel) rfl rfl) <|
  mi_cI (mi_get_ok (by decide +kernel) fl_X7_35 rfl) <|
  mi_cI (mi_iload_n_ok (k := 1) (by decide +kernel) rfl rfl) <|
  mi_cI (mi_iald_ok (by decide +kernel) rfl) <|
  mi_cI (mi_goto_ok (off := 14) (by decide +kernel) (by decide)) <|
  mi_cI (mi_iload_n_ok (k := 2) (by decide +kernel) rfl rfl) <|
  mi_cI (mi_iconst_ok (n := 3) (by decide) (by decide +kernel) rfl) <|
  mi_cI (mi_icmp_ne_ok (off := 7) (by decide +kernel) (by decide) rfl) <|
  mi_cI (mi_iload_n_ok (k := 3) (by decide +kernel) rfl rfl) <|
  mi_cI (mi_goto_ok (off := 5) (by decide +kernel) (by decide)) <|
  mi_cI (mi_bipush_ok (n := (-102)) (by decide) (by decide +kernel) rfl) <|
  mi_cR (Or.inr (Or.inl ⟨rfl, (by decide +kernel), rfl⟩)) <| mi_cN
set_option maxRecDepth 100000 in
set_option maxHeartbeats 4000000 in
theorem ok_X7_isColumn : ∀ q ∈ t_X7_isColumn, mi_OkE mi_ms RX7 cX7_isColumn 2 false (some .boolean) q :=
  mi_cI (mi_iload_n_ok (k := 1) (by decide +kernel) rfl rfl) <|
  mi_cI (mi_iconst_ok (n := 0) (by decide) (by decide +kernel) rfl) <|
  mi_cI (mi_aload_n_ok (k := 0) (by decide +kernel) rfl rfl) <|
  mi_cI (mi_get_ok (by decide +kernel) fl_X7_38 rfl) <|
  mi_cI (mi_iconst_ok (n := 0) (by decide) (by decide +kernel) rfl) <|
  mi_cI (mi_iald_ok (by decide +kernel) rfl) <|
  mi_cI (mi_iconst_ok (n := 1) (by decide) (by decide +kernel) rfl) <|
  mi_cI (mi_isub_ok (by decide +kernel) rfl) <|
  mi_cC ⟨m_X7_in, rfl, okM_X7_in, 101, 3, by decide +kernel, Or.inr (Or.inr ⟨(by decide +kernel), rfl, (mi_gd5 0 rfl rfl), Or.inl (mi_gd4 239 rfl rfl)⟩)⟩ <|
  mi_cR (Or.inr (Or.inr (Or.inl ⟨rfl, (by decide +kernel), rfl⟩))) <| mi_cN
set_option maxRecDepth 100000 in
set_option maxHeartbeats 4000000 in
theorem ok_X7_kind : ∀ q ∈ t_X7_kind, mi_OkE mi_ms RX7 cX7_kind 2 false (some .int) q :=
  mi_cI (mi_aload_n_ok (k := 0) (by decide +kernel) rfl rfl) <|
  mi_cI (mi_iconst_ok (n := 0) (by decide) (by decide +kernel) rfl) <|
  mi_cI (mi_put_ok (by decide +kernel) fl_X7_98 rfl rfl) <|
  mi_cI (mi_aload_n_ok (k := 0) (by decide +kernel) rfl rfl) <|
  mi_cI (mi_iload_n_ok (k := 1) (by decide +kernel) rfl rfl) <|
  mi_cC ⟨m_X7_isColumn, rfl, okM_X7_isColumn, 238, 1, by decide +kernel, Or.inl ⟨(by decide +kernel), rfl, (mi_gd5 147 rfl rfl), (mi_gd5 149 rfl rfl), (mi_gd0 60 rfl rfl), 7, _, _, rfl, rfl⟩⟩ <|
  mi_cI (mi_if_eq_ok (off := 12) (by decide +kernel) (by decide) rfl) <|
  mi_cI (mi_aload_n_ok (k := 0) (by decide +kernel) rfl rfl) <|
  mi_cI (mi_get_ok (by decide +kernel) fl_X7_41 rfl) <|
  mi_cI (mi_iload_n_ok (k := 1) (by decide +kernel) rfl rfl) <|
  mi_cI (mi_iald_ok (by decide +kernel) rfl) <|
  mi_cI (mi_goto_ok (off := 5) (by decide +kernel) (by decide)) <|
  mi_cI (mi_bipush_ok (n := (-101)) (by decide) (by decide +kernel) rfl) <|
  mi_cR (Or.inr (Or.inl ⟨rfl, (by decide +kernel), rfl⟩)) <| mi_cN
set_option maxRecDepth 100000 in
set_option maxHeartbeats 4000000 in
theorem ok_X7_head : ∀ q ∈ t_X7_head, mi_OkE mi_ms RX7 cX7_head 3 false (some .int) q :=
  mi_cI (mi_aload_n_ok (k := 0) (by decide +kernel) rfl rfl) <|
  mi_cI (mi_iconst_ok (n := 0) (by decide) (by decide +kernel) rfl) <|
  mi_cI (mi_put_ok (by decide +kernel) fl_X7_98 rfl rfl) <|
  mi_cI (mi_aload_n_ok (k := 0) (by decide +kernel) rfl rfl) <|
  mi_cI (mi_iload_n_ok (k := 1) (by decide +kernel) rfl rfl) <|
  mi_cC ⟨m_X7_isColumn, rfl, okM_X7_isColumn, 238, 1, by decide +kernel, Or.inl ⟨(by decide +kernel), rfl, (mi_gd5 147 rfl rfl), (mi_gd5 149 rfl rfl), (mi_gd0 60 rfl rfl), 7, _, _, rfl, rfl⟩⟩ <|
  mi_cI (mi_if_ne_ok (off := 6) (by decide +kernel) (by decide) rfl) <|
  mi_cI (mi_bipush_ok (n := (-101)) (by decide) (by decide +kernel) rfl) <|
  mi_cR (Or.inr (Or.inl ⟨rfl, (by decide +kernel), rfl⟩)) <|
  mi_cI (mi_aload_n_ok (k := 0) (by decide +kernel) rfl rfl) <|
  mi_cI (mi_iload_n_ok (k := 2) (by decide +kernel) rfl rfl) <|
  mi_cI (mi_iconst_ok (n := 0) (by decide) (by decide +kernel) rfl) <|
  mi_cI (mi_aload_n_ok (k := 0) (by decide +kernel) rfl rfl) <|
  mi_cI (mi_get_ok (by decide +kernel) fl_X7_44 rfl) <|
  mi_cI (mi_bipush_ok (n := 9) (by decide) (by decide +kernel) rfl) <|
  mi_cI (mi_iload_n_ok (k := 1) (by decide +kernel) rfl rfl) <|
  mi_cI (mi_imul_ok (by decide +kernel) rfl) <|
  mi_cI (mi_iald_ok (by decide +kernel) rfl) <|
  mi_cI (mi_iconst_ok (n := 1) (by decide) (by decide +kernel) rfl) <|
  mi_cI (mi_isub_ok (by decide +kernel) rfl) <|
  mi_cC ⟨m_X7_in, rfl, okM_X7_in, 101, 3, by decide +kernel, Or.inr (Or.inr ⟨(by decide +kernel), rfl, (mi_gd5 0 rfl rfl), Or.inl (mi_gd4 239 rfl rfl)⟩)⟩ <|
  mi_cI (mi_if_eq_ok (off := 7) (by decide +kernel) (by decide) rfl) <|
  mi_cI (mi_iconst_ok (n := 0) (by decide) (by decide +kernel) rfl) <|
  mi_cI (mi_goto_ok (off := 4) (by decide +kernel) (by decide)) <|
  mi_cI (mi_iconst_ok (n := 1) (by decide) (by decide +kernel) rfl) <|
  mi_cI (mi_put_ok (by decide +kernel) fl_X7_98 rfl rfl) <|
  mi_cI (mi_aload_n_ok (k := 0) (by decide +kernel) rfl rfl) <|
  mi_cI (mi_get_ok (by decide +kernel) fl_X7_98 rfl) <|
  mi_cI (mi_if_le_ok (off := 7) (by decide +kernel) (by decide) rfl) <|
  mi_cI (mi_iconst_ok (n := 0) (by decide) (by decide +kernel) rfl) <|
  mi_cI (mi_goto_ok (off := 16) (by decide +kernel) (by decide)) <|
  mi_cI (mi_aload_n_ok (k := 0) (by decide +kernel) rfl rfl) <|
  mi_cI (mi_get_ok (by decide +kernel) fl_X7_44 rfl) <|
  mi_cI (mi_bipush_ok (n := 9) (by decide) (by decide +kernel) rfl) <|
  mi_cI (mi_iload_n_ok (k := 1) (by decide +kernel) rfl rfl) <|
  mi_cI (mi_imul_ok (by decide +kernel) rfl) <|
  mi_cI (mi_iconst_ok (n := 1) (by decide) (by decide +kernel) rfl) <|
  mi_cI (mi_iadd_ok (by decide +kernel) rfl) <|
  mi_cI (mi_iload_n_ok (k := 2) (by decide +kernel) rfl rfl) <|
  mi_cI (mi_iadd_ok (by decide +kernel) rfl) <|
  mi_cI (mi_iald_ok (by decide +kernel) rfl) <|
  mi_cR (Or.inr (Or.inl ⟨rfl, (by decide +kernel), rfl⟩)) <| mi_cN
end MJ6
