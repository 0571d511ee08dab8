section MJ2
set_option maxRecDepth 100000 in
set_option maxHeartbeats 4000000 in
theorem ok_X2_figuresOnly : ∀ q ∈ t_X2_figuresOnly, mi_OkE mi_ms RX2 cX2_figuresOnly 3 false (some .boolean) q :=
  mi_cI (mi_iload_n_ok (k := 1) (by decide +kernel) rfl rfl) <|
  mi_cI (mi_istore_n_ok (k := 2) (by decide +kernel) rfl (by decide) rfl) <|
  mi_cI (mi_iload_n_ok (k := 2) (by decide +kernel) rfl rfl) <|
  mi_cI (mi_aload_n_ok (k := 0) (by decide +kernel) rfl rfl) <|
  mi_cI (mi_get_ok (by decide +kernel) fl_X2_20 rfl) <|
  mi_cI (mi_get_ok (by decide +kernel) fl_X2_115 rfl) <|
  mi_cI (mi_get_ok (by decide +kernel) fl_X2_119 rfl) <|
  mi_cI (mi_icmp_ge_ok (off := 28) (by decide +kernel) (by decide) rfl) <|
  mi_cI (mi_aload_n_ok (k := 0) (by decide +kernel) rfl rfl) <|
  mi_cI (mi_get_ok (by decide +kernel) fl_X2_20 rfl) <|
  mi_cI (mi_get_ok (by decide +kernel) fl_X2_115 rfl) <|
  mi_cI (mi_iload_n_ok (k := 2) (by decide +kernel) rfl rfl) <|
  mi_cC ⟨m_X3_at, rfl, okM_X3_at, 217, 1, by decide +kernel, Or.inl ⟨(by decide +kernel), rfl, (mi_gd2 193 rfl rfl), (mi_gd2 170 rfl rfl), (mi_gd2 171 rfl rfl), 3, _, _, rfl, rfl⟩⟩ <|
  mi_cC ⟨m_X6_isFigure, rfl, okM_X6_isFigure, 167, 1, by decide +kernel, Or.inr (Or.inr ⟨(by decide +kernel), rfl, (mi_gd2 136 rfl rfl), Or.inr ⟨"GraphTexts", (mi_nd2 135 rfl rfl)⟩⟩)⟩ <|
  mi_cI (mi_if_ne_ok (off := 5) (by decide +kernel) (by decide) rfl) <|
  mi_cI (mi_iconst_ok (n := 0) (by decide) (by decide +kernel) rfl) <|
  mi_cR (Or.inr (Or.inr (Or.inl ⟨rfl, (by decide +kernel), rfl⟩))) <|
  mi_cI (mi_inc_ok (by decide +kernel) (by decide) rfl) <|
  mi_cI (mi_goto_ok (off := (-36)) (by decide +kernel) (by decide)) <|
  mi_cI (mi_iconst_ok (n := 1) (by decide) (by decide +kernel) rfl) <|
  mi_cR (Or.inr (Or.inr (Or.inl ⟨rfl, (by decide +kernel), rfl⟩))) <| mi_cN
set_option maxRecDepth 100000 in
set_option maxHeartbeats 4000000 in
theorem ok_X2_thousandthsRead : ∀ q ∈ t_X2_thousandthsRead, mi_OkE mi_ms RX2 cX2_thousandthsRead 6 false (some .int) q :=
  mi_cI (mi_iconst_ok (n := 0) (by decide) (by decide +kernel) rfl) <|
  mi_cI (mi_istore_n_ok (k := 1) (by decide +kernel) rfl (by decide) rfl) <|
  mi_cI (mi_iconst_ok (n := 0) (by decide) (by decide +kernel) rfl) <|
  mi_cI (mi_istore_n_ok (k := 2) (by decide +kernel) rfl (by decide) rfl) <|
  mi_cI (mi_iconst_ok (n := 0) (by decide) (by decide +kernel) rfl) <|
  mi_cI (mi_istore_n_ok (k := 3) (by decide +kernel) rfl (by decide) rfl) <|
  mi_cI (mi_aload_n_ok (k := 0) (by decide +kernel) rfl rfl) <|
  mi_cI (mi_get_ok (by decide +kernel) fl_X2_228 rfl) <|
  mi_cI (mi_istore_ok (by decide +kernel) (by decide) rfl) <|
  mi_cI (mi_iload_ok (by decide +kernel) rfl) <|
  mi_cI (mi_aload_n_ok (k := 0) (by decide +kernel) rfl rfl) <|
  mi_cI (mi_get_ok (by decide +kernel) fl_X2_20 rfl) <|
  mi_cI (mi_get_ok (by decide +kernel) fl_X2_115 rfl) <|
  mi_cI (mi_get_ok (by decide +kernel) fl_X2_119 rfl) <|
  mi_cI (mi_icmp_ge_ok (off := 66) (by decide +kernel) (by decide) rfl) <|
  mi_cI (mi_aload_n_ok (k := 0) (by decide +kernel) rfl rfl) <|
  mi_cI (mi_get_ok (by decide +kernel) fl_X2_20 rfl) <|
  mi_cI (mi_get_ok (by decide +kernel) fl_X2_115 rfl) <|
  mi_cI (mi_iload_ok (by decide +kernel) rfl) <|
  mi_cC ⟨m_X3_at, rfl, okM_X3_at, 217, 1, by decide +kernel, Or.inl ⟨(by decide +kernel), rfl, (mi_gd2 193 rfl rfl), (mi_gd2 170 rfl rfl), (mi_gd2 171 rfl rfl), 3, _, _, rfl, rfl⟩⟩ <|
  mi_cI (mi_istore_ok (by decide +kernel) (by decide) rfl) <|
  mi_cI (mi_iload_ok (by decide +kernel) rfl) <|
  mi_cI (mi_bipush_ok (n := 46) (by decide) (by decide +kernel) rfl) <|
  mi_cI (mi_icmp_ne_ok (off := 8) (by decide +kernel) (by decide) rfl) <|
  mi_cI (mi_iconst_ok (n := 1) (by decide) (by decide +kernel) rfl) <|
  mi_cI (mi_istore_n_ok (k := 3) (by decide +kernel) rfl (by decide) rfl) <|
  mi_cI (mi_goto_ok (off := 34) (by decide +kernel) (by decide)) <|
  mi_cI (mi_iload_ok (by decide +kernel) rfl) <|
  mi_cC ⟨m_X6_isFigure, rfl, okM_X6_isFigure, 167, 1, by decide +kernel, Or.inr (Or.inr ⟨(by decide +kernel), rfl, (mi_gd2 136 rfl rfl), Or.inr ⟨"GraphTexts", (mi_nd2 135 rfl rfl)⟩⟩)⟩ <|
  mi_cI (mi_if_eq_ok (off := 26) (by decide +kernel) (by decide) rfl) <|
  mi_cI (mi_iload_n_ok (k := 1) (by decide +kernel) rfl rfl) <|
  mi_cI (mi_bipush_ok (n := 10) (by decide) (by decide +kernel) rfl) <|
  mi_cI (mi_imul_ok (by decide +kernel) rfl) <|
  mi_cI (mi_iload_ok (by decide +kernel) rfl) <|
  mi_cI (mi_bipush_ok (n := 48) (by decide) (by decide +kernel) rfl) <|
  mi_cI (mi_isub_ok (by decide +kernel) rfl) <|
  mi_cI (mi_iadd_ok (by decide +kernel) rfl) <|
  mi_cI (mi_istore_n_ok (k := 1) (by decide +kernel) rfl (by decide) rfl) <|
  mi_cI (mi_iload_n_ok (k := 3) (by decide +kernel) rfl rfl) <|
  mi_cI (mi_if_eq_ok (off := 9) (by decide +kernel) (by decide) rfl) <|
  mi_cI (mi_iload_n_ok (k := 2) (by decide +kernel) rfl rfl) <|
  mi_cI (mi_iconst_ok (n := 1) (by decide) (by decide +kernel) rfl) <|
  mi_cI (mi_iadd_ok (by decide +kernel) rfl) <|
  mi_cI (mi_goto_ok (off := 4) (by decide +kernel) (by decide)) <|
  mi_cI (mi_iconst_ok (n := 0) (by decide) (by decide +kernel) rfl) <|
  mi_cI (mi_istore_n_ok (k := 2) (by decide +kernel) rfl (by decide) rfl) <|
  mi_cI (mi_inc_ok (by decide +kernel) (by decide) rfl) <|
  mi_cI (mi_goto_ok (off := (-75)) (by decide +kernel) (by decide)) <|
  mi_cI (mi_iload_n_ok (k := 2) (by decide +kernel) rfl rfl) <|
  mi_cI (mi_istore_ok (by decide +kernel) (by decide) rfl) <|
  mi_cI (mi_iload_ok (by decide +kernel) rfl) <|
  mi_cI (mi_iconst_ok (n := 3) (by decide) (by decide +kernel) rfl) <|
  mi_cI (mi_icmp_ge_ok (off := 14) (by decide +kernel) (by decide) rfl) <|
  mi_cI (mi_iload_n_ok (k := 1) (by decide +kernel) rfl rfl) <|
  mi_cI (mi_bipush_ok (n := 10) (by decide) (by decide +kernel) rfl) <|
  mi_cI (mi_imul_ok (by decide +kernel) rfl) <|
  mi_cI (mi_istore_n_ok (k := 1) (by decide +kernel) rfl (by decide) rfl) <|
  mi_cI (mi_inc_ok (by decide +kernel) (by decide) rfl) <|
  mi_cI (mi_goto_ok (off := (-14)) (by decide +kernel) (by decide)) <|
  mi_cI (mi_aload_n_ok (k := 0) (by decide +kernel) rfl rfl) <|
  mi_cI (mi_get_ok (by decide +kernel) fl_X2_20 rfl) <|
  mi_cI (mi_get_ok (by decide +kernel) fl_X2_115 rfl) <|
  mi_cI (mi_aload_n_ok (k := 0) (by decide +kernel) rfl rfl) <|
  mi_cI (mi_get_ok (by decide +kernel) fl_X2_228 rfl) <|
  mi_cC ⟨m_X3_at, rfl, okM_X3_at, 217, 1, by decide +kernel, Or.inl ⟨(by decide +kernel), rfl, (mi_gd2 193 rfl rfl), (mi_gd2 170 rfl rfl), (mi_gd2 171 rfl rfl), 3, _, _, rfl, rfl⟩⟩ <|
  mi_cI (mi_bipush_ok (n := 45) (by decide) (by decide +kernel) rfl) <|
  mi_cI (mi_icmp_ne_ok (off := 8) (by decide +kernel) (by decide) rfl) <|
  mi_cI (mi_iload_n_ok (k := 1) (by decide +kernel) rfl rfl) <|
  mi_cI (mi_ineg_ok (by decide +kernel) rfl) <|
  mi_cI (mi_goto_ok (off := 4) (by decide +kernel) (by decide)) <|
  mi_cI (mi_iload_n_ok (k := 1) (by decide +kernel) rfl rfl) <|
  mi_cR (Or.inr (Or.inl ⟨rfl, (by decide +kernel), rfl⟩)) <| mi_cN
set_option maxRecDepth 100000 in
set_option maxHeartbeats 4000000 in
theorem ok_X2_readName : ∀ q ∈ t_X2_readName, mi_OkE mi_ms RX2 cX2_readName 1 false (some .boolean) q :=
  mi_cI (mi_aload_n_ok (k := 0) (by decide +kernel) rfl rfl) <|
  mi_cI (mi_aload_n_ok (k := 0) (by decide +kernel) rfl rfl) <|
  mi_cI (mi_get_ok (by decide +kernel) fl_X2_14 rfl) <|
  mi_cI (mi_get_ok (by decide +kernel) fl_X2_128 rfl) <|
  mi_cI (mi_put_ok (by decide +kernel) fl_X2_183 rfl rfl) <|
  mi_cI (mi_aload_n_ok (k := 0) (by decide +kernel) rfl rfl) <|
  mi_cI (mi_aload_n_ok (k := 0) (by decide +kernel) rfl rfl) <|
  mi_cI (mi_get_ok (by decide +kernel) fl_X2_20 rfl) <|
  mi_cI (mi_get_ok (by decide +kernel) fl_X2_115 rfl) <|
  mi_cI (mi_get_ok (by decide +kernel) fl_X2_119 rfl) <|
  mi_cI (mi_put_ok (by decide +kernel) fl_X2_176 rfl rfl) <|
  mi_cI (mi_aload_n_ok (k := 0) (by decide +kernel) rfl rfl) <|
  mi_cI (mi_get_ok (by decide +kernel) fl_X2_14 rfl) <|
  mi_cI (mi_get_ok (by decide +kernel) fl_X2_91 rfl) <|
  mi_cI (mi_bipush_ok (n := 34) (by decide) (by decide +kernel) rfl) <|
  mi_cI (mi_icmp_ne_ok (off := 10) (by decide +kernel) (by decide) rfl) <|
  mi_cI (mi_aload_n_ok (k := 0) (by decide +kernel) rfl rfl) <|
  mi_cC ⟨m_X2_readQuoted, rfl, okM_X2_readQuoted, 256, 0, by decide +kernel, Or.inl ⟨(by decide +kernel), rfl, (mi_gd2 150 rfl rfl), (mi_gd2 152 rfl rfl), (mi_gd0 8 rfl rfl), 2, _, _, rfl, rfl⟩⟩ <|
  mi_cI (mi_goto_ok (off := 7) (by decide +kernel) (by decide)) <|
  mi_cI (mi_aload_n_ok (k := 0) (by decide +kernel) rfl rfl) <|
  mi_cC ⟨m_X2_readPlain, rfl, okM_X2_readPlain, 250, 0, by decide +kernel, Or.inl ⟨(by decide +kernel), rfl, (mi_gd2 154 rfl rfl), (mi_gd2 156 rfl rfl), (mi_gd0 9 rfl rfl), 2, _, _, rfl, rfl⟩⟩ <|
  mi_cR (Or.inr (Or.inr (Or.inl ⟨rfl, (by decide +kernel), rfl⟩))) <| mi_cN
set_option maxRecDepth 100000 in
set_option maxHeartbeats 4000000 in
theorem ok_X2_readPlain : ∀ q ∈ t_X2_readPlain, mi_OkE mi_ms RX2 cX2_readPlain 2 false (some .boolean) q :=
  mi_cI (mi_aload_n_ok (k := 0) (by decide +kernel) rfl rfl) <|
  mi_cI (mi_get_ok (by decide +kernel) fl_X2_14 rfl) <|
  mi_cI (mi_get_ok (by decide +kernel) fl_X2_91 rfl) <|
  mi_cC ⟨m_X6_isPlain, rfl, okM_X6_isPlain, 240, 1, by decide +kernel, Or.inr (Or.inr ⟨(by decide +kernel), rfl, (mi_gd2 159 rfl rfl), Or.inr ⟨"GraphTexts", (mi_nd2 158 rfl rfl)⟩⟩)⟩ <|
  mi_cI (mi_if_ne_ok (off := 19) (by decide +kernel) (by decide) rfl) <|
  mi_cI (mi_aload_n_ok (k := 0) (by decide +kernel) rfl rfl) <|
  mi_cI (mi_get_ok (by decide +kernel) fl_X2_14 rfl) <|
  mi_cI (mi_iconst_ok (n := 1) (by decide) (by decide +kernel) rfl) <|
  mi_cI (mi_aload_n_ok (k := 0) (by decide +kernel) rfl rfl) <|
  mi_cI (mi_get_ok (by decide +kernel) fl_X2_14 rfl) <|
  mi_cI (mi_get_ok (by decide +kernel) fl_X2_128 rfl) <|
  mi_cC ⟨m_X0_wrong, rfl, okM_X0_wrong, 131, 2, by decide +kernel, Or.inl ⟨(by decide +kernel), rfl, (mi_gd2 109 rfl rfl), (mi_gd2 110 rfl rfl), (mi_gd2 111 rfl rfl), 0, _, _, rfl, rfl⟩⟩ <|
  mi_cR (Or.inr (Or.inr (Or.inl ⟨rfl, (by decide +kernel), rfl⟩))) <|
  mi_cI (mi_iconst_ok (n := 0) (by decide) (by decide +kernel) rfl) <|
  mi_cI (mi_istore_n_ok (k := 1) (by decide +kernel) rfl (by decide) rfl) <|
  mi_cI (mi_iload_n_ok (k := 1) (by decide +kernel) rfl rfl) <|
  mi_cI (mi_bipush_ok (n := 8) (by decide) (by decide +kernel) rfl) <|
  mi_cI (mi_icmp_gt_ok (off := 68) (by decide +kernel) (by decide) rfl) <|
  mi_cI (mi_aload_n_ok (k := 0) (by decide +kernel) rfl rfl) <|
  mi_cI (mi_get_ok (by decide +kernel) fl_X2_14 rfl) <|
  mi_cI (mi_get_ok (by decide +kernel) fl_X2_91 rfl) <|
  mi_cC ⟨m_X6_isPlain, rfl, okM_X6_isPlain, 240, 1, by decide +kernel, Or.inr (Or.inr ⟨(by decide +kernel), rfl, (mi_gd2 159 rfl rfl), Or.inr ⟨"GraphTexts", (mi_nd2 158 rfl rfl)⟩⟩)⟩ <|
  mi_cI (mi_if_eq_ok (off := 55) (by decide +kernel) (by decide) rfl) <|
  mi_cI (mi_iload_n_ok (k := 1) (by decide +kernel) rfl rfl) <|
  mi_cI (mi_bipush_ok (n := 8) (by decide) (by decide +kernel) rfl) <|
  mi_cI (mi_icmp_ne_ok (off := 19) (by decide +kernel) (by decide) rfl) <|
  mi_cI (mi_aload_n_ok (k := 0) (by decide +kernel) rfl rfl) <|
  mi_cI (mi_get_ok (by decide +kernel) fl_X2_14 rfl) <|
  mi_cI (mi_iconst_ok (n := 2) (by decide) (by decide +kernel) rfl) <|
  mi_cI (mi_aload_n_ok (k := 0) (by decide +kernel) rfl rfl) <|
  mi_cI (mi_get_ok (by decide +kernel) fl_X2_14 rfl) <|
  mi_cI (mi_get_ok (by decide +kernel) fl_X2_128 rfl) <|
  mi_cC ⟨m_X0_wrong, rfl, okM_X0_wrong, 131, 2, by decide +kernel, Or.inl ⟨(by decide +kernel), rfl, (mi_gd2 109 rfl rfl), (mi_gd2 110 rfl rfl), (mi_gd2 111 rfl rfl), 0, _, _, rfl, rfl⟩⟩ <|
  mi_cR (Or.inr (Or.inr (Or.inl ⟨rfl, (by decide +kernel), rfl⟩))) <|
  mi_cI (mi_aload_n_ok (k := 0) (by decide +kernel) rfl rfl) <|
  mi_cI (mi_get_ok (by decide +kernel) fl_X2_20 rfl) <|
  mi_cI (mi_get_ok (by decide +kernel) fl_X2_115 rfl) <|
  mi_cI (mi_aload_n_ok (k := 0) (by decide +kernel) rfl rfl) <|
  mi_cI (mi_get_ok (by decide +kernel) fl_X2_14 rfl) <|
  mi_cI (mi_get_ok (by decide +kernel) fl_X2_91 rfl) <|
  mi_cC ⟨m_X3_add, rfl, okM_X3_add, 135, 1, by decide +kernel, Or.inl ⟨(by decide +kernel), rfl, (mi_gd2 113 rfl rfl), (mi_gd2 53 rfl rfl), (mi_gd2 54 rfl rfl), 3, _, _, rfl, rfl⟩⟩ <|
  mi_cI (mi_aload_n_ok (k := 0) (by decide +kernel) rfl rfl) <|
  mi_cI (mi_get_ok (by decide +kernel) fl_X2_14 rfl) <|
  mi_cC ⟨m_X0_step, rfl, okM_X0_step, 112, 0, by decide +kernel, Or.inl ⟨(by decide +kernel), rfl, (mi_gd2 105 rfl rfl), (mi_gd2 73 rfl rfl), (mi_gd2 74 rfl rfl), 0, _, _, rfl, rfl⟩⟩ <|
  mi_cI (mi_inc_ok (by decide +kernel) (by decide) rfl) <|
  mi_cI (mi_goto_ok (off := (-68)) (by decide +kernel) (by decide)) <|
  mi_cI (mi_iconst_ok (n := 1) (by decide) (by decide +kernel) rfl) <|
  mi_cR (Or.inr (Or.inr (Or.inl ⟨rfl, (by decide +kernel), rfl⟩))) <| mi_cN
set_option maxRecDepth 100000 in
set_option maxHeartbeats 4000000 in
theorem ok_X2_readQuoted : ∀ q ∈ t_X2_readQuoted, mi_OkE mi_ms RX2 cX2_readQuoted 2 false (some .boolean) q :=
  mi_cI (mi_aload_n_ok (k := 0) (by decide +kernel) rfl rfl) <|
  mi_cI (mi_get_ok (by decide +kernel) fl_X2_14 rfl) <|
  mi_cC ⟨m_X0_step, rfl, okM_X0_step, 112, 0, by decide +kernel, Or.inl ⟨(by decide +kernel), rfl, (mi_gd2 105 rfl rfl), (mi_gd2 73 rfl rfl), (mi_gd2 74 rfl rfl), 0, _, _, rfl, rfl⟩⟩ <|
  mi_cI (mi_aload_n_ok (k := 0) (by decide +kernel) rfl rfl) <|
  mi_cI (mi_get_ok (by decide +kernel) fl_X2_14 rfl) <|
  mi_cI (mi_get_ok (by decide +kernel) fl_X2_91 rfl) <|
  mi_cI (mi_bipush_ok (n := 34) (by decide) (by decide +kernel) rfl) <|
  mi_cI (mi_icmp_ne_ok (off := 19) (by decide +kernel) (by decide) rfl) <|
  mi_cI (mi_aload_n_ok (k := 0) (by decide +kernel) rfl rfl) <|
  mi_cI (mi_get_ok (by decide +kernel) fl_X2_14 rfl) <|
  mi_cI (mi_iconst_ok (n := 1) (by decide) (by decide +kernel) rfl) <|
  mi_cI (mi_aload_n_ok (k := 0) (by decide +kernel) rfl rfl) <|
  mi_cI (mi_get_ok (by decide +kernel) fl_X2_14 rfl) <|
  mi_cI (mi_get_ok (by decide +kernel) fl_X2_128 rfl) <|
  mi_cC ⟨m_X0_wrong, rfl, okM_X0_wrong, 131, 2, by decide +kernel, Or.inl ⟨(by decide +kernel), rfl, (mi_gd2 109 rfl rfl), (mi_gd2 110 rfl rfl), (mi_gd2 111 rfl rfl), 0, _, _, rfl, rfl⟩⟩ <|
  mi_cR (Or.inr (Or.inr (Or.inl ⟨rfl, (by decide +kernel), rfl⟩))) <|
  mi_cI (mi_iconst_ok (n := 0) (by decide) (by decide +kernel) rfl) <|
  mi_cI (mi_istore_n_ok (k := 1) (by decide +kernel) rfl (by decide) rfl) <|
  mi_cI (mi_iload_n_ok (k := 1) (by decide +kernel) rfl rfl) <|
  mi_cI (mi_bipush_ok (n := 8) (by decide) (by decide +kernel) rfl) <|
  mi_cI (mi_icmp_gt_ok (off := 155) (by decide +kernel) (by decide) rfl) <|
  mi_cI (mi_aload_n_ok (k := 0) (by decide +kernel) rfl rfl) <|
  mi_cI (mi_get_ok (by decide +kernel) fl_X2_14 rfl) <|
  mi_cI (mi_get_ok (by decide +kernel) fl_X2_91 rfl) <|
  mi_cI (mi_bipush_ok (n := 34) (by decide) (by decide +kernel) rfl) <|
  mi_cI (mi_icmp_eq_ok (off := 143) (by decide +kernel) (by decide) rfl) <|
  mi_cI (mi_aload_n_ok (k := 0) (by decide +kernel) rfl rfl) <|
  mi_cI (mi_get_ok (by decide +kernel) fl_X2_14 rfl) <|
  mi_cI (mi_get_ok (by decide +kernel) fl_X2_91 rfl) <|
  mi_cC ⟨m_X6_isPrintable, rfl, okM_X6_isPrintable, 124, 1, by decide +kernel, Or.inr (Or.inr ⟨(by decide +kernel), rfl, (mi_gd2 107 rfl rfl), Or.inr ⟨"GraphTexts", (mi_nd2 106 rfl rfl)⟩⟩)⟩ <|
  mi_cI (mi_if_ne_ok (off := 19) (by decide +kernel) (by decide) rfl) <|
  mi_cI (mi_aload_n_ok (k := 0) (by decide +kernel) rfl rfl) <|
  mi_cI (mi_get_ok (by decide +kernel) fl_X2_14 rfl) <|
  mi_cI (mi_iconst_ok (n := 1) (by decide) (by decide +kernel) rfl) <|
  mi_cI (mi_aload_n_ok (k := 0) (by decide +kernel) rfl rfl) <|
  mi_cI (mi_get_ok (by decide +kernel) fl_X2_14 rfl) <|
  mi_cI (mi_get_ok (by decide +kernel) fl_X2_128 rfl) <|
  mi_cC ⟨m_X0_wrong, rfl, okM_X0_wrong, 131, 2, by decide +kernel, Or.inl ⟨(by decide +kernel), rfl, (mi_gd2 109 rfl rfl), (mi_gd2 110 rfl rfl), (mi_gd2 111 rfl rfl), 0, _, _, rfl, rfl⟩⟩ <|
  mi_cR (Or.inr (Or.inr (Or.inl ⟨rfl, (by decide +kernel), rfl⟩))) <|
  mi_cI (mi_iload_n_ok (k := 1) (by decide +kernel) rfl rfl) <|
  mi_cI (mi_bipush_ok (n := 8) (by decide) (by decide +kernel) rfl) <|
  mi_cI (mi_icmp_ne_ok (off := 19) (by decide +kernel) (by decide) rfl) <|
  mi_cI (mi_aload_n_ok (k := 0) (by decide +kernel) rfl rfl) <|
  mi_cI (mi_get_ok (by decide +kernel) fl_X2_14 rfl) <|
  mi_cI (mi_iconst_ok (n := 2) (by decide) (by decide +kernel) rfl) <|
  mi_cI (mi_aload_n_ok (k := 0) (by decide +kernel) rfl rfl) <|
  mi_cI (mi_get_ok (by decide +kernel) fl_X2_14 rfl) <|
  mi_cI (mi_get_ok (by decide +kernel) fl_X2_128 rfl) <|
  mi_cC ⟨m_X0_wrong, rfl, okM_X0_wrong, 131, 2, by decide +kernel, Or.inl ⟨(by decide +kernel), rfl, (mi_gd2 109 rfl rfl), (mi_gd2 110 rfl rfl), (mi_gd2 111 rfl rfl), 0, _, _, rfl, rfl⟩⟩ <|
  mi_cR (Or.inr (Or.inr (Or.inl ⟨rfl, (by decide +kernel), rfl⟩))) <|
  mi_cI (mi_aload_n_ok (k := 0) (by decide +kernel) rfl rfl) <|
  mi_cI (mi_get_ok (by decide +kernel) fl_X2_14 rfl) <|
  mi_cI (mi_get_ok (by decide +kernel) fl_X2_91 rfl) <|
  mi_cI (mi_bipush_ok (n := 92) (by decide) (by decide +kernel) rfl) <|
  mi_cI (mi_icmp_ne_ok (off := 50) (by decide +kernel) (by decide) rfl) <|
  mi_cI (mi_aload_n_ok (k := 0) (by decide +kernel) rfl rfl) <|
  mi_cI (mi_get_ok (by decide +kernel) fl_X2_14 rfl) <|
  mi_cC ⟨m_X0_step, rfl, okM_X0_step, 112, 0, by decide +kernel, Or.inl ⟨(by decide +kernel), rfl, (mi_gd2 105 rfl rfl), (mi_gd2 73 rfl rfl), (mi_gd2 74 rfl rfl), 0, _, _, rfl, rfl⟩⟩ <|
  mi_cI (mi_aload_n_ok (k := 0) (by decide +kernel) rfl rfl) <|
  mi_cI (mi_get_ok (by decide +kernel) fl_X2_14 rfl) <|
  mi_cI (mi_get_ok (by decide +kernel) fl_X2_91 rfl) <|
  mi_cI (mi_bipush_ok (n := 34) (by decide) (by decide +kernel) rfl) <|
  mi_cI (mi_icmp_eq_ok (off := 31) (by decide +kernel) (by decide) rfl) <|
  mi_cI (mi_aload_n_ok (k := 0) (by decide +kernel) rfl rfl) <|
  mi_cI (mi_get_ok (by decide +kernel) fl_X2_14 rfl) <|
  mi_cI (mi_get_ok (by decide +kernel) fl_X2_91 rfl) <|
  mi_cI (mi_bipush_ok (n := 92) (by decide) (by decide +kernel) rfl) <|
  mi_cI (mi_icmp_eq_ok (off := 19) (by decide +kernel) (by decide) rfl) <|
  mi_cI (mi_aload_n_ok (k := 0) (by decide +kernel) rfl rfl) <|
  mi_cI (mi_get_ok (by decide +kernel) fl_X2_14 rfl) <|
  mi_cI (mi_iconst_ok (n := 1) (by decide) (by decide +kernel) rfl) <|
  mi_cI (mi_aload_n_ok (k := 0) (by decide +kernel) rfl rfl) <|
  mi_cI (mi_get_ok (by decide +kernel) fl_X2_14 rfl) <|
  mi_cI (mi_get_ok (by decide +kernel) fl_X2_128 rfl) <|
  mi_cC ⟨m_X0_wrong, rfl, okM_X0_wrong, 131, 2, by decide +kernel, Or.inl ⟨(by decide +kernel), rfl, (mi_gd2 109 rfl rfl), (mi_gd2 110 rfl rfl), (mi_gd2 111 rfl rfl), 0, _, _, rfl, rfl⟩⟩ <|
  mi_cR (Or.inr (Or.inr (Or.inl ⟨rfl, (by decide +kernel), rfl⟩))) <|
  mi_cI (mi_aload_n_ok (k := 0) (by decide +kernel) rfl rfl) <|
  mi_cI (mi_get_ok (by decide +kernel) fl_X2_20 rfl) <|
  mi_cI (mi_get_ok (by decide +kernel) fl_X2_115 rfl) <|
  mi_cI (mi_aload_n_ok (k := 0) (by decide +kernel) rfl rfl) <|
  mi_cI (mi_get_ok (by decide +kernel) fl_X2_14 rfl) <|
  mi_cI (mi_get_ok (by decide +kernel) fl_X2_91 rfl) <|
  mi_cC ⟨m_X3_add, rfl, okM_X3_add, 135, 1, by decide +kernel, Or.inl ⟨(by decide +kernel), rfl, (mi_gd2 113 rfl rfl), (mi_gd2 53 rfl rfl), (mi_gd2 54 rfl rfl), 3, _, _, rfl, rfl⟩⟩ <|
  mi_cI (mi_aload_n_ok (k := 0) (by decide +kernel) rfl rfl) <|
  mi_cI (mi_get_ok (by decide +kernel) fl_X2_14 rfl) <|
  mi_cC ⟨m_X0_step, rfl, okM_X0_step, 112, 0, by decide +kernel, Or.inl ⟨(by decide +kernel), rfl, (mi_gd2 105 rfl rfl), (mi_gd2 73 rfl rfl), (mi_gd2 74 rfl rfl), 0, _, _, rfl, rfl⟩⟩ <|
  mi_cI (mi_inc_ok (by decide +kernel) (by decide) rfl) <|
  mi_cI (mi_goto_ok (off := (-155)) (by decide +kernel) (by decide)) <|
  mi_cI (mi_aload_n_ok (k := 0) (by decide +kernel) rfl rfl) <|
  mi_cI (mi_get_ok (by decide +kernel) fl_X2_14 rfl) <|
  mi_cC ⟨m_X0_step, rfl, okM_X0_step, 112, 0, by decide +kernel, Or.inl ⟨(by decide +kernel), rfl, (mi_gd2 105 rfl rfl), (mi_gd2 73 rfl rfl), (mi_gd2 74 rfl rfl), 0, _, _, rfl, rfl⟩⟩ <|
  mi_cI (mi_iconst_ok (n := 1) (by decide) (by decide +kernel) rfl) <|
  mi_cR (Or.inr (Or.inr (Or.inl ⟨rfl, (by decide +kernel), rfl⟩))) <| mi_cN
set_option maxRecDepth 100000 in
set_option maxHeartbeats 4000000 in
theorem ok_X2_readGap : ∀ q ∈ t_X2_readGap, mi_OkE mi_ms RX2 cX2_readGap 1 false (some .boolean) q :=
  mi_cI (mi_aload_n_ok (k := 0) (by decide +kernel) rfl rfl) <|
  mi_cI (mi_get_ok (by decide +kernel) fl_X2_14 rfl) <|
  mi_cI (mi_get_ok (by decide +kernel) fl_X2_91 rfl) <|
  mi_cI (mi_bipush_ok (n := 32) (by decide) (by decide +kernel) rfl) <|
  mi_cI (mi_icmp_eq_ok (off := 19) (by decide +kernel) (by decide) rfl) <|
  mi_cI (mi_aload_n_ok (k := 0) (by decide +kernel) rfl rfl) <|
  mi_cI (mi_get_ok (by decide +kernel) fl_X2_14 rfl) <|
  mi_cI (mi_iconst_ok (n := 1) (by decide) (by decide +kernel) rfl) <|
  mi_cI (mi_aload_n_ok (k := 0) (by decide +kernel) rfl rfl) <|
  mi_cI (mi_get_ok (by decide +kernel) fl_X2_14 rfl) <|
  mi_cI (mi_get_ok (by decide +kernel) fl_X2_128 rfl) <|
  mi_cC ⟨m_X0_wrong, rfl, okM_X0_wrong, 131, 2, by decide +kernel, Or.inl ⟨(by decide +kernel), rfl, (mi_gd2 109 rfl rfl), (mi_gd2 110 rfl rfl), (mi_gd2 111 rfl rfl), 0, _, _, rfl, rfl⟩⟩ <|
  mi_cR (Or.inr (Or.inr (Or.inl ⟨rfl, (by decide +kernel), rfl⟩))) <|
  mi_cI (mi_aload_n_ok (k := 0) (by decide +kernel) rfl rfl) <|
  mi_cI (mi_get_ok (by decide +kernel) fl_X2_14 rfl) <|
  mi_cC ⟨m_X0_skipBlanks, rfl, okM_X0_skipBlanks, 88, 0, by decide +kernel, Or.inl ⟨(by decide +kernel), rfl, (mi_gd2 97 rfl rfl), (mi_gd2 98 rfl rfl), (mi_gd2 99 rfl rfl), 0, _, _, rfl, rfl⟩⟩ <|
  mi_cI (mi_iconst_ok (n := 1) (by decide) (by decide +kernel) rfl) <|
  mi_cR (Or.inr (Or.inr (Or.inl ⟨rfl, (by decide +kernel), rfl⟩))) <| mi_cN
set_option maxRecDepth 100000 in
set_option maxHeartbeats 4000000 in
theorem ok_X2_readLineEnd : ∀ q ∈ t_X2_readLineEnd, mi_OkE mi_ms RX2 cX2_readLineEnd 1 false (some .boolean) q :=
  mi_cI (mi_aload_n_ok (k := 0) (by decide +kernel) rfl rfl) <|
  mi_cI (mi_get_ok (by decide +kernel) fl_X2_14 rfl) <|
  mi_cC ⟨m_X0_skipBlanks, rfl, okM_X0_skipBlanks, 88, 0, by decide +kernel, Or.inl ⟨(by decide +kernel), rfl, (mi_gd2 97 rfl rfl), (mi_gd2 98 rfl rfl), (mi_gd2 99 rfl rfl), 0, _, _, rfl, rfl⟩⟩ <|
  mi_cI (mi_aload_n_ok (k := 0) (by decide +kernel) rfl rfl) <|
  mi_cI (mi_get_ok (by decide +kernel) fl_X2_14 rfl) <|
  mi_cI (mi_get_ok (by decide +kernel) fl_X2_91 rfl) <|
  mi_cI (mi_iconst_ok (n := (-1)) (by decide) (by decide +kernel) rfl) <|
  mi_cI (mi_icmp_eq_ok (off := 21) (by decide +kernel) (by decide) rfl) <|
  mi_cI (mi_aload_n_ok (k := 0) (by decide +kernel) rfl rfl) <|
  mi_cI (mi_get_ok (by decide +kernel) fl_X2_14 rfl) <|
  mi_cI (mi_iconst_ok (n := 1) (by decide) (by decide +kernel) rfl) <|
  mi_cI (mi_aload_n_ok (k := 0) (by decide +kernel) rfl rfl) <|
  mi_cI (mi_get_ok (by decide +kernel) fl_X2_14 rfl) <|
  mi_cI (mi_get_ok (by decide +kernel) fl_X2_128 rfl) <|
  mi_cC ⟨m_X0_wrong, rfl, okM_X0_wrong, 131, 2, by decide +kernel, Or.inl ⟨(by decide +kernel), rfl, (mi_gd2 109 rfl rfl), (mi_gd2 110 rfl rfl), (mi_gd2 111 rfl rfl), 0, _, _, rfl, rfl⟩⟩ <|
  mi_cI (mi_if_eq_ok (off := 7) (by decide +kernel) (by decide) rfl) <|
  mi_cI (mi_iconst_ok (n := 1) (by decide) (by decide +kernel) rfl) <|
  mi_cI (mi_goto_ok (off := 4) (by decide +kernel) (by decide)) <|
  mi_cI (mi_iconst_ok (n := 0) (by decide) (by decide +kernel) rfl) <|
  mi_cR (Or.inr (Or.inr (Or.inl ⟨rfl, (by decide +kernel), rfl⟩))) <| mi_cN
set_option maxRecDepth 100000 in
set_option maxHeartbeats 4000000 in
theorem ok_X3_init : ∀ q ∈ t_X3_init, mi_OkE mi_ms RX3 cX3_init 2 true none q :=
  mi_cI (mi_aload_n_ok (k := 0) (by decide +kernel) rfl rfl) <|
  mi_cI (mi_obj_ok (index := 3) (by decide +kernel) (mi_gd1 31 rfl rfl) (mi_gd1 24 rfl rfl) (mi_gd1 25 rfl rfl) rfl) <|
  mi_cI (mi_aload_n_ok (k := 0) (by decide +kernel) rfl rfl) <|
  mi_cI (mi_iload_n_ok (k := 1) (by decide +kernel) rfl rfl) <|
  mi_cI (mi_iconst_ok (n := 0) (by decide) (by decide +kernel) rfl) <|
  mi_cI (mi_mmax_ok (index := 9) (by decide +kernel) (mi_gd1 32 rfl rfl) (mi_gd1 33 rfl rfl) (mi_gd1 3 rfl rfl) (mi_gd1 34 rfl rfl) rfl) <|
  mi_cI (mi_newI_ok (by decide +kernel) (mi_gd1 49 rfl rfl) rfl) <|
  mi_cI (mi_putF_ok (by decide +kernel) fl_X3_15 rfl rfl (fun C T N h => by cases h; rfl) (fun C T N h => by cases h; exact (mi_gd1 35 rfl rfl)) rfl) <|
  mi_cI (mi_aload_n_ok (k := 0) (by decide +kernel) rfl rfl) <|
  mi_cI (mi_iconst_ok (n := 0) (by decide) (by decide +kernel) rfl) <|
  mi_cI (mi_put_ok (by decide +kernel) fl_X3_21 rfl rfl) <|
  mi_cR (Or.inl ⟨rfl, (by decide +kernel), rfl⟩) <| mi_cN
set_option maxRecDepth 100000 in
set_option maxHeartbeats 4000000 in
theorem ok_X3_clear : ∀ q ∈ t_X3_clear, mi_OkE mi_ms RX3 cX3_clear 1 false none q :=
  mi_cI (mi_aload_n_ok (k := 0) (by decide +kernel) rfl rfl) <|
  mi_cI (mi_iconst_ok (n := 0) (by decide) (by decide +kernel) rfl) <|
  mi_cI (mi_put_ok (by decide +kernel) fl_X3_21 rfl rfl) <|
  mi_cR (Or.inl ⟨rfl, (by decide +kernel), rfl⟩) <| mi_cN
set_option maxRecDepth 100000 in
set_option maxHeartbeats 4000000 in
theorem ok_X3_cut : ∀ q ∈ t_X3_cut, mi_OkE mi_ms RX3 cX3_cut 2 false none q :=
  mi_cI (mi_aload_n_ok (k := 0) (by decide +kernel) rfl rfl) <|
  mi_cI (mi_iconst_ok (n := 0) (by decide) (by decide +kernel) rfl) <|
  mi_cI (mi_aload_n_ok (k := 0) (by decide +kernel) rfl rfl) <|
  mi_cI (mi_get_ok (by decide +kernel) fl_X3_21 rfl) <|
  mi_cI (mi_iload_n_ok (k := 1) (by decide +kernel) rfl rfl) <|
  mi_cI (mi_mmin_ok (index := 25) (by decide +kernel) (mi_gd3 4 rfl rfl) (mi_gd3 5 rfl rfl) (mi_gd1 3 rfl rfl) (mi_gd3 6 rfl rfl) rfl) <|
  mi_cI (mi_mmax_ok (index := 9) (by decide +kernel) (mi_gd1 32 rfl rfl) (mi_gd1 33 rfl rfl) (mi_gd1 3 rfl rfl) (mi_gd1 34 rfl rfl) rfl) <|
  mi_cI (mi_put_ok (by decide +kernel) fl_X3_21 rfl rfl) <|
  mi_cR (Or.inl ⟨rfl, (by decide +kernel), rfl⟩) <| mi_cN
set_option maxRecDepth 100000 in
set_option maxHeartbeats 4000000 in
theorem ok_X3_add : ∀ q ∈ t_X3_add, mi_OkE mi_ms RX3 cX3_add 2 false none q :=
  mi_cI (mi_aload_n_ok (k := 0) (by decide +kernel) rfl rfl) <|
  mi_cI (mi_get_ok (by decide +kernel) fl_X3_21 rfl) <|
  mi_cI (mi_if_lt_ok (off := 35) (by decide +kernel) (by decide) rfl) <|
  mi_cI (mi_aload_n_ok (k := 0) (by decide +kernel) rfl rfl) <|
  mi_cI (mi_get_ok (by decide +kernel) fl_X3_21 rfl) <|
  mi_cI (mi_aload_n_ok (k := 0) (by decide +kernel) rfl rfl) <|
  mi_cI (mi_get_ok (by decide +kernel) fl_X3_15 rfl) <|
  mi_cI (mi_alen_ok (by decide +kernel) rfl) <|
  mi_cI (mi_icmp_ge_ok (off := 23) (by decide +kernel) (by decide) rfl) <|
  mi_cI (mi_aload_n_ok (k := 0) (by decide +kernel) rfl rfl) <|
  mi_cI (mi_get_ok (by decide +kernel) fl_X3_15 rfl) <|
  mi_cI (mi_aload_n_ok (k := 0) (by decide +kernel) rfl rfl) <|
  mi_cI (mi_get_ok (by decide +kernel) fl_X3_21 rfl) <|
  mi_cI (mi_iload_n_ok (k := 1) (by decide +kernel) rfl rfl) <|
  mi_cI (mi_iast_ok (by decide +kernel) rfl) <|
  mi_cI (mi_aload_n_ok (k := 0) (by decide +kernel) rfl rfl) <|
  mi_cI (mi_dup_ok (by decide +kernel) rfl) <|
  mi_cI (mi_get_ok (by decide +kernel) fl_X3_21 rfl) <|
  mi_cI (mi_iconst_ok (n := 1) (by decide) (by decide +kernel) rfl) <|
  mi_cI (mi_iadd_ok (by decide +kernel) rfl) <|
  mi_cI (mi_put_ok (by decide +kernel) fl_X3_21 rfl rfl) <|
  mi_cR (Or.inl ⟨rfl, (by decide +kernel), rfl⟩) <| mi_cN
set_option maxRecDepth 100000 in
set_option maxHeartbeats 4000000 in
theorem ok_X3_put : ∀ q ∈ t_X3_put, mi_OkE mi_ms RX3 cX3_put 3 false none q :=
  mi_cI (mi_iload_n_ok (k := 1) (by decide +kernel) rfl rfl) <|
  mi_cI (mi_if_lt_ok (off := 27) (by decide +kernel) (by decide) rfl) <|
  mi_cI (mi_iload_n_ok (k := 1) (by decide +kernel) rfl rfl) <|
  mi_cI (mi_aload_n_ok (k := 0) (by decide +kernel) rfl rfl) <|
  mi_cI (mi_get_ok (by decide +kernel) fl_X3_21 rfl) <|
  mi_cI (mi_icmp_ge_ok (off := 19) (by decide +kernel) (by decide) rfl) <|
  mi_cI (mi_iload_n_ok (k := 1) (by decide +kernel) rfl rfl) <|
  mi_cI (mi_aload_n_ok (k := 0) (by decide +kernel) rfl rfl) <|
  mi_cI (mi_get_ok (by decide +kernel) fl_X3_15 rfl) <|
  mi_cI (mi_alen_ok (by decide +kernel) rfl) <|
  mi_cI (mi_icmp_ge_ok (off := 10) (by decide +kernel) (by decide) rfl) <|
  mi_cI (mi_aload_n_ok (k := 0) (by decide +kernel) rfl rfl) <|
  mi_cI (mi_get_ok (by decide +kernel) fl_X3_15 rfl) <|
  mi_cI (mi_iload_n_ok (k := 1) (by decide +kernel) rfl rfl) <|
  mi_cI (mi_iload_n_ok (k := 2) (by decide +kernel) rfl rfl) <|
  mi_cI (mi_iast_ok (by decide +kernel) rfl) <|
  mi_cR (Or.inl ⟨rfl, (by decide +kernel), rfl⟩) <| mi_cN
set_option maxRecDepth 100000 in
set_option maxHeartbeats 4000000 in
theorem ok_X3_has : ∀ q ∈ t_X3_has, mi_OkE mi_ms RX3 cX3_has 2 false (some .boolean) q :=
  mi_cI (mi_iload_n_ok (k := 1) (by decide +kernel) rfl rfl) <|
  mi_cI (mi_if_lt_ok (off := 24) (by decide +kernel) (by decide) rfl) <|
  mi_cI (mi_iload_n_ok (k := 1) (by decide +kernel) rfl rfl) <|
  mi_cI (mi_aload_n_ok (k := 0) (by decide +kernel) rfl rfl) <|
  mi_cI (mi_get_ok (by decide +kernel) fl_X3_21 rfl) <|
  mi_cI (mi_icmp_ge_ok (off := 16) (by decide +kernel) (by decide) rfl) <|
  mi_cI (mi_iload_n_ok (k := 1) (by decide +kernel) rfl rfl) <|
  mi_cI (mi_aload_n_ok (k := 0) (by decide +kernel) rfl rfl) <|
  mi_cI (mi_get_ok (by decide +kernel) fl_X3_15 rfl) <|
  mi_cI (mi_alen_ok (by decide +kernel) rfl) <|
  mi_cI (mi_icmp_ge_ok (off := 7) (by decide +kernel) (by decide) rfl) <|
  mi_cI (mi_iconst_ok (n := 1) (by decide) (by decide +kernel) rfl) <|
  mi_cI (mi_goto_ok (off := 4) (by decide +kernel) (by decide)) <|
  mi_cI (mi_iconst_ok (n := 0) (by decide) (by decide +kernel) rfl) <|
  mi_cR (Or.inr (Or.inr (Or.inl ⟨rfl, (by decide +kernel), rfl⟩))) <| mi_cN
set_option maxRecDepth 100000 in
set_option maxHeartbeats 4000000 in
theorem ok_X3_at : ∀ q ∈ t_X3_at, mi_OkE mi_ms RX3 cX3_at 2 false (some .int) q :=
  mi_cI (mi_iload_n_ok (k := 1) (by decide +kernel) rfl rfl) <|
  mi_cI (mi_if_lt_ok (off := 29) (by decide +kernel) (by decide) rfl) <|
  mi_cI (mi_iload_n_ok (k := 1) (by decide +kernel) rfl rfl) <|
  mi_cI (mi_aload_n_ok (k := 0) (by decide +kernel) rfl rfl) <|
  mi_cI (mi_get_ok (by decide +kernel) fl_X3_21 rfl) <|
  mi_cI (mi_icmp_ge_ok (off := 21) (by decide +kernel) (by decide) rfl) <|
  mi_cI (mi_iload_n_ok (k := 1) (by decide +kernel) rfl rfl) <|
  mi_cI (mi_aload_n_ok (k := 0) (by decide +kernel) rfl rfl) <|
  mi_cI (mi_get_ok (by decide +kernel) fl_X3_15 rfl) <|
  mi_cI (mi_alen_ok (by decide +kernel) rfl) <|
  mi_cI (mi_icmp_ge_ok (off := 12) (by decide +kernel) (by decide) rfl) <|
  mi_cI (mi_aload_n_ok (k := 0) (by decide +kernel) rfl rfl) <|
  mi_cI (mi_get_ok (by decide +kernel) fl_X3_15 rfl) <|
  mi_cI (mi_iload_n_ok (k := 1) (by decide +kernel) rfl rfl) <|
  mi_cI (mi_iald_ok (by decide +kernel) rfl) <|
  mi_cI (mi_goto_ok (off := 4) (by decide +kernel) (by decide)) <|
  mi_cI (mi_iconst_ok (n := (-1)) (by decide) (by decide +kernel) rfl) <|
  mi_cR (Or.inr (Or.inl ⟨rfl, (by decide +kernel), rfl⟩)) <| mi_cN
set_option maxRecDepth 100000 in
set_option maxHeartbeats 4000000 in
theorem ok_X4_init : ∀ q ∈ t_X4_init, mi_OkE mi_ms RX4 cX4_init 3 true none q :=
  mi_cI (mi_aload_n_ok (k := 0) (by decide +kernel) rfl rfl) <|
  mi_cI (mi_obj_ok (index := 3) (by decide +kernel) (mi_gd1 73 rfl rfl) (mi_gd1 24 rfl rfl) (mi_gd1 25 rfl rfl) rfl) <|
  mi_cI (mi_aload_n_ok (k := 0) (by decide +kernel) rfl rfl) <|
  mi_cI (mi_aload_n_ok (k := 1) (by decide +kernel) rfl rfl) <|
  mi_cI (mi_putF_ok (by decide +kernel) fl_X4_9 rfl rfl (fun C T N h => by cases h; rfl) (fun C T N h => by cases h; exact (mi_gd1 76 rfl rfl)) rfl) <|
  mi_cI (mi_aload_n_ok (k := 0) (by decide +kernel) rfl rfl) <|
  mi_cI (mi_new_ok (index := 15) (by decide +kernel) cf_X3 (mi_gd1 74 rfl rfl) (mi_gd1 27 rfl rfl) (mi_gd1 2 rfl rfl) (by decide +kernel) (by decide +kernel) rfl) <|
  mi_cI (mi_dup_ok (by decide +kernel) rfl) <|
  mi_cI (mi_iload_n_ok (k := 2) (by decide +kernel) rfl rfl) <|
  mi_cC ⟨m_X3_init, rfl, okM_X3_init, 17, 1, by decide +kernel, Or.inr (Or.inl ⟨(by decide +kernel), rfl, (mi_gd1 75 rfl rfl), (mi_gd1 29 rfl rfl), rfl, rfl, 3, rfl⟩)⟩ <|
  mi_cI (mi_putF_ok (by decide +kernel) fl_X4_20 rfl rfl (fun C T N h => by cases h; rfl) (fun C T N h => by cases h; exact (mi_gd1 77 rfl rfl)) rfl) <|
  mi_cI (mi_aload_n_ok (k := 0) (by decide +kernel) rfl rfl) <|
  mi_cI (mi_new_ok (index := 15) (by decide +kernel) cf_X3 (mi_gd1 74 rfl rfl) (mi_gd1 27 rfl rfl) (mi_gd1 2 rfl rfl) (by decide +kernel) (by decide +kernel) rfl) <|
  mi_cI (mi_dup_ok (by decide +kernel) rfl) <|
  mi_cI (mi_iload_n_ok (k := 2) (by decide +kernel) rfl rfl) <|
  mi_cC ⟨m_X3_init, rfl, okM_X3_init, 17, 1, by decide +kernel, Or.inr (Or.inl ⟨(by decide +kernel), rfl, (mi_gd1 75 rfl rfl), (mi_gd1 29 rfl rfl), rfl, rfl, 3, rfl⟩)⟩ <|
  mi_cI (mi_putF_ok (by decide +kernel) fl_X4_23 rfl rfl (fun C T N h => by cases h; rfl) (fun C T N h => by cases h; exact (mi_gd1 78 rfl rfl)) rfl) <|
  mi_cI (mi_aload_n_ok (k := 0) (by decide +kernel) rfl rfl) <|
  mi_cI (mi_iconst_ok (n := 0) (by decide) (by decide +kernel) rfl) <|
  mi_cI (mi_put_ok (by decide +kernel) fl_X4_26 rfl rfl) <|
  mi_cR (Or.inl ⟨rfl, (by decide +kernel), rfl⟩) <| mi_cN
set_option maxRecDepth 100000 in
set_option maxHeartbeats 4000000 in
theorem ok_X4_clear : ∀ q ∈ t_X4_clear, mi_OkE mi_ms RX4 cX4_clear 1 false none q :=
  mi_cI (mi_aload_n_ok (k := 0) (by decide +kernel) rfl rfl) <|
  mi_cI (mi_get_ok (by decide +kernel) fl_X4_20 rfl) <|
  mi_cC ⟨m_X3_clear, rfl, okM_X3_clear, 30, 0, by decide +kernel, Or.inl ⟨(by decide +kernel), rfl, (mi_gd2 88 rfl rfl), (mi_gd2 81 rfl rfl), (mi_gd2 82 rfl rfl), 3, _, _, rfl, rfl⟩⟩ <|
  mi_cI (mi_aload_n_ok (k := 0) (by decide +kernel) rfl rfl) <|
  mi_cI (mi_get_ok (by decide +kernel) fl_X4_23 rfl) <|
  mi_cC ⟨m_X3_clear, rfl, okM_X3_clear, 30, 0, by decide +kernel, Or.inl ⟨(by decide +kernel), rfl, (mi_gd2 88 rfl rfl), (mi_gd2 81 rfl rfl), (mi_gd2 82 rfl rfl), 3, _, _, rfl, rfl⟩⟩ <|
  mi_cI (mi_aload_n_ok (k := 0) (by decide +kernel) rfl rfl) <|
  mi_cI (mi_iconst_ok (n := 0) (by decide) (by decide +kernel) rfl) <|
  mi_cI (mi_put_ok (by decide +kernel) fl_X4_26 rfl rfl) <|
  mi_cR (Or.inl ⟨rfl, (by decide +kernel), rfl⟩) <| mi_cN
set_option maxRecDepth 100000 in
set_option maxHeartbeats 4000000 in
theorem ok_X4_cut : ∀ q ∈ t_X4_cut, mi_OkE mi_ms RX4 cX4_cut 2 false none q :=
  mi_cI (mi_aload_n_ok (k := 0) (by decide +kernel) rfl rfl) <|
  mi_cI (mi_get_ok (by decide +kernel) fl_X4_20 rfl) <|
  mi_cI (mi_iload_n_ok (k := 1) (by decide +kernel) rfl rfl) <|
  mi_cC ⟨m_X3_cut, rfl, okM_X3_cut, 33, 1, by decide +kernel, Or.inl ⟨(by decide +kernel), rfl, (mi_gd3 11 rfl rfl), (mi_gd3 1 rfl rfl), (mi_gd3 2 rfl rfl), 3, _, _, rfl, rfl⟩⟩ <|
  mi_cI (mi_aload_n_ok (k := 0) (by decide +kernel) rfl rfl) <|
  mi_cI (mi_get_ok (by decide +kernel) fl_X4_23 rfl) <|
  mi_cI (mi_iload_n_ok (k := 1) (by decide +kernel) rfl rfl) <|
  mi_cC ⟨m_X3_cut, rfl, okM_X3_cut, 33, 1, by decide +kernel, Or.inl ⟨(by decide +kernel), rfl, (mi_gd3 11 rfl rfl), (mi_gd3 1 rfl rfl), (mi_gd3 2 rfl rfl), 3, _, _, rfl, rfl⟩⟩ <|
  mi_cI (mi_aload_n_ok (k := 0) (by decide +kernel) rfl rfl) <|
  mi_cI (mi_aload_n_ok (k := 0) (by decide +kernel) rfl rfl) <|
  mi_cI (mi_get_ok (by decide +kernel) fl_X4_23 rfl) <|
  mi_cI (mi_get_ok (by decide +kernel) fl_X4_36 rfl) <|
  mi_cI (mi_put_ok (by decide +kernel) fl_X4_26 rfl rfl) <|
  mi_cR (Or.inl ⟨rfl, (by decide +kernel), rfl⟩) <| mi_cN
set_option maxRecDepth 100000 in
set_option maxHeartbeats 4000000 in
theorem ok_X4_add : ∀ q ∈ t_X4_add, mi_OkE mi_ms RX4 cX4_add 3 false none q :=
  mi_cI (mi_aload_n_ok (k := 0) (by decide +kernel) rfl rfl) <|
  mi_cI (mi_get_ok (by decide +kernel) fl_X4_20 rfl) <|
  mi_cI (mi_iload_n_ok (k := 1) (by decide +kernel) rfl rfl) <|
  mi_cC ⟨m_X3_add, rfl, okM_X3_add, 39, 1, by decide +kernel, Or.inl ⟨(by decide +kernel), rfl, (mi_gd2 118 rfl rfl), (mi_gd2 53 rfl rfl), (mi_gd2 54 rfl rfl), 3, _, _, rfl, rfl⟩⟩ <|
  mi_cI (mi_aload_n_ok (k := 0) (by decide +kernel) rfl rfl) <|
  mi_cI (mi_get_ok (by decide +kernel) fl_X4_23 rfl) <|
  mi_cI (mi_iload_n_ok (k := 2) (by decide +kernel) rfl rfl) <|
  mi_cC ⟨m_X3_add, rfl, okM_X3_add, 39, 1, by decide +kernel, Or.inl ⟨(by decide +kernel), rfl, (mi_gd2 118 rfl rfl), (mi_gd2 53 rfl rfl), (mi_gd2 54 rfl rfl), 3, _, _, rfl, rfl⟩⟩ <|
  mi_cI (mi_aload_n_ok (k := 0) (by decide +kernel) rfl rfl) <|
  mi_cI (mi_aload_n_ok (k := 0) (by decide +kernel) rfl rfl) <|
  mi_cI (mi_get_ok (by decide +kernel) fl_X4_23 rfl) <|
  mi_cI (mi_get_ok (by decide +kernel) fl_X4_36 rfl) <|
  mi_cI (mi_put_ok (by decide +kernel) fl_X4_26 rfl rfl) <|
  mi_cR (Or.inl ⟨rfl, (by decide +kernel), rfl⟩) <| mi_cN
set_option maxRecDepth 100000 in
set_option maxHeartbeats 4000000 in
theorem ok_X4_has : ∀ q ∈ t_X4_has, mi_OkE mi_ms RX4 cX4_has 2 false (some .boolean) q :=
  mi_cI (mi_iload_n_ok (k := 1) (by decide +kernel) rfl rfl) <|
  mi_cI (mi_if_lt_ok (off := 15) (by decide +kernel) (by decide) rfl) <|
  mi_cI (mi_iload_n_ok (k := 1) (by decide +kernel) rfl rfl) <|
  mi_cI (mi_aload_n_ok (k := 0) (by decide +kernel) rfl rfl) <|
  mi_cI (mi_get_ok (by decide +kernel) fl_X4_26 rfl) <|
  mi_cI (mi_icmp_ge_ok (off := 7) (by decide +kernel) (by decide) rfl) <|
  mi_cI (mi_iconst_ok (n := 1) (by decide) (by decide +kernel) rfl) <|
  mi_cI (mi_goto_ok (off := 4) (by decide +kernel) (by decide)) <|
  mi_cI (mi_iconst_ok (n := 0) (by decide) (by decide +kernel) rfl) <|
  mi_cR (Or.inr (Or.inr (Or.inl ⟨rfl, (by decide +kernel), rfl⟩))) <| mi_cN
set_option maxRecDepth 100000 in
set_option maxHeartbeats 4000000 in
theorem ok_X4_lengthOf : ∀ q ∈ t_X4_lengthOf, mi_OkE mi_ms RX4 cX4_lengthOf 2 false (some .int) q :=
  mi_cI (mi_aload_n_ok (k := 0) (by decide +kernel) rfl rfl) <|
  mi_cI (mi_get_ok (by decide +kernel) fl_X4_23 rfl) <|
  mi_cI (mi_iload_n_ok (k := 1) (by decide +kernel) rfl rfl) <|
  mi_cC ⟨m_X3_at, rfl, okM_X3_at, 42, 1, by decide +kernel, Or.inl ⟨(by decide +kernel), rfl, (mi_gd2 169 rfl rfl), (mi_gd2 170 rfl rfl), (mi_gd2 171 rfl rfl), 3, _, _, rfl, rfl⟩⟩ <|
  mi_cR (Or.inr (Or.inl ⟨rfl, (by decide +kernel), rfl⟩)) <| mi_cN
set_option maxRecDepth 100000 in
set_option maxHeartbeats 4000000 in
theorem ok_X4_signAt : ∀ q ∈ t_X4_signAt, mi_OkE mi_ms RX4 cX4_signAt 3 false (some .int) q :=
  mi_cI (mi_iload_n_ok (k := 2) (by decide +kernel) rfl rfl) <|
  mi_cI (mi_if_lt_ok (off := 35) (by decide +kernel) (by decide) rfl) <|
  mi_cI (mi_iload_n_ok (k := 2) (by decide +kernel) rfl rfl) <|
  mi_cI (mi_aload_n_ok (k := 0) (by decide +kernel) rfl rfl) <|
  mi_cI (mi_get_ok (by decide +kernel) fl_X4_23 rfl) <|
  mi_cI (mi_iload_n_ok (k := 1) (by decide +kernel) rfl rfl) <|
  mi_cC ⟨m_X3_at, rfl, okM_X3_at, 42, 1, by decide +kernel, Or.inl ⟨(by decide +kernel), rfl, (mi_gd2 169 rfl rfl), (mi_gd2 170 rfl rfl), (mi_gd2 171 rfl rfl), 3, _, _, rfl, rfl⟩⟩ <|
  mi_cI (mi_icmp_ge_ok (off := 23) (by decide +kernel) (by decide) rfl) <|
  mi_cI (mi_aload_n_ok (k := 0) (by decide +kernel) rfl rfl) <|
  mi_cI (mi_get_ok (by decide +kernel) fl_X4_9 rfl) <|
  mi_cI (mi_aload_n_ok (k := 0) (by decide +kernel) rfl rfl) <|
  mi_cI (mi_get_ok (by decide +kernel) fl_X4_20 rfl) <|
  mi_cI (mi_iload_n_ok (k := 1) (by decide +kernel) rfl rfl) <|
  mi_cC ⟨m_X3_at, rfl, okM_X3_at, 42, 1, by decide +kernel, Or.inl ⟨(by decide +kernel), rfl, (mi_gd2 169 rfl rfl), (mi_gd2 170 rfl rfl), (mi_gd2 171 rfl rfl), 3, _, _, rfl, rfl⟩⟩ <|
  mi_cI (mi_iload_n_ok (k := 2) (by decide +kernel) rfl rfl) <|
  mi_cI (mi_iadd_ok (by decide +kernel) rfl) <|
  mi_cC ⟨m_X3_at, rfl, okM_X3_at, 42, 1, by decide +kernel, Or.inl ⟨(by decide +kernel), rfl, (mi_gd2 169 rfl rfl), (mi_gd2 170 rfl rfl), (mi_gd2 171 rfl rfl), 3, _, _, rfl, rfl⟩⟩ <|
  mi_cI (mi_goto_ok (off := 4) (by decide +kernel) (by decide)) <|
  mi_cI (mi_iconst_ok (n := (-1)) (by decide) (by decide +kernel) rfl) <|
  mi_cR (Or.inr (Or.inl ⟨rfl, (by decide +kernel), rfl⟩)) <| mi_cN
set_option maxRecDepth 100000 in
set_option maxHeartbeats 4000000 in
theorem ok_X4_indexOf : ∀ q ∈ t_X4_indexOf, mi_OkE mi_ms RX4 cX4_indexOf 5 false (some .int) q :=
  mi_cI (mi_iconst_ok (n := 0) (by decide) (by decide +kernel) rfl) <|
  mi_cI (mi_istore_ok (by decide +kernel) (by decide) rfl) <|
  mi_cI (mi_iload_ok (by decide +kernel) rfl) <|
  mi_cI (mi_aload_n_ok (k := 0) (by decide +kernel) rfl rfl) <|
  mi_cI (mi_get_ok (by decide +kernel) fl_X4_26 rfl) <|
  mi_cI (mi_icmp_ge_ok (off := 24) (by decide +kernel) (by decide) rfl) <|
  mi_cI (mi_aload_n_ok (k := 0) (by decide +kernel) rfl rfl) <|
  mi_cI (mi_iload_ok (by decide +kernel) rfl) <|
  mi_cI (mi_aload_n_ok (k := 1) (by decide +kernel) rfl rfl) <|
  mi_cI (mi_iload_n_ok (k := 2) (by decide +kernel) rfl rfl) <|
  mi_cI (mi_iload_n_ok (k := 3) (by decide +kernel) rfl rfl) <|
  mi_cC ⟨m_X4_isSame, rfl, okM_X4_isSame, 46, 4, by decide +kernel, Or.inl ⟨(by decide +kernel), rfl, (mi_gd2 165 rfl rfl), (mi_gd2 167 rfl rfl), (mi_gd0 10 rfl rfl), 4, _, _, rfl, rfl⟩⟩ <|
  mi_cI (mi_if_eq_ok (off := 6) (by decide +kernel) (by decide) rfl) <|
  mi_cI (mi_iload_ok (by decide +kernel) rfl) <|
  mi_cR (Or.inr (Or.inl ⟨rfl, (by decide +kernel), rfl⟩)) <|
  mi_cI (mi_inc_ok (by decide +kernel) (by decide) rfl) <|
  mi_cI (mi_goto_ok (off := (-27)) (by decide +kernel) (by decide)) <|
  mi_cI (mi_iconst_ok (n := (-1)) (by decide) (by decide +kernel) rfl) <|
  mi_cR (Or.inr (Or.inl ⟨rfl, (by decide +kernel), rfl⟩)) <| mi_cN
set_option maxRecDepth 100000 in
set_option maxHeartbeats 4000000 in
theorem ok_X4_isSame : ∀ q ∈ t_X4_isSame, mi_OkE mi_ms RX4 cX4_isSame 7 false (some .boolean) q :=
  mi_cI (mi_aload_n_ok (k := 0) (by decide +kernel) rfl rfl) <|
  mi_cI (mi_get_ok (by decide +kernel) fl_X4_23 rfl) <|
  mi_cI (mi_iload_n_ok (k := 1) (by decide +kernel) rfl rfl) <|
  mi_cC ⟨m_X3_at, rfl, okM_X3_at, 42, 1, by decide +kernel, Or.inl ⟨(by decide +kernel), rfl, (mi_gd2 169 rfl rfl), (mi_gd2 170 rfl rfl), (mi_gd2 171 rfl rfl), 3, _, _, rfl, rfl⟩⟩ <|
  mi_cI (mi_iload_ok (by decide +kernel) rfl) <|
  mi_cI (mi_icmp_eq_ok (off := 5) (by decide +kernel) (by decide) rfl) <|
  mi_cI (mi_iconst_ok (n := 0) (by decide) (by decide +kernel) rfl) <|
  mi_cR (Or.inr (Or.inr (Or.inl ⟨rfl, (by decide +kernel), rfl⟩))) <|
  mi_cI (mi_aload_n_ok (k := 0) (by decide +kernel) rfl rfl) <|
  mi_cI (mi_get_ok (by decide +kernel) fl_X4_20 rfl) <|
  mi_cI (mi_iload_n_ok (k := 1) (by decide +kernel) rfl rfl) <|
  mi_cC ⟨m_X3_at, rfl, okM_X3_at, 42, 1, by decide +kernel, Or.inl ⟨(by decide +kernel), rfl, (mi_gd2 169 rfl rfl), (mi_gd2 170 rfl rfl), (mi_gd2 171 rfl rfl), 3, _, _, rfl, rfl⟩⟩ <|
  mi_cI (mi_istore_ok (by decide +kernel) (by decide) rfl) <|
  mi_cI (mi_iconst_ok (n := 0) (by decide) (by decide +kernel) rfl) <|
  mi_cI (mi_istore_ok (by decide +kernel) (by decide) rfl) <|
  mi_cI (mi_iload_ok (by decide +kernel) rfl) <|
  mi_cI (mi_iload_ok (by decide +kernel) rfl) <|
  mi_cI (mi_icmp_ge_ok (off := 34) (by decide +kernel) (by decide) rfl) <|
  mi_cI (mi_aload_n_ok (k := 0) (by decide +kernel) rfl rfl) <|
  mi_cI (mi_get_ok (by decide +kernel) fl_X4_9 rfl) <|
  mi_cI (mi_iload_ok (by decide +kernel) rfl) <|
  mi_cI (mi_iload_ok (by decide +kernel) rfl) <|
  mi_cI (mi_iadd_ok (by decide +kernel) rfl) <|
  mi_cC ⟨m_X3_at, rfl, okM_X3_at, 42, 1, by decide +kernel, Or.inl ⟨(by decide +kernel), rfl, (mi_gd2 169 rfl rfl), (mi_gd2 170 rfl rfl), (mi_gd2 171 rfl rfl), 3, _, _, rfl, rfl⟩⟩ <|
  mi_cI (mi_aload_n_ok (k := 2) (by decide +kernel) rfl rfl) <|
  mi_cI (mi_iload_n_ok (k := 3) (by decide +kernel) rfl rfl) <|
  mi_cI (mi_iload_ok (by decide +kernel) rfl) <|
  mi_cI (mi_iadd_ok (by decide +kernel) rfl) <|
  mi_cC ⟨m_X3_at, rfl, okM_X3_at, 42, 1, by decide +kernel, Or.inl ⟨(by decide +kernel), rfl, (mi_gd2 169 rfl rfl), (mi_gd2 170 rfl rfl), (mi_gd2 171 rfl rfl), 3, _, _, rfl, rfl⟩⟩ <|
  mi_cI (mi_icmp_eq_ok (off := 5) (by decide +kernel) (by decide) rfl) <|
  mi_cI (mi_iconst_ok (n := 0) (by decide) (by decide +kernel) rfl) <|
  mi_cR (Or.inr (Or.inr (Or.inl ⟨rfl, (by decide +kernel), rfl⟩))) <|
  mi_cI (mi_inc_ok (by decide +kernel) (by decide) rfl) <|
  mi_cI (mi_goto_ok (off := (-35)) (by decide +kernel) (by decide)) <|
  mi_cI (mi_iconst_ok (n := 1) (by decide) (by decide +kernel) rfl) <|
  mi_cR (Or.inr (Or.inr (Or.inl ⟨rfl, (by decide +kernel), rfl⟩))) <| mi_cN
set_option maxRecDepth 100000 in
set_option maxHeartbeats 4000000 in
theorem ok_X4_isPlainName : ∀ q ∈ t_X4_isPlainName, mi_OkE mi_ms RX4 cX4_isPlainName 3 false (some .boolean) q :=
  mi_cI (mi_iconst_ok (n := 0) (by decide) (by decide +kernel) rfl) <|
  mi_cI (mi_istore_n_ok (k := 2) (by decide +kernel) rfl (by decide) rfl) <|
  mi_cI (mi_iload_n_ok (k := 2) (by decide +kernel) rfl rfl) <|
  mi_cI (mi_aload_n_ok (k := 0) (by decide +kernel) rfl rfl) <|
  mi_cI (mi_iload_n_ok (k := 1) (by decide +kernel) rfl rfl) <|
  mi_cC ⟨m_X4_lengthOf, rfl, okM_X4_lengthOf, 50, 1, by decide +kernel, Or.inl ⟨(by decide +kernel), rfl, (mi_gd3 117 rfl rfl), (mi_gd3 89 rfl rfl), (mi_gd3 90 rfl rfl), 4, _, _, rfl, rfl⟩⟩ <|
  mi_cI (mi_icmp_ge_ok (off := 23) (by decide +kernel) (by decide) rfl) <|
  mi_cI (mi_aload_n_ok (k := 0) (by decide +kernel) rfl rfl) <|
  mi_cI (mi_iload_n_ok (k := 1) (by decide +kernel) rfl rfl) <|
  mi_cI (mi_iload_n_ok (k := 2) (by decide +kernel) rfl rfl) <|
  mi_cC ⟨m_X4_signAt, rfl, okM_X4_signAt, 53, 2, by decide +kernel, Or.inl ⟨(by decide +kernel), rfl, (mi_gd3 118 rfl rfl), (mi_gd3 93 rfl rfl), (mi_gd3 94 rfl rfl), 4, _, _, rfl, rfl⟩⟩ <|
  mi_cC ⟨m_X6_isPlain, rfl, okM_X6_isPlain, 57, 1, by decide +kernel, Or.inr (Or.inr ⟨(by decide +kernel), rfl, (mi_gd2 159 rfl rfl), Or.inr ⟨"GraphTexts", (mi_nd3 119 rfl rfl)⟩⟩)⟩ <|
  mi_cI (mi_if_ne_ok (off := 5) (by decide +kernel) (by decide) rfl) <|
  mi_cI (mi_iconst_ok (n := 0) (by decide) (by decide +kernel) rfl) <|
  mi_cR (Or.inr (Or.inr (Or.inl ⟨rfl, (by decide +kernel), rfl⟩))) <|
  mi_cI (mi_inc_ok (by decide +kernel) (by decide) rfl) <|
  mi_cI (mi_goto_ok (off := (-26)) (by decide +kernel) (by decide)) <|
  mi_cI (mi_iconst_ok (n := 1) (by decide) (by decide +kernel) rfl) <|
  mi_cR (Or.inr (Or.inr (Or.inl ⟨rfl, (by decide +kernel), rfl⟩))) <| mi_cN
set_option maxRecDepth 100000 in
set_option maxHeartbeats 4000000 in
theorem ok_X5_init : ∀ q ∈ t_X5_init, mi_OkE mi_ms RX5 cX5_init 2 true none q :=
  mi_cI (mi_aload_n_ok (k := 0) (by decide +kernel) rfl rfl) <|
  mi_cI (mi_obj_ok (index := 3) (by decide +kernel) (mi_gd1 55 rfl rfl) (mi_gd1 24 rfl rfl) (mi_gd1 25 rfl rfl) rfl) <|
  mi_cI (mi_aload_n_ok (k := 0) (by decide +kernel) rfl rfl) <|
  mi_cI (mi_aload_n_ok (k := 1) (by decide +kernel) rfl rfl) <|
  mi_cI (mi_putF_ok (by decide +kernel) fl_X5_9 rfl rfl (fun C T N h => by cases h; rfl) (fun C T N h => by cases h; exact (mi_gd1 56 rfl rfl)) rfl) <|
  mi_cR (Or.inl ⟨rfl, (by decide +kernel), rfl⟩) <| mi_cN
set_option maxRecDepth 100000 in
set_option maxHeartbeats 4000000 in
theorem ok_X5_writeGraph : ∀ q ∈ t_X5_writeGraph, mi_OkE mi_ms RX5 cX5_writeGraph 6 false none q :=
  mi_cI (mi_aload_n_ok (k := 0) (by decide +kernel) rfl rfl) <|
  mi_cI (mi_get_ok (by decide +kernel) fl_X5_9 rfl) <|
  mi_cC ⟨m_X3_clear, rfl, okM_X3_clear, 15, 0, by decide +kernel, Or.inl ⟨(by decide +kernel), rfl, (mi_gd3 81 rfl rfl), (mi_gd2 81 rfl rfl), (mi_gd2 82 rfl rfl), 3, _, _, rfl, rfl⟩⟩ <|
  mi_cI (mi_iconst_ok (n := 0) (by decide) (by decide +kernel) rfl) <|
  mi_cI (mi_istore_n_ok (k := 2) (by decide +kernel) rfl (by decide) rfl) <|
  mi_cI (mi_iconst_ok (n := 0) (by decide) (by decide +kernel) rfl) <|
  mi_cI (mi_istore_n_ok (k := 3) (by decide +kernel) rfl (by decide) rfl) <|
  mi_cI (mi_iconst_ok (n := 0) (by decide) (by decide +kernel) rfl) <|
  mi_cI (mi_istore_ok (by decide +kernel) (by decide) rfl) <|
  mi_cI (mi_iconst_ok (n := 0) (by decide) (by decide +kernel) rfl) <|
  mi_cI (mi_istore_ok (by decide +kernel) (by decide) rfl) <|
  mi_cI (mi_iload_ok (by decide +kernel) rfl) <|
  mi_cI (mi_aload_n_ok (k := 1) (by decide +kernel) rfl rfl) <|
  mi_cI (mi_get_ok (by decide +kernel) fl_X5_20 rfl) <|
  mi_cI (mi_get_ok (by decide +kernel) fl_X5_25 rfl) <|
  mi_cI (mi_icmp_ge_ok (off := 95) (by decide +kernel) (by decide) rfl) <|
  mi_cI (mi_aload_n_ok (k := 1) (by decide +kernel) rfl rfl) <|
  mi_cI (mi_get_ok (by decide +kernel) fl_X5_20 rfl) <|
  mi_cI (mi_iload_ok (by decide +kernel) rfl) <|
  mi_cC ⟨m_X3_at, rfl, okM_X3_at, 29, 1, by decide +kernel, Or.inl ⟨(by decide +kernel), rfl, (mi_gd3 82 rfl rfl), (mi_gd2 170 rfl rfl), (mi_gd2 171 rfl rfl), 3, _, _, rfl, rfl⟩⟩ <|
  mi_cI (mi_tab_ok (dflt := 58) (offs := #[26, 38, 46]) (len := 26) (by decide +kernel) (by decide) (by decide) (by decide +kernel)) <|
  mi_cI (mi_aload_n_ok (k := 0) (by decide +kernel) rfl rfl) <|
  mi_cI (mi_aload_n_ok (k := 1) (by decide +kernel) rfl rfl) <|
  mi_cI (mi_iload_n_ok (k := 2) (by decide +kernel) rfl rfl) <|
  mi_cC ⟨m_X5_writeComment, rfl, okM_X5_writeComment, 33, 2, by decide +kernel, Or.inl ⟨(by decide +kernel), rfl, (mi_gd3 83 rfl rfl), (mi_gd3 85 rfl rfl), (mi_gd0 23 rfl rfl), 5, _, _, rfl, rfl⟩⟩ <|
  mi_cI (mi_inc_ok (by decide +kernel) (by decide) rfl) <|
  mi_cI (mi_goto_ok (off := 33) (by decide +kernel) (by decide)) <|
  mi_cI (mi_aload_n_ok (k := 0) (by decide +kernel) rfl rfl) <|
  mi_cI (mi_aload_n_ok (k := 1) (by decide +kernel) rfl rfl) <|
  mi_cC ⟨m_X5_writeCount, rfl, okM_X5_writeCount, 37, 1, by decide +kernel, Or.inl ⟨(by decide +kernel), rfl, (mi_gd3 96 rfl rfl), (mi_gd3 98 rfl rfl), (mi_gd0 24 rfl rfl), 5, _, _, rfl, rfl⟩⟩ <|
  mi_cI (mi_goto_ok (off := 25) (by decide +kernel) (by decide)) <|
  mi_cI (mi_aload_n_ok (k := 0) (by decide +kernel) rfl rfl) <|
  mi_cI (mi_aload_n_ok (k := 1) (by decide +kernel) rfl rfl) <|
  mi_cI (mi_iload_n_ok (k := 3) (by decide +kernel) rfl rfl) <|
  mi_cC ⟨m_X5_writeHead, rfl, okM_X5_writeHead, 41, 2, by decide +kernel, Or.inl ⟨(by decide +kernel), rfl, (mi_gd3 105 rfl rfl), (mi_gd3 107 rfl rfl), (mi_gd0 26 rfl rfl), 5, _, _, rfl, rfl⟩⟩ <|
  mi_cI (mi_inc_ok (by decide +kernel) (by decide) rfl) <|
  mi_cI (mi_goto_ok (off := 13) (by decide +kernel) (by decide)) <|
  mi_cI (mi_aload_n_ok (k := 0) (by decide +kernel) rfl rfl) <|
  mi_cI (mi_aload_n_ok (k := 1) (by decide +kernel) rfl rfl) <|
  mi_cI (mi_iload_ok (by decide +kernel) rfl) <|
  mi_cC ⟨m_X5_writeArc, rfl, okM_X5_writeArc, 44, 2, by decide +kernel, Or.inl ⟨(by decide +kernel), rfl, (mi_gd3 123 rfl rfl), (mi_gd3 125 rfl rfl), (mi_gd0 28 rfl rfl), 5, _, _, rfl, rfl⟩⟩ <|
  mi_cI (mi_inc_ok (by decide +kernel) (by decide) rfl) <|
  mi_cI (mi_aload_n_ok (k := 0) (by decide +kernel) rfl rfl) <|
  mi_cI (mi_get_ok (by decide +kernel) fl_X5_9 rfl) <|
  mi_cI (mi_bipush_ok (n := 10) (by decide) (by decide +kernel) rfl) <|
  mi_cC ⟨m_X3_add, rfl, okM_X3_add, 47, 1, by decide +kernel, Or.inl ⟨(by decide +kernel), rfl, (mi_gd3 87 rfl rfl), (mi_gd2 53 rfl rfl), (mi_gd2 54 rfl rfl), 3, _, _, rfl, rfl⟩⟩ <|
  mi_cI (mi_inc_ok (by decide +kernel) (by decide) rfl) <|
  mi_cI (mi_goto_ok (off := (-101)) (by decide +kernel) (by decide)) <|
  mi_cR (Or.inl ⟨rfl, (by decide +kernel), rfl⟩) <| mi_cN
set_option maxRecDepth 100000 in
set_option maxHeartbeats 4000000 in
theorem ok_X5_writeComment : ∀ q ∈ t_X5_writeComment, mi_OkE mi_ms RX5 cX5_writeComment 4 false none q :=
  mi_cI (mi_aload_n_ok (k := 0) (by decide +kernel) rfl rfl) <|
  mi_cI (mi_get_ok (by decide +kernel) fl_X5_9 rfl) <|
  mi_cI (mi_bipush_ok (n := 35) (by decide) (by decide +kernel) rfl) <|
  mi_cC ⟨m_X3_add, rfl, okM_X3_add, 47, 1, by decide +kernel, Or.inl ⟨(by decide +kernel), rfl, (mi_gd3 87 rfl rfl), (mi_gd2 53 rfl rfl), (mi_gd2 54 rfl rfl), 3, _, _, rfl, rfl⟩⟩ <|
  mi_cI (mi_iconst_ok (n := 0) (by decide) (by decide +kernel) rfl) <|
  mi_cI (mi_istore_n_ok (k := 3) (by decide +kernel) rfl (by decide) rfl) <|
  mi_cI (mi_iload_n_ok (k := 3) (by decide +kernel) rfl rfl) <|
  mi_cI (mi_aload_n_ok (k := 1) (by decide +kernel) rfl rfl) <|
  mi_cI (mi_get_ok (by decide +kernel) fl_X5_51 rfl) <|
  mi_cI (mi_iload_n_ok (k := 2) (by decide +kernel) rfl rfl) <|
  mi_cC ⟨m_X4_lengthOf, rfl, okM_X4_lengthOf, 55, 1, by decide +kernel, Or.inl ⟨(by decide +kernel), rfl, (mi_gd3 88 rfl rfl), (mi_gd3 89 rfl rfl), (mi_gd3 90 rfl rfl), 4, _, _, rfl, rfl⟩⟩ <|
  mi_cI (mi_icmp_ge_ok (off := 25) (by decide +kernel) (by decide) rfl) <|
  mi_cI (mi_aload_n_ok (k := 0) (by decide +kernel) rfl rfl) <|
  mi_cI (mi_get_ok (by decide +kernel) fl_X5_9 rfl) <|
  mi_cI (mi_aload_n_ok (k := 1) (by decide +kernel) rfl rfl) <|
  mi_cI (mi_get_ok (by decide +kernel) fl_X5_51 rfl) <|
  mi_cI (mi_iload_n_ok (k := 2) (by decide +kernel) rfl rfl) <|
  mi_cI (mi_iload_n_ok (k := 3) (by decide +kernel) rfl rfl) <|
  mi_cC ⟨m_X4_signAt, rfl, okM_X4_signAt, 60, 2, by decide +kernel, Or.inl ⟨(by decide +kernel), rfl, (mi_gd3 92 rfl rfl), (mi_gd3 93 rfl rfl), (mi_gd3 94 rfl rfl), 4, _, _, rfl, rfl⟩⟩ <|
  mi_cC ⟨m_X3_add, rfl, okM_X3_add, 47, 1, by decide +kernel, Or.inl ⟨(by decide +kernel), rfl, (mi_gd3 87 rfl rfl), (mi_gd2 53 rfl rfl), (mi_gd2 54 rfl rfl), 3, _, _, rfl, rfl⟩⟩ <|
  mi_cI (mi_inc_ok (by decide +kernel) (by decide) rfl) <|
  mi_cI (mi_goto_ok (off := (-31)) (by decide +kernel) (by decide)) <|
  mi_cR (Or.inl ⟨rfl, (by decide +kernel), rfl⟩) <| mi_cN
set_option maxRecDepth 100000 in
set_option maxHeartbeats 4000000 in
theorem ok_X5_writeCount : ∀ q ∈ t_X5_writeCount, mi_OkE mi_ms RX5 cX5_writeCount 2 false none q :=
  mi_cI (mi_aload_n_ok (k := 0) (by decide +kernel) rfl rfl) <|
  mi_cI (mi_get_ok (by decide +kernel) fl_X5_9 rfl) <|
  mi_cI (mi_bipush_ok (n := 33) (by decide) (by decide +kernel) rfl) <|
  mi_cC ⟨m_X3_add, rfl, okM_X3_add, 47, 1, by decide +kernel, Or.inl ⟨(by decide +kernel), rfl, (mi_gd3 87 rfl rfl), (mi_gd2 53 rfl rfl), (mi_gd2 54 rfl rfl), 3, _, _, rfl, rfl⟩⟩ <|
  mi_cI (mi_aload_n_ok (k := 0) (by decide +kernel) rfl rfl) <|
  mi_cI (mi_get_ok (by decide +kernel) fl_X5_9 rfl) <|
  mi_cI (mi_bipush_ok (n := 32) (by decide) (by decide +kernel) rfl) <|
  mi_cC ⟨m_X3_add, rfl, okM_X3_add, 47, 1, by decide +kernel, Or.inl ⟨(by decide +kernel), rfl, (mi_gd3 87 rfl rfl), (mi_gd2 53 rfl rfl), (mi_gd2 54 rfl rfl), 3, _, _, rfl, rfl⟩⟩ <|
  mi_cI (mi_aload_n_ok (k := 0) (by decide +kernel) rfl rfl) <|
  mi_cI (mi_aload_n_ok (k := 1) (by decide +kernel) rfl rfl) <|
  mi_cI (mi_get_ok (by decide +kernel) fl_X5_64 rfl) <|
  mi_cC ⟨m_X5_writeWhole, rfl, okM_X5_writeWhole, 67, 1, by decide +kernel, Or.inl ⟨(by decide +kernel), rfl, (mi_gd3 100 rfl rfl), (mi_gd3 102 rfl rfl), (mi_gd0 25 rfl rfl), 5, _, _, rfl, rfl⟩⟩ <|
  mi_cI (mi_aload_n_ok (k := 0) (by decide +kernel) rfl rfl) <|
  mi_cI (mi_get_ok (by decide +kernel) fl_X5_9 rfl) <|
  mi_cI (mi_bipush_ok (n := 32) (by decide) (by decide +kernel) rfl) <|
  mi_cC ⟨m_X3_add, rfl, okM_X3_add, 47, 1, by decide +kernel, Or.inl ⟨(by decide +kernel), rfl, (mi_gd3 87 rfl rfl), (mi_gd2 53 rfl rfl), (mi_gd2 54 rfl rfl), 3, _, _, rfl, rfl⟩⟩ <|
  mi_cI (mi_aload_n_ok (k := 0) (by decide +kernel) rfl rfl) <|
  mi_cI (mi_aload_n_ok (k := 1) (by decide +kernel) rfl rfl) <|
  mi_cI (mi_get_ok (by decide +kernel) fl_X5_70 rfl) <|
  mi_cC ⟨m_X5_writeWhole, rfl, okM_X5_writeWhole, 67, 1, by decide +kernel, Or.inl ⟨(by decide +kernel), rfl, (mi_gd3 100 rfl rfl), (mi_gd3 102 rfl rfl), (mi_gd0 25 rfl rfl), 5, _, _, rfl, rfl⟩⟩ <|
  mi_cR (Or.inl ⟨rfl, (by decide +kernel), rfl⟩) <| mi_cN
set_option maxRecDepth 100000 in
set_option maxHeartbeats 4000000 in
theorem ok_X5_writeHead : ∀ q ∈ t_X5_writeHead, mi_OkE mi_ms RX5 cX5_writeHead 3 false none q :=
  mi_cI (mi_aload_n_ok (k := 0) (by decide +kernel) rfl rfl) <|
  mi_cI (mi_get_ok (by decide +kernel) fl_X5_9 rfl) <|
  mi_cI (mi_bipush_ok (n := 37) (by decide) (by decide +kernel) rfl) <|
  mi_cC ⟨m_X3_add, rfl, okM_X3_add, 47, 1, by decide +kernel, Or.inl ⟨(by decide +kernel), rfl, (mi_gd3 87 rfl rfl), (mi_gd2 53 rfl rfl), (mi_gd2 54 rfl rfl), 3, _, _, rfl, rfl⟩⟩ <|
  mi_cI (mi_aload_n_ok (k := 0) (by decide +kernel) rfl rfl) <|
  mi_cI (mi_get_ok (by decide +kernel) fl_X5_9 rfl) <|
  mi_cI (mi_bipush_ok (n := 32) (by decide) (by decide +kernel) rfl) <|
  mi_cC ⟨m_X3_add, rfl, okM_X3_add, 47, 1, by decide +kernel, Or.inl ⟨(by decide +kernel), rfl, (mi_gd3 87 rfl rfl), (mi_gd2 53 rfl rfl), (mi_gd2 54 rfl rfl), 3, _, _, rfl, rfl⟩⟩ <|
  mi_cI (mi_aload_n_ok (k := 0) (by decide +kernel) rfl rfl) <|
  mi_cI (mi_aload_n_ok (k := 1) (by decide +kernel) rfl rfl) <|
  mi_cI (mi_get_ok (by decide +kernel) fl_X5_73 rfl) <|
  mi_cI (mi_iload_n_ok (k := 2) (by decide +kernel) rfl rfl) <|
  mi_cC ⟨m_X5_writeName, rfl, okM_X5_writeName, 76, 2, by decide +kernel, Or.inl ⟨(by decide +kernel), rfl, (mi_gd3 109 rfl rfl), (mi_gd3 111 rfl rfl), (mi_gd0 27 rfl rfl), 5, _, _, rfl, rfl⟩⟩ <|
  mi_cI (mi_aload_n_ok (k := 0) (by decide +kernel) rfl rfl) <|
  mi_cI (mi_get_ok (by decide +kernel) fl_X5_9 rfl) <|
  mi_cI (mi_bipush_ok (n := 32) (by decide) (by decide +kernel) rfl) <|
  mi_cC ⟨m_X3_add, rfl, okM_X3_add, 47, 1, by decide +kernel, Or.inl ⟨(by decide +kernel), rfl, (mi_gd3 87 rfl rfl), (mi_gd2 53 rfl rfl), (mi_gd2 54 rfl rfl), 3, _, _, rfl, rfl⟩⟩ <|
  mi_cI (mi_aload_n_ok (k := 0) (by decide +kernel) rfl rfl) <|
  mi_cI (mi_get_ok (by decide +kernel) fl_X5_9 rfl) <|
  mi_cI (mi_aload_n_ok (k := 1) (by decide +kernel) rfl rfl) <|
  mi_cI (mi_get_ok (by decide +kernel) fl_X5_80 rfl) <|
  mi_cI (mi_iload_n_ok (k := 2) (by decide +kernel) rfl rfl) <|
  mi_cC ⟨m_X3_at, rfl, okM_X3_at, 29, 1, by decide +kernel, Or.inl ⟨(by decide +kernel), rfl, (mi_gd3 82 rfl rfl), (mi_gd2 170 rfl rfl), (mi_gd2 171 rfl rfl), 3, _, _, rfl, rfl⟩⟩ <|
  mi_cC ⟨m_X5_letterOfKind, rfl, okM_X5_letterOfKind, 83, 1, by decide +kernel, Or.inr (Or.inr ⟨(by decide +kernel), rfl, (mi_gd3 121 rfl rfl), Or.inl (mi_gd3 120 rfl rfl)⟩)⟩ <|
  mi_cC ⟨m_X3_add, rfl, okM_X3_add, 47, 1, by decide +kernel, Or.inl ⟨(by decide +kernel), rfl, (mi_gd3 87 rfl rfl), (mi_gd2 53 rfl rfl), (mi_gd2 54 rfl rfl), 3, _, _, rfl, rfl⟩⟩ <|
  mi_cR (Or.inl ⟨rfl, (by decide +kernel), rfl⟩) <| mi_cN
set_option maxRecDepth 100000 in
set_option maxHeartbeats 4000000 in
theorem ok_X5_letterOfKind : ∀ q ∈ t_X5_letterOfKind, mi_OkE mi_ms RX5 cX5_letterOfKind 1 false (some .int) q :=
  mi_cI (mi_iload_n_ok (k := 0) (by decide +kernel) rfl rfl) <|
  mi_cI (mi_if_ne_ok (off := 6) (by decide +kernel) (by decide) rfl) <|
  mi_cI (mi_bipush_ok (n := 119) (by decide) (by decide +kernel) rfl) <|
  mi_cR (Or.inr (Or.inl ⟨rfl, (by decide +kernel), rfl⟩)) <|
  mi_cI (mi_iload_n_ok (k := 0) (by decide +kernel) rfl rfl) <|
  mi_cI (mi_iconst_ok (n := 1) (by decide) (by decide +kernel) rfl) <|
  mi_cI (mi_icmp_ne_ok (off := 8) (by decide +kernel) (by decide) rfl) <|
  mi_cI (mi_bipush_ok (n := 100) (by decide) (by decide +kernel) rfl) <|
  mi_cI (mi_goto_ok (off := 5) (by decide +kernel) (by decide)) <|
  mi_cI (mi_bipush_ok (n := 116) (by decide) (by decide +kernel) rfl) <|
  mi_cR (Or.inr (Or.inl ⟨rfl, (by decide +kernel), rfl⟩)) <| mi_cN
set_option maxRecDepth 100000 in
set_option maxHeartbeats 4000000 in
theorem ok_X5_writeArc : ∀ q ∈ t_X5_writeArc, mi_OkE mi_ms RX5 cX5_writeArc 4 false none q :=
  mi_cI (mi_aload_n_ok (k := 0) (by decide +kernel) rfl rfl) <|
  mi_cI (mi_aload_n_ok (k := 1) (by decide +kernel) rfl rfl) <|
  mi_cI (mi_get_ok (by decide +kernel) fl_X5_86 rfl) <|
  mi_cI (mi_aload_n_ok (k := 1) (by decide +kernel) rfl rfl) <|
  mi_cI (mi_get_ok (by decide +kernel) fl_X5_89 rfl) <|
  mi_cI (mi_iload_n_ok (k := 2) (by decide +kernel) rfl rfl) <|
  mi_cC ⟨m_X3_at, rfl, okM_X3_at, 29, 1, by decide +kernel, Or.inl ⟨(by decide +kernel), rfl, (mi_gd3 82 rfl rfl), (mi_gd2 170 rfl rfl), (mi_gd2 171 rfl rfl), 3, _, _, rfl, rfl⟩⟩ <|
  mi_cC ⟨m_X5_writeName, rfl, okM_X5_writeName, 76, 2, by decide +kernel, Or.inl ⟨(by decide +kernel), rfl, (mi_gd3 109 rfl rfl), (mi_gd3 111 rfl rfl), (mi_gd0 27 rfl rfl), 5, _, _, rfl, rfl⟩⟩ <|
  mi_cI (mi_aload_n_ok (k := 0) (by decide +kernel) rfl rfl) <|
  mi_cI (mi_get_ok (by decide +kernel) fl_X5_9 rfl) <|
  mi_cI (mi_bipush_ok (n := 32) (by decide) (by decide +kernel) rfl) <|
  mi_cC ⟨m_X3_add, rfl, okM_X3_add, 47, 1, by decide +kernel, Or.inl ⟨(by decide +kernel), rfl, (mi_gd3 87 rfl rfl), (mi_gd2 53 rfl rfl), (mi_gd2 54 rfl rfl), 3, _, _, rfl, rfl⟩⟩ <|
  mi_cI (mi_aload_n_ok (k := 0) (by decide +kernel) rfl rfl) <|
  mi_cI (mi_aload_n_ok (k := 1) (by decide +kernel) rfl rfl) <|
  mi_cI (mi_get_ok (by decide +kernel) fl_X5_86 rfl) <|
  mi_cI (mi_aload_n_ok (k := 1) (by decide +kernel) rfl rfl) <|
  mi_cI (mi_get_ok (by decide +kernel) fl_X5_92 rfl) <|
  mi_cI (mi_iload_n_ok (k := 2) (by decide +kernel) rfl rfl) <|
  mi_cC ⟨m_X3_at, rfl, okM_X3_at, 29, 1, by decide +kernel, Or.inl ⟨(by decide +kernel), rfl, (mi_gd3 82 rfl rfl), (mi_gd2 170 rfl rfl), (mi_gd2 171 rfl rfl), 3, _, _, rfl, rfl⟩⟩ <|
  mi_cC ⟨m_X5_writeName, rfl, okM_X5_writeName, 76, 2, by decide +kernel, Or.inl ⟨(by decide +kernel), rfl, (mi_gd3 109 rfl rfl), (mi_gd3 111 rfl rfl), (mi_gd0 27 rfl rfl), 5, _, _, rfl, rfl⟩⟩ <|
  mi_cI (mi_iconst_ok (n := 0) (by decide) (by decide +kernel) rfl) <|
  mi_cI (mi_istore_n_ok (k := 3) (by decide +kernel) rfl (by decide) rfl) <|
  mi_cI (mi_iload_n_ok (k := 3) (by decide +kernel) rfl rfl) <|
  mi_cI (mi_aload_n_ok (k := 1) (by decide +kernel) rfl rfl) <|
  mi_cI (mi_get_ok (by decide +kernel) fl_X5_80 rfl) <|
  mi_cI (mi_get_ok (by decide +kernel) fl_X5_25 rfl) <|
  mi_cI (mi_icmp_ge_ok (off := 37) (by decide +kernel) (by decide) rfl) <|
  mi_cI (mi_aload_n_ok (k := 0) (by decide +kernel) rfl rfl) <|
  mi_cI (mi_get_ok (by decide +kernel) fl_X5_9 rfl) <|
  mi_cI (mi_bipush_ok (n := 32) (by decide) (by decide +kernel) rfl) <|
  mi_cC ⟨m_X3_add, rfl, okM_X3_add, 47, 1, by decide +kernel, Or.inl ⟨(by decide +kernel), rfl, (mi_gd3 87 rfl rfl), (mi_gd2 53 rfl rfl), (mi_gd2 54 rfl rfl), 3, _, _, rfl, rfl⟩⟩ <|
  mi_cI (mi_aload_n_ok (k := 0) (by decide +kernel) rfl rfl) <|
  mi_cI (mi_aload_n_ok (k := 1) (by decide +kernel) rfl rfl) <|
  mi_cI (mi_aload_n_ok (k := 1) (by decide +kernel) rfl rfl) <|
  mi_cI (mi_iload_n_ok (k := 2) (by decide +kernel) rfl rfl) <|
  mi_cI (mi_iload_n_ok (k := 3) (by decide +kernel) rfl rfl) <|
  mi_cC ⟨m_X1_roomOf, rfl, okM_X1_roomOf, 95, 2, by decide +kernel, Or.inl ⟨(by decide +kernel), rfl, (mi_gd3 127 rfl rfl), (mi_gd2 237 rfl rfl), (mi_gd2 238 rfl rfl), 1, _, _, rfl, rfl⟩⟩ <|
  mi_cI (mi_aload_n_ok (k := 1) (by decide +kernel) rfl rfl) <|
  mi_cI (mi_get_ok (by decide +kernel) fl_X5_80 rfl) <|
  mi_cI (mi_iload_n_ok (k := 3) (by decide +kernel) rfl rfl) <|
  mi_cC ⟨m_X3_at, rfl, okM_X3_at, 29, 1, by decide +kernel, Or.inl ⟨(by decide +kernel), rfl, (mi_gd3 82 rfl rfl), (mi_gd2 170 rfl rfl), (mi_gd2 171 rfl rfl), 3, _, _, rfl, rfl⟩⟩ <|
  mi_cC ⟨m_X5_writeValue, rfl, okM_X5_writeValue, 98, 3, by decide +kernel, Or.inl ⟨(by decide +kernel), rfl, (mi_gd3 128 rfl rfl), (mi_gd3 130 rfl rfl), (mi_gd0 29 rfl rfl), 5, _, _, rfl, rfl⟩⟩ <|
  mi_cI (mi_inc_ok (by decide +kernel) (by decide) rfl) <|
  mi_cI (mi_goto_ok (off := (-42)) (by decide +kernel) (by decide)) <|
  mi_cR (Or.inl ⟨rfl, (by decide +kernel), rfl⟩) <| mi_cN
end MJ2
