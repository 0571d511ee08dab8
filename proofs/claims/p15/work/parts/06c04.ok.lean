section MJ4
set_option maxRecDepth 100000 in
set_option maxHeartbeats 4000000 in
theorem ok_X7_thrown : ∀ q ∈ t_X7_thrown, mi_OkE mi_ms RX7 cX7_thrown 1 false (some .int) q :=
  mi_cI (mi_aload_n_ok (k := 0) (by decide +kernel) rfl rfl) <|
  mi_cI (mi_get_ok (by decide +kernel) fl_X7_98 rfl) <|
  mi_cR (Or.inr (Or.inl ⟨rfl, (by decide +kernel), rfl⟩)) <| mi_cN
set_option maxRecDepth 100000 in
set_option maxHeartbeats 4000000 in
theorem ok_X7_in : ∀ q ∈ t_X7_in, mi_OkE mi_ms RX7 cX7_in 3 false (some .boolean) q :=
  mi_cI (mi_iload_n_ok (k := 0) (by decide +kernel) rfl rfl) <|
  mi_cI (mi_iload_n_ok (k := 1) (by decide +kernel) rfl rfl) <|
  mi_cI (mi_icmp_lt_ok (off := 12) (by decide +kernel) (by decide) rfl) <|
  mi_cI (mi_iload_n_ok (k := 0) (by decide +kernel) rfl rfl) <|
  mi_cI (mi_iload_n_ok (k := 2) (by decide +kernel) rfl rfl) <|
  mi_cI (mi_icmp_gt_ok (off := 7) (by decide +kernel) (by decide) rfl) <|
  mi_cI (mi_iconst_ok (n := 1) (by decide) (by decide +kernel) rfl) <|
  mi_cI (mi_goto_ok (off := 4) (by decide +kernel) (by decide)) <|
  mi_cI (mi_iconst_ok (n := 0) (by decide) (by decide +kernel) rfl) <|
  mi_cR (Or.inr (Or.inr (Or.inl ⟨rfl, (by decide +kernel), rfl⟩))) <| mi_cN
set_option maxRecDepth 100000 in
set_option maxHeartbeats 4000000 in
theorem ok_X7_feed : ∀ q ∈ t_X7_feed, mi_OkE mi_ms RX7 cX7_feed 5 false (some .int) q :=
  mi_cI (mi_aload_n_ok (k := 0) (by decide +kernel) rfl rfl) <|
  mi_cI (mi_iconst_ok (n := 0) (by decide) (by decide +kernel) rfl) <|
  mi_cI (mi_put_ok (by decide +kernel) fl_X7_98 rfl rfl) <|
  mi_cI (mi_iload_n_ok (k := 1) (by decide +kernel) rfl rfl) <|
  mi_cI (mi_iconst_ok (n := 1) (by decide) (by decide +kernel) rfl) <|
  mi_cI (mi_bipush_ok (n := 8) (by decide) (by decide +kernel) rfl) <|
  mi_cC ⟨m_X7_in, rfl, okM_X7_in, 101, 3, by decide +kernel, Or.inr (Or.inr ⟨(by decide +kernel), rfl, (mi_gd5 0 rfl rfl), Or.inl (mi_gd4 239 rfl rfl)⟩)⟩ <|
  mi_cI (mi_if_ne_ok (off := 6) (by decide +kernel) (by decide) rfl) <|
  mi_cI (mi_bipush_ok (n := (-102)) (by decide) (by decide +kernel) rfl) <|
  mi_cR (Or.inr (Or.inl ⟨rfl, (by decide +kernel), rfl⟩)) <|
  mi_cI (mi_aload_n_ok (k := 0) (by decide +kernel) rfl rfl) <|
  mi_cI (mi_get_ok (by decide +kernel) fl_X7_95 rfl) <|
  mi_cI (mi_iload_n_ok (k := 1) (by decide +kernel) rfl rfl) <|
  mi_cI (mi_iadd_ok (by decide +kernel) rfl) <|
  mi_cI (mi_sipush_ok (n := 600) (by decide) (by decide +kernel) rfl) <|
  mi_cI (mi_icmp_le_ok (off := 6) (by decide +kernel) (by decide) rfl) <|
  mi_cI (mi_bipush_ok (n := (-104)) (by decide) (by decide +kernel) rfl) <|
  mi_cR (Or.inr (Or.inl ⟨rfl, (by decide +kernel), rfl⟩)) <|
  mi_cI (mi_iload_n_ok (k := 1) (by decide +kernel) rfl rfl) <|
  mi_cI (mi_iconst_ok (n := 1) (by decide) (by decide +kernel) rfl) <|
  mi_cI (mi_isub_ok (by decide +kernel) rfl) <|
  mi_cI (mi_istore_ok (by decide +kernel) (by decide) rfl) <|
  mi_cI (mi_iload_ok (by decide +kernel) rfl) <|
  mi_cI (mi_if_lt_ok (off := 40) (by decide +kernel) (by decide) rfl) <|
  mi_cI (mi_aload_n_ok (k := 0) (by decide +kernel) rfl rfl) <|
  mi_cI (mi_get_ok (by decide +kernel) fl_X7_7 rfl) <|
  mi_cI (mi_aload_n_ok (k := 0) (by decide +kernel) rfl rfl) <|
  mi_cI (mi_get_ok (by decide +kernel) fl_X7_95 rfl) <|
  mi_cI (mi_lload_n_ok (k := 2) (by decide +kernel) rfl rfl) <|
  mi_cI (mi_bipush_ok (n := 8) (by decide) (by decide +kernel) rfl) <|
  mi_cI (mi_iload_ok (by decide +kernel) rfl) <|
  mi_cI (mi_imul_ok (by decide +kernel) rfl) <|
  mi_cI (mi_lshr_ok (by decide +kernel) rfl) <|
  mi_cI (mi_l2i_ok (by decide +kernel) rfl) <|
  mi_cI (mi_sipush_ok (n := 255) (by decide) (by decide +kernel) rfl) <|
  mi_cI (mi_iand_ok (by decide +kernel) rfl) <|
  mi_cI (mi_iast_ok (by decide +kernel) rfl) <|
  mi_cI (mi_aload_n_ok (k := 0) (by decide +kernel) rfl rfl) <|
  mi_cI (mi_dup_ok (by decide +kernel) rfl) <|
  mi_cI (mi_get_ok (by decide +kernel) fl_X7_95 rfl) <|
  mi_cI (mi_iconst_ok (n := 1) (by decide) (by decide +kernel) rfl) <|
  mi_cI (mi_iadd_ok (by decide +kernel) rfl) <|
  mi_cI (mi_put_ok (by decide +kernel) fl_X7_95 rfl rfl) <|
  mi_cI (mi_inc_ok (by decide +kernel) (by decide) rfl) <|
  mi_cI (mi_goto_ok (off := (-39)) (by decide +kernel) (by decide)) <|
  mi_cI (mi_aload_n_ok (k := 0) (by decide +kernel) rfl rfl) <|
  mi_cI (mi_get_ok (by decide +kernel) fl_X7_95 rfl) <|
  mi_cR (Or.inr (Or.inl ⟨rfl, (by decide +kernel), rfl⟩)) <| mi_cN
set_option maxRecDepth 100000 in
set_option maxHeartbeats 4000000 in
theorem ok_X7_here : ∀ q ∈ t_X7_here, mi_OkE mi_ms RX7 cX7_here 1 false (some .int) q :=
  mi_cI (mi_aload_n_ok (k := 0) (by decide +kernel) rfl rfl) <|
  mi_cI (mi_get_ok (by decide +kernel) fl_X7_105 rfl) <|
  mi_cI (mi_aload_n_ok (k := 0) (by decide +kernel) rfl rfl) <|
  mi_cI (mi_get_ok (by decide +kernel) fl_X7_95 rfl) <|
  mi_cI (mi_icmp_ge_ok (off := 29) (by decide +kernel) (by decide) rfl) <|
  mi_cI (mi_aload_n_ok (k := 0) (by decide +kernel) rfl rfl) <|
  mi_cI (mi_get_ok (by decide +kernel) fl_X7_7 rfl) <|
  mi_cI (mi_aload_n_ok (k := 0) (by decide +kernel) rfl rfl) <|
  mi_cI (mi_get_ok (by decide +kernel) fl_X7_105 rfl) <|
  mi_cI (mi_iald_ok (by decide +kernel) rfl) <|
  mi_cI (mi_bipush_ok (n := 10) (by decide) (by decide +kernel) rfl) <|
  mi_cI (mi_icmp_eq_ok (off := 15) (by decide +kernel) (by decide) rfl) <|
  mi_cI (mi_aload_n_ok (k := 0) (by decide +kernel) rfl rfl) <|
  mi_cI (mi_get_ok (by decide +kernel) fl_X7_7 rfl) <|
  mi_cI (mi_aload_n_ok (k := 0) (by decide +kernel) rfl rfl) <|
  mi_cI (mi_get_ok (by decide +kernel) fl_X7_105 rfl) <|
  mi_cI (mi_iald_ok (by decide +kernel) rfl) <|
  mi_cI (mi_goto_ok (off := 4) (by decide +kernel) (by decide)) <|
  mi_cI (mi_iconst_ok (n := (-1)) (by decide) (by decide +kernel) rfl) <|
  mi_cR (Or.inr (Or.inl ⟨rfl, (by decide +kernel), rfl⟩)) <| mi_cN
set_option maxRecDepth 100000 in
set_option maxHeartbeats 4000000 in
theorem ok_X7_wrong : ∀ q ∈ t_X7_wrong, mi_OkE mi_ms RX7 cX7_wrong 3 false none q :=
  mi_cI (mi_aload_n_ok (k := 0) (by decide +kernel) rfl rfl) <|
  mi_cI (mi_get_ok (by decide +kernel) fl_X7_108 rfl) <|
  mi_cI (mi_if_ne_ok (off := 13) (by decide +kernel) (by decide) rfl) <|
  mi_cI (mi_aload_n_ok (k := 0) (by decide +kernel) rfl rfl) <|
  mi_cI (mi_iload_n_ok (k := 1) (by decide +kernel) rfl rfl) <|
  mi_cI (mi_put_ok (by decide +kernel) fl_X7_108 rfl rfl) <|
  mi_cI (mi_aload_n_ok (k := 0) (by decide +kernel) rfl rfl) <|
  mi_cI (mi_iload_n_ok (k := 2) (by decide +kernel) rfl rfl) <|
  mi_cI (mi_put_ok (by decide +kernel) fl_X7_111 rfl rfl) <|
  mi_cR (Or.inl ⟨rfl, (by decide +kernel), rfl⟩) <| mi_cN
set_option maxRecDepth 100000 in
set_option maxHeartbeats 4000000 in
theorem ok_X7_isFigure : ∀ q ∈ t_X7_isFigure, mi_OkE mi_ms RX7 cX7_isFigure 1 false (some .boolean) q :=
  mi_cI (mi_iload_n_ok (k := 0) (by decide +kernel) rfl rfl) <|
  mi_cI (mi_bipush_ok (n := 48) (by decide) (by decide +kernel) rfl) <|
  mi_cI (mi_bipush_ok (n := 57) (by decide) (by decide +kernel) rfl) <|
  mi_cC ⟨m_X7_in, rfl, okM_X7_in, 101, 3, by decide +kernel, Or.inr (Or.inr ⟨(by decide +kernel), rfl, (mi_gd5 0 rfl rfl), Or.inl (mi_gd4 239 rfl rfl)⟩)⟩ <|
  mi_cR (Or.inr (Or.inr (Or.inl ⟨rfl, (by decide +kernel), rfl⟩))) <| mi_cN
set_option maxRecDepth 100000 in
set_option maxHeartbeats 4000000 in
theorem ok_X7_isPlain : ∀ q ∈ t_X7_isPlain, mi_OkE mi_ms RX7 cX7_isPlain 1 false (some .boolean) q :=
  mi_cI (mi_iload_n_ok (k := 0) (by decide +kernel) rfl rfl) <|
  mi_cC ⟨m_X7_isFigure, rfl, okM_X7_isFigure, 114, 1, by decide +kernel, Or.inr (Or.inr ⟨(by decide +kernel), rfl, (mi_gd5 39 rfl rfl), Or.inl (mi_gd5 38 rfl rfl)⟩)⟩ <|
  mi_cI (mi_if_ne_ok (off := 20) (by decide +kernel) (by decide) rfl) <|
  mi_cI (mi_iload_n_ok (k := 0) (by decide +kernel) rfl rfl) <|
  mi_cI (mi_bipush_ok (n := 97) (by decide) (by decide +kernel) rfl) <|
  mi_cI (mi_bipush_ok (n := 122) (by decide) (by decide +kernel) rfl) <|
  mi_cC ⟨m_X7_in, rfl, okM_X7_in, 101, 3, by decide +kernel, Or.inr (Or.inr ⟨(by decide +kernel), rfl, (mi_gd5 0 rfl rfl), Or.inl (mi_gd4 239 rfl rfl)⟩)⟩ <|
  mi_cI (mi_if_ne_ok (off := 9) (by decide +kernel) (by decide) rfl) <|
  mi_cI (mi_iload_n_ok (k := 0) (by decide +kernel) rfl rfl) <|
  mi_cI (mi_bipush_ok (n := 95) (by decide) (by decide +kernel) rfl) <|
  mi_cI (mi_icmp_ne_ok (off := 7) (by decide +kernel) (by decide) rfl) <|
  mi_cI (mi_iconst_ok (n := 1) (by decide) (by decide +kernel) rfl) <|
  mi_cI (mi_goto_ok (off := 4) (by decide +kernel) (by decide)) <|
  mi_cI (mi_iconst_ok (n := 0) (by decide) (by decide +kernel) rfl) <|
  mi_cR (Or.inr (Or.inr (Or.inl ⟨rfl, (by decide +kernel), rfl⟩))) <| mi_cN
set_option maxRecDepth 100000 in
set_option maxHeartbeats 4000000 in
theorem ok_X7_blanks : ∀ q ∈ t_X7_blanks, mi_OkE mi_ms RX7 cX7_blanks 1 false none q :=
  mi_cI (mi_aload_n_ok (k := 0) (by decide +kernel) rfl rfl) <|
  mi_cC ⟨m_X7_here, rfl, okM_X7_here, 118, 0, by decide +kernel, Or.inl ⟨(by decide +kernel), rfl, (mi_gd5 14 rfl rfl), (mi_gd5 16 rfl rfl), (mi_gd0 35 rfl rfl), 7, _, _, rfl, rfl⟩⟩ <|
  mi_cI (mi_bipush_ok (n := 32) (by decide) (by decide +kernel) rfl) <|
  mi_cI (mi_icmp_ne_ok (off := 16) (by decide +kernel) (by decide) rfl) <|
  mi_cI (mi_aload_n_ok (k := 0) (by decide +kernel) rfl rfl) <|
  mi_cI (mi_dup_ok (by decide +kernel) rfl) <|
  mi_cI (mi_get_ok (by decide +kernel) fl_X7_105 rfl) <|
  mi_cI (mi_iconst_ok (n := 1) (by decide) (by decide +kernel) rfl) <|
  mi_cI (mi_iadd_ok (by decide +kernel) rfl) <|
  mi_cI (mi_put_ok (by decide +kernel) fl_X7_105 rfl rfl) <|
  mi_cI (mi_goto_ok (off := (-19)) (by decide +kernel) (by decide)) <|
  mi_cR (Or.inl ⟨rfl, (by decide +kernel), rfl⟩) <| mi_cN
set_option maxRecDepth 100000 in
set_option maxHeartbeats 4000000 in
theorem ok_X7_ended : ∀ q ∈ t_X7_ended, mi_OkE mi_ms RX7 cX7_ended 1 false none q :=
  mi_cI (mi_aload_n_ok (k := 0) (by decide +kernel) rfl rfl) <|
  mi_cI (mi_get_ok (by decide +kernel) fl_X7_108 rfl) <|
  mi_cI (mi_if_ne_ok (off := 29) (by decide +kernel) (by decide) rfl) <|
  mi_cI (mi_aload_n_ok (k := 0) (by decide +kernel) rfl rfl) <|
  mi_cC ⟨m_X7_here, rfl, okM_X7_here, 118, 0, by decide +kernel, Or.inl ⟨(by decide +kernel), rfl, (mi_gd5 14 rfl rfl), (mi_gd5 16 rfl rfl), (mi_gd0 35 rfl rfl), 7, _, _, rfl, rfl⟩⟩ <|
  mi_cI (mi_bipush_ok (n := 32) (by decide) (by decide +kernel) rfl) <|
  mi_cI (mi_icmp_eq_ok (off := 20) (by decide +kernel) (by decide) rfl) <|
  mi_cI (mi_aload_n_ok (k := 0) (by decide +kernel) rfl rfl) <|
  mi_cC ⟨m_X7_here, rfl, okM_X7_here, 118, 0, by decide +kernel, Or.inl ⟨(by decide +kernel), rfl, (mi_gd5 14 rfl rfl), (mi_gd5 16 rfl rfl), (mi_gd0 35 rfl rfl), 7, _, _, rfl, rfl⟩⟩ <|
  mi_cI (mi_iconst_ok (n := (-1)) (by decide) (by decide +kernel) rfl) <|
  mi_cI (mi_icmp_eq_ok (off := 12) (by decide +kernel) (by decide) rfl) <|
  mi_cI (mi_aload_n_ok (k := 0) (by decide +kernel) rfl rfl) <|
  mi_cI (mi_iconst_ok (n := 1) (by decide) (by decide +kernel) rfl) <|
  mi_cI (mi_aload_n_ok (k := 0) (by decide +kernel) rfl rfl) <|
  mi_cI (mi_get_ok (by decide +kernel) fl_X7_105 rfl) <|
  mi_cC ⟨m_X7_wrong, rfl, okM_X7_wrong, 122, 2, by decide +kernel, Or.inl ⟨(by decide +kernel), rfl, (mi_gd5 22 rfl rfl), (mi_gd5 24 rfl rfl), (mi_gd0 37 rfl rfl), 7, _, _, rfl, rfl⟩⟩ <|
  mi_cR (Or.inl ⟨rfl, (by decide +kernel), rfl⟩) <| mi_cN
set_option maxRecDepth 100000 in
set_option maxHeartbeats 4000000 in
theorem ok_X7_sign : ∀ q ∈ t_X7_sign, mi_OkE mi_ms RX7 cX7_sign 3 false none q :=
  mi_cI (mi_aload_n_ok (k := 0) (by decide +kernel) rfl rfl) <|
  mi_cI (mi_get_ok (by decide +kernel) fl_X7_77 rfl) <|
  mi_cI (mi_iconst_ok (n := 0) (by decide) (by decide +kernel) rfl) <|
  mi_cI (mi_iald_ok (by decide +kernel) rfl) <|
  mi_cI (mi_bipush_ok (n := 8) (by decide) (by decide +kernel) rfl) <|
  mi_cI (mi_icmp_ne_ok (off := 12) (by decide +kernel) (by decide) rfl) <|
  mi_cI (mi_aload_n_ok (k := 0) (by decide +kernel) rfl rfl) <|
  mi_cI (mi_iconst_ok (n := 2) (by decide) (by decide +kernel) rfl) <|
  mi_cI (mi_iload_n_ok (k := 2) (by decide +kernel) rfl rfl) <|
  mi_cC ⟨m_X7_wrong, rfl, okM_X7_wrong, 122, 2, by decide +kernel, Or.inl ⟨(by decide +kernel), rfl, (mi_gd5 22 rfl rfl), (mi_gd5 24 rfl rfl), (mi_gd0 37 rfl rfl), 7, _, _, rfl, rfl⟩⟩ <|
  mi_cI (mi_goto_ok (off := 25) (by decide +kernel) (by decide)) <|
  mi_cI (mi_aload_n_ok (k := 0) (by decide +kernel) rfl rfl) <|
  mi_cI (mi_get_ok (by decide +kernel) fl_X7_77 rfl) <|
  mi_cI (mi_iconst_ok (n := 0) (by decide) (by decide +kernel) rfl) <|
  mi_cI (mi_dup2_ok (by decide +kernel) rfl) <|
  mi_cI (mi_iald_ok (by decide +kernel) rfl) <|
  mi_cI (mi_iconst_ok (n := 1) (by decide) (by decide +kernel) rfl) <|
  mi_cI (mi_iadd_ok (by decide +kernel) rfl) <|
  mi_cI (mi_iast_ok (by decide +kernel) rfl) <|
  mi_cI (mi_aload_n_ok (k := 0) (by decide +kernel) rfl rfl) <|
  mi_cI (mi_get_ok (by decide +kernel) fl_X7_77 rfl) <|
  mi_cI (mi_aload_n_ok (k := 0) (by decide +kernel) rfl rfl) <|
  mi_cI (mi_get_ok (by decide +kernel) fl_X7_77 rfl) <|
  mi_cI (mi_iconst_ok (n := 0) (by decide) (by decide +kernel) rfl) <|
  mi_cI (mi_iald_ok (by decide +kernel) rfl) <|
  mi_cI (mi_iload_n_ok (k := 1) (by decide +kernel) rfl rfl) <|
  mi_cI (mi_iast_ok (by decide +kernel) rfl) <|
  mi_cR (Or.inl ⟨rfl, (by decide +kernel), rfl⟩) <| mi_cN
set_option maxRecDepth 100000 in
set_option maxHeartbeats 4000000 in
theorem ok_X7_readName : ∀ q ∈ t_X7_readName, mi_OkE mi_ms RX7 cX7_readName 1 false none q :=
  mi_cI (mi_aload_n_ok (k := 0) (by decide +kernel) rfl rfl) <|
  mi_cI (mi_get_ok (by decide +kernel) fl_X7_77 rfl) <|
  mi_cI (mi_iconst_ok (n := 0) (by decide) (by decide +kernel) rfl) <|
  mi_cI (mi_iconst_ok (n := 0) (by decide) (by decide +kernel) rfl) <|
  mi_cI (mi_iast_ok (by decide +kernel) rfl) <|
  mi_cI (mi_aload_n_ok (k := 0) (by decide +kernel) rfl rfl) <|
  mi_cC ⟨m_X7_here, rfl, okM_X7_here, 118, 0, by decide +kernel, Or.inl ⟨(by decide +kernel), rfl, (mi_gd5 14 rfl rfl), (mi_gd5 16 rfl rfl), (mi_gd0 35 rfl rfl), 7, _, _, rfl, rfl⟩⟩ <|
  mi_cI (mi_bipush_ok (n := 34) (by decide) (by decide +kernel) rfl) <|
  mi_cI (mi_icmp_ne_ok (off := 20) (by decide +kernel) (by decide) rfl) <|
  mi_cI (mi_aload_n_ok (k := 0) (by decide +kernel) rfl rfl) <|
  mi_cI (mi_dup_ok (by decide +kernel) rfl) <|
  mi_cI (mi_get_ok (by decide +kernel) fl_X7_105 rfl) <|
  mi_cI (mi_iconst_ok (n := 1) (by decide) (by decide +kernel) rfl) <|
  mi_cI (mi_iadd_ok (by decide +kernel) rfl) <|
  mi_cI (mi_put_ok (by decide +kernel) fl_X7_105 rfl rfl) <|
  mi_cI (mi_aload_n_ok (k := 0) (by decide +kernel) rfl rfl) <|
  mi_cC ⟨m_X7_readQuoted, rfl, okM_X7_readQuoted, 126, 0, by decide +kernel, Or.inl ⟨(by decide +kernel), rfl, (mi_gd5 49 rfl rfl), (mi_gd5 51 rfl rfl), (mi_gd0 43 rfl rfl), 7, _, _, rfl, rfl⟩⟩ <|
  mi_cI (mi_goto_ok (off := 67) (by decide +kernel) (by decide)) <|
  mi_cI (mi_aload_n_ok (k := 0) (by decide +kernel) rfl rfl) <|
  mi_cC ⟨m_X7_here, rfl, okM_X7_here, 118, 0, by decide +kernel, Or.inl ⟨(by decide +kernel), rfl, (mi_gd5 14 rfl rfl), (mi_gd5 16 rfl rfl), (mi_gd0 35 rfl rfl), 7, _, _, rfl, rfl⟩⟩ <|
  mi_cC ⟨m_X7_isPlain, rfl, okM_X7_isPlain, 129, 1, by decide +kernel, Or.inr (Or.inr ⟨(by decide +kernel), rfl, (mi_gd5 58 rfl rfl), Or.inl (mi_gd5 57 rfl rfl)⟩)⟩ <|
  mi_cI (mi_if_ne_ok (off := 15) (by decide +kernel) (by decide) rfl) <|
  mi_cI (mi_aload_n_ok (k := 0) (by decide +kernel) rfl rfl) <|
  mi_cI (mi_iconst_ok (n := 1) (by decide) (by decide +kernel) rfl) <|
  mi_cI (mi_aload_n_ok (k := 0) (by decide +kernel) rfl rfl) <|
  mi_cI (mi_get_ok (by decide +kernel) fl_X7_105 rfl) <|
  mi_cC ⟨m_X7_wrong, rfl, okM_X7_wrong, 122, 2, by decide +kernel, Or.inl ⟨(by decide +kernel), rfl, (mi_gd5 22 rfl rfl), (mi_gd5 24 rfl rfl), (mi_gd0 37 rfl rfl), 7, _, _, rfl, rfl⟩⟩ <|
  mi_cI (mi_goto_ok (off := 45) (by decide +kernel) (by decide)) <|
  mi_cI (mi_aload_n_ok (k := 0) (by decide +kernel) rfl rfl) <|
  mi_cI (mi_get_ok (by decide +kernel) fl_X7_108 rfl) <|
  mi_cI (mi_if_ne_ok (off := 38) (by decide +kernel) (by decide) rfl) <|
  mi_cI (mi_aload_n_ok (k := 0) (by decide +kernel) rfl rfl) <|
  mi_cC ⟨m_X7_here, rfl, okM_X7_here, 118, 0, by decide +kernel, Or.inl ⟨(by decide +kernel), rfl, (mi_gd5 14 rfl rfl), (mi_gd5 16 rfl rfl), (mi_gd0 35 rfl rfl), 7, _, _, rfl, rfl⟩⟩ <|
  mi_cC ⟨m_X7_isPlain, rfl, okM_X7_isPlain, 129, 1, by decide +kernel, Or.inr (Or.inr ⟨(by decide +kernel), rfl, (mi_gd5 58 rfl rfl), Or.inl (mi_gd5 57 rfl rfl)⟩)⟩ <|
  mi_cI (mi_if_eq_ok (off := 28) (by decide +kernel) (by decide) rfl) <|
  mi_cI (mi_aload_n_ok (k := 0) (by decide +kernel) rfl rfl) <|
  mi_cI (mi_aload_n_ok (k := 0) (by decide +kernel) rfl rfl) <|
  mi_cC ⟨m_X7_here, rfl, okM_X7_here, 118, 0, by decide +kernel, Or.inl ⟨(by decide +kernel), rfl, (mi_gd5 14 rfl rfl), (mi_gd5 16 rfl rfl), (mi_gd0 35 rfl rfl), 7, _, _, rfl, rfl⟩⟩ <|
  mi_cI (mi_aload_n_ok (k := 0) (by decide +kernel) rfl rfl) <|
  mi_cI (mi_get_ok (by decide +kernel) fl_X7_105 rfl) <|
  mi_cC ⟨m_X7_sign, rfl, okM_X7_sign, 132, 2, by decide +kernel, Or.inl ⟨(by decide +kernel), rfl, (mi_gd5 53 rfl rfl), (mi_gd5 55 rfl rfl), (mi_gd0 44 rfl rfl), 7, _, _, rfl, rfl⟩⟩ <|
  mi_cI (mi_aload_n_ok (k := 0) (by decide +kernel) rfl rfl) <|
  mi_cI (mi_dup_ok (by decide +kernel) rfl) <|
  mi_cI (mi_get_ok (by decide +kernel) fl_X7_105 rfl) <|
  mi_cI (mi_iconst_ok (n := 1) (by decide) (by decide +kernel) rfl) <|
  mi_cI (mi_iadd_ok (by decide +kernel) rfl) <|
  mi_cI (mi_put_ok (by decide +kernel) fl_X7_105 rfl rfl) <|
  mi_cI (mi_goto_ok (off := (-39)) (by decide +kernel) (by decide)) <|
  mi_cI (mi_aload_n_ok (k := 0) (by decide +kernel) rfl rfl) <|
  mi_cC ⟨m_X7_ended, rfl, okM_X7_ended, 135, 0, by decide +kernel, Or.inl ⟨(by decide +kernel), rfl, (mi_gd5 34 rfl rfl), (mi_gd5 36 rfl rfl), (mi_gd0 40 rfl rfl), 7, _, _, rfl, rfl⟩⟩ <|
  mi_cR (Or.inl ⟨rfl, (by decide +kernel), rfl⟩) <| mi_cN
set_option maxRecDepth 100000 in
set_option maxHeartbeats 4000000 in
theorem ok_X7_readQuoted : ∀ q ∈ t_X7_readQuoted, mi_OkE mi_ms RX7 cX7_readQuoted 3 false none q :=
  mi_cI (mi_iconst_ok (n := 1) (by decide) (by decide +kernel) rfl) <|
  mi_cI (mi_istore_n_ok (k := 1) (by decide +kernel) rfl (by decide) rfl) <|
  mi_cI (mi_iload_n_ok (k := 1) (by decide +kernel) rfl rfl) <|
  mi_cI (mi_if_eq_ok (off := 170) (by decide +kernel) (by decide) rfl) <|
  mi_cI (mi_aload_n_ok (k := 0) (by decide +kernel) rfl rfl) <|
  mi_cI (mi_get_ok (by decide +kernel) fl_X7_108 rfl) <|
  mi_cI (mi_if_ne_ok (off := 163) (by decide +kernel) (by decide) rfl) <|
  mi_cI (mi_aload_n_ok (k := 0) (by decide +kernel) rfl rfl) <|
  mi_cC ⟨m_X7_here, rfl, okM_X7_here, 118, 0, by decide +kernel, Or.inl ⟨(by decide +kernel), rfl, (mi_gd5 14 rfl rfl), (mi_gd5 16 rfl rfl), (mi_gd0 35 rfl rfl), 7, _, _, rfl, rfl⟩⟩ <|
  mi_cI (mi_istore_n_ok (k := 2) (by decide +kernel) rfl (by decide) rfl) <|
  mi_cI (mi_iload_n_ok (k := 2) (by decide +kernel) rfl rfl) <|
  mi_cI (mi_bipush_ok (n := 32) (by decide) (by decide +kernel) rfl) <|
  mi_cI (mi_bipush_ok (n := 126) (by decide) (by decide +kernel) rfl) <|
  mi_cC ⟨m_X7_in, rfl, okM_X7_in, 101, 3, by decide +kernel, Or.inr (Or.inr ⟨(by decide +kernel), rfl, (mi_gd5 0 rfl rfl), Or.inl (mi_gd4 239 rfl rfl)⟩)⟩ <|
  mi_cI (mi_if_eq_ok (off := 18) (by decide +kernel) (by decide) rfl) <|
  mi_cI (mi_iload_n_ok (k := 2) (by decide +kernel) rfl rfl) <|
  mi_cI (mi_bipush_ok (n := 34) (by decide) (by decide +kernel) rfl) <|
  mi_cI (mi_icmp_ne_ok (off := 24) (by decide +kernel) (by decide) rfl) <|
  mi_cI (mi_aload_n_ok (k := 0) (by decide +kernel) rfl rfl) <|
  mi_cI (mi_get_ok (by decide +kernel) fl_X7_77 rfl) <|
  mi_cI (mi_iconst_ok (n := 0) (by decide) (by decide +kernel) rfl) <|
  mi_cI (mi_iald_ok (by decide +kernel) rfl) <|
  mi_cI (mi_if_ne_ok (off := 15) (by decide +kernel) (by decide) rfl) <|
  mi_cI (mi_aload_n_ok (k := 0) (by decide +kernel) rfl rfl) <|
  mi_cI (mi_iconst_ok (n := 1) (by decide) (by decide +kernel) rfl) <|
  mi_cI (mi_aload_n_ok (k := 0) (by decide +kernel) rfl rfl) <|
  mi_cI (mi_get_ok (by decide +kernel) fl_X7_105 rfl) <|
  mi_cC ⟨m_X7_wrong, rfl, okM_X7_wrong, 122, 2, by decide +kernel, Or.inl ⟨(by decide +kernel), rfl, (mi_gd5 22 rfl rfl), (mi_gd5 24 rfl rfl), (mi_gd0 37 rfl rfl), 7, _, _, rfl, rfl⟩⟩ <|
  mi_cI (mi_goto_ok (off := 107) (by decide +kernel) (by decide)) <|
  mi_cI (mi_iload_n_ok (k := 2) (by decide +kernel) rfl rfl) <|
  mi_cI (mi_bipush_ok (n := 34) (by decide) (by decide +kernel) rfl) <|
  mi_cI (mi_icmp_ne_ok (off := 8) (by decide +kernel) (by decide) rfl) <|
  mi_cI (mi_iconst_ok (n := 0) (by decide) (by decide +kernel) rfl) <|
  mi_cI (mi_istore_n_ok (k := 1) (by decide +kernel) rfl (by decide) rfl) <|
  mi_cI (mi_goto_ok (off := 96) (by decide +kernel) (by decide)) <|
  mi_cI (mi_aload_n_ok (k := 0) (by decide +kernel) rfl rfl) <|
  mi_cI (mi_get_ok (by decide +kernel) fl_X7_77 rfl) <|
  mi_cI (mi_iconst_ok (n := 0) (by decide) (by decide +kernel) rfl) <|
  mi_cI (mi_iald_ok (by decide +kernel) rfl) <|
  mi_cI (mi_bipush_ok (n := 8) (by decide) (by decide +kernel) rfl) <|
  mi_cI (mi_icmp_ne_ok (off := 15) (by decide +kernel) (by decide) rfl) <|
  mi_cI (mi_aload_n_ok (k := 0) (by decide +kernel) rfl rfl) <|
  mi_cI (mi_iconst_ok (n := 2) (by decide) (by decide +kernel) rfl) <|
  mi_cI (mi_aload_n_ok (k := 0) (by decide +kernel) rfl rfl) <|
  mi_cI (mi_get_ok (by decide +kernel) fl_X7_105 rfl) <|
  mi_cC ⟨m_X7_wrong, rfl, okM_X7_wrong, 122, 2, by decide +kernel, Or.inl ⟨(by decide +kernel), rfl, (mi_gd5 22 rfl rfl), (mi_gd5 24 rfl rfl), (mi_gd0 37 rfl rfl), 7, _, _, rfl, rfl⟩⟩ <|
  mi_cI (mi_goto_ok (off := 73) (by decide +kernel) (by decide)) <|
  mi_cI (mi_iload_n_ok (k := 2) (by decide +kernel) rfl rfl) <|
  mi_cI (mi_bipush_ok (n := 92) (by decide) (by decide +kernel) rfl) <|
  mi_cI (mi_icmp_ne_ok (off := 58) (by decide +kernel) (by decide) rfl) <|
  mi_cI (mi_aload_n_ok (k := 0) (by decide +kernel) rfl rfl) <|
  mi_cI (mi_dup_ok (by decide +kernel) rfl) <|
  mi_cI (mi_get_ok (by decide +kernel) fl_X7_105 rfl) <|
  mi_cI (mi_iconst_ok (n := 1) (by decide) (by decide +kernel) rfl) <|
  mi_cI (mi_iadd_ok (by decide +kernel) rfl) <|
  mi_cI (mi_put_ok (by decide +kernel) fl_X7_105 rfl rfl) <|
  mi_cI (mi_aload_n_ok (k := 0) (by decide +kernel) rfl rfl) <|
  mi_cC ⟨m_X7_here, rfl, okM_X7_here, 118, 0, by decide +kernel, Or.inl ⟨(by decide +kernel), rfl, (mi_gd5 14 rfl rfl), (mi_gd5 16 rfl rfl), (mi_gd0 35 rfl rfl), 7, _, _, rfl, rfl⟩⟩ <|
  mi_cI (mi_bipush_ok (n := 34) (by decide) (by decide +kernel) rfl) <|
  mi_cI (mi_icmp_eq_ok (off := 12) (by decide +kernel) (by decide) rfl) <|
  mi_cI (mi_aload_n_ok (k := 0) (by decide +kernel) rfl rfl) <|
  mi_cC ⟨m_X7_here, rfl, okM_X7_here, 118, 0, by decide +kernel, Or.inl ⟨(by decide +kernel), rfl, (mi_gd5 14 rfl rfl), (mi_gd5 16 rfl rfl), (mi_gd0 35 rfl rfl), 7, _, _, rfl, rfl⟩⟩ <|
  mi_cI (mi_bipush_ok (n := 92) (by decide) (by decide +kernel) rfl) <|
  mi_cI (mi_icmp_ne_ok (off := 18) (by decide +kernel) (by decide) rfl) <|
  mi_cI (mi_aload_n_ok (k := 0) (by decide +kernel) rfl rfl) <|
  mi_cI (mi_aload_n_ok (k := 0) (by decide +kernel) rfl rfl) <|
  mi_cC ⟨m_X7_here, rfl, okM_X7_here, 118, 0, by decide +kernel, Or.inl ⟨(by decide +kernel), rfl, (mi_gd5 14 rfl rfl), (mi_gd5 16 rfl rfl), (mi_gd0 35 rfl rfl), 7, _, _, rfl, rfl⟩⟩ <|
  mi_cI (mi_aload_n_ok (k := 0) (by decide +kernel) rfl rfl) <|
  mi_cI (mi_get_ok (by decide +kernel) fl_X7_105 rfl) <|
  mi_cC ⟨m_X7_sign, rfl, okM_X7_sign, 132, 2, by decide +kernel, Or.inl ⟨(by decide +kernel), rfl, (mi_gd5 53 rfl rfl), (mi_gd5 55 rfl rfl), (mi_gd0 44 rfl rfl), 7, _, _, rfl, rfl⟩⟩ <|
  mi_cI (mi_goto_ok (off := 24) (by decide +kernel) (by decide)) <|
  mi_cI (mi_aload_n_ok (k := 0) (by decide +kernel) rfl rfl) <|
  mi_cI (mi_iconst_ok (n := 1) (by decide) (by decide +kernel) rfl) <|
  mi_cI (mi_aload_n_ok (k := 0) (by decide +kernel) rfl rfl) <|
  mi_cI (mi_get_ok (by decide +kernel) fl_X7_105 rfl) <|
  mi_cC ⟨m_X7_wrong, rfl, okM_X7_wrong, 122, 2, by decide +kernel, Or.inl ⟨(by decide +kernel), rfl, (mi_gd5 22 rfl rfl), (mi_gd5 24 rfl rfl), (mi_gd0 37 rfl rfl), 7, _, _, rfl, rfl⟩⟩ <|
  mi_cI (mi_goto_ok (off := 12) (by decide +kernel) (by decide)) <|
  mi_cI (mi_aload_n_ok (k := 0) (by decide +kernel) rfl rfl) <|
  mi_cI (mi_iload_n_ok (k := 2) (by decide +kernel) rfl rfl) <|
  mi_cI (mi_aload_n_ok (k := 0) (by decide +kernel) rfl rfl) <|
  mi_cI (mi_get_ok (by decide +kernel) fl_X7_105 rfl) <|
  mi_cC ⟨m_X7_sign, rfl, okM_X7_sign, 132, 2, by decide +kernel, Or.inl ⟨(by decide +kernel), rfl, (mi_gd5 53 rfl rfl), (mi_gd5 55 rfl rfl), (mi_gd0 44 rfl rfl), 7, _, _, rfl, rfl⟩⟩ <|
  mi_cI (mi_aload_n_ok (k := 0) (by decide +kernel) rfl rfl) <|
  mi_cI (mi_dup_ok (by decide +kernel) rfl) <|
  mi_cI (mi_get_ok (by decide +kernel) fl_X7_105 rfl) <|
  mi_cI (mi_iconst_ok (n := 1) (by decide) (by decide +kernel) rfl) <|
  mi_cI (mi_iadd_ok (by decide +kernel) rfl) <|
  mi_cI (mi_put_ok (by decide +kernel) fl_X7_105 rfl rfl) <|
  mi_cI (mi_goto_ok (off := (-168)) (by decide +kernel) (by decide)) <|
  mi_cR (Or.inl ⟨rfl, (by decide +kernel), rfl⟩) <| mi_cN
set_option maxRecDepth 100000 in
set_option maxHeartbeats 4000000 in
theorem ok_X7_readNumber : ∀ q ∈ t_X7_readNumber, mi_OkE mi_ms RX7 cX7_readNumber 6 false none q :=
  mi_cI (mi_aload_n_ok (k := 0) (by decide +kernel) rfl rfl) <|
  mi_cC ⟨m_X7_here, rfl, okM_X7_here, 118, 0, by decide +kernel, Or.inl ⟨(by decide +kernel), rfl, (mi_gd5 14 rfl rfl), (mi_gd5 16 rfl rfl), (mi_gd0 35 rfl rfl), 7, _, _, rfl, rfl⟩⟩ <|
  mi_cI (mi_bipush_ok (n := 45) (by decide) (by decide +kernel) rfl) <|
  mi_cI (mi_icmp_ne_ok (off := 7) (by decide +kernel) (by decide) rfl) <|
  mi_cI (mi_iconst_ok (n := 1) (by decide) (by decide +kernel) rfl) <|
  mi_cI (mi_goto_ok (off := 4) (by decide +kernel) (by decide)) <|
  mi_cI (mi_iconst_ok (n := 0) (by decide) (by decide +kernel) rfl) <|
  mi_cI (mi_istore_n_ok (k := 2) (by decide +kernel) rfl (by decide) rfl) <|
  mi_cI (mi_iload_n_ok (k := 2) (by decide +kernel) rfl rfl) <|
  mi_cI (mi_if_eq_ok (off := 23) (by decide +kernel) (by decide) rfl) <|
  mi_cI (mi_aload_n_ok (k := 0) (by decide +kernel) rfl rfl) <|
  mi_cI (mi_bipush_ok (n := 45) (by decide) (by decide +kernel) rfl) <|
  mi_cI (mi_aload_n_ok (k := 0) (by decide +kernel) rfl rfl) <|
  mi_cI (mi_get_ok (by decide +kernel) fl_X7_105 rfl) <|
  mi_cC ⟨m_X7_sign, rfl, okM_X7_sign, 132, 2, by decide +kernel, Or.inl ⟨(by decide +kernel), rfl, (mi_gd5 53 rfl rfl), (mi_gd5 55 rfl rfl), (mi_gd0 44 rfl rfl), 7, _, _, rfl, rfl⟩⟩ <|
  mi_cI (mi_aload_n_ok (k := 0) (by decide +kernel) rfl rfl) <|
  mi_cI (mi_dup_ok (by decide +kernel) rfl) <|
  mi_cI (mi_get_ok (by decide +kernel) fl_X7_105 rfl) <|
  mi_cI (mi_iconst_ok (n := 1) (by decide) (by decide +kernel) rfl) <|
  mi_cI (mi_iadd_ok (by decide +kernel) rfl) <|
  mi_cI (mi_put_ok (by decide +kernel) fl_X7_105 rfl rfl) <|
  mi_cI (mi_aload_n_ok (k := 0) (by decide +kernel) rfl rfl) <|
  mi_cI (mi_get_ok (by decide +kernel) fl_X7_105 rfl) <|
  mi_cI (mi_istore_n_ok (k := 3) (by decide +kernel) rfl (by decide) rfl) <|
  mi_cI (mi_iconst_ok (n := 0) (by decide) (by decide +kernel) rfl) <|
  mi_cI (mi_istore_ok (by decide +kernel) (by decide) rfl) <|
  mi_cI (mi_iconst_ok (n := 0) (by decide) (by decide +kernel) rfl) <|
  mi_cI (mi_istore_ok (by decide +kernel) (by decide) rfl) <|
  mi_cI (mi_aload_n_ok (k := 0) (by decide +kernel) rfl rfl) <|
  mi_cI (mi_get_ok (by decide +kernel) fl_X7_108 rfl) <|
  mi_cI (mi_if_ne_ok (off := 125) (by decide +kernel) (by decide) rfl) <|
  mi_cI (mi_aload_n_ok (k := 0) (by decide +kernel) rfl rfl) <|
  mi_cC ⟨m_X7_here, rfl, okM_X7_here, 118, 0, by decide +kernel, Or.inl ⟨(by decide +kernel), rfl, (mi_gd5 14 rfl rfl), (mi_gd5 16 rfl rfl), (mi_gd0 35 rfl rfl), 7, _, _, rfl, rfl⟩⟩ <|
  mi_cC ⟨m_X7_isFigure, rfl, okM_X7_isFigure, 114, 1, by decide +kernel, Or.inr (Or.inr ⟨(by decide +kernel), rfl, (mi_gd5 39 rfl rfl), Or.inl (mi_gd5 38 rfl rfl)⟩)⟩ <|
  mi_cI (mi_if_eq_ok (off := 115) (by decide +kernel) (by decide) rfl) <|
  mi_cI (mi_iload_ok (by decide +kernel) rfl) <|
  mi_cI (mi_if_le_ok (off := 14) (by decide +kernel) (by decide) rfl) <|
  mi_cI (mi_aload_n_ok (k := 0) (by decide +kernel) rfl rfl) <|
  mi_cI (mi_get_ok (by decide +kernel) fl_X7_7 rfl) <|
  mi_cI (mi_iload_n_ok (k := 3) (by decide +kernel) rfl rfl) <|
  mi_cI (mi_iald_ok (by decide +kernel) rfl) <|
  mi_cI (mi_bipush_ok (n := 48) (by decide) (by decide +kernel) rfl) <|
  mi_cI (mi_icmp_eq_ok (off := 25) (by decide +kernel) (by decide) rfl) <|
  mi_cI (mi_iload_n_ok (k := 1) (by decide +kernel) rfl rfl) <|
  mi_cI (mi_if_eq_ok (off := 33) (by decide +kernel) (by decide) rfl) <|
  mi_cI (mi_iload_n_ok (k := 2) (by decide +kernel) rfl rfl) <|
  mi_cI (mi_if_eq_ok (off := 29) (by decide +kernel) (by decide) rfl) <|
  mi_cI (mi_aload_n_ok (k := 0) (by decide +kernel) rfl rfl) <|
  mi_cC ⟨m_X7_here, rfl, okM_X7_here, 118, 0, by decide +kernel, Or.inl ⟨(by decide +kernel), rfl, (mi_gd5 14 rfl rfl), (mi_gd5 16 rfl rfl), (mi_gd0 35 rfl rfl), 7, _, _, rfl, rfl⟩⟩ <|
  mi_cI (mi_bipush_ok (n := 48) (by decide) (by decide +kernel) rfl) <|
  mi_cI (mi_icmp_ne_ok (off := 20) (by decide +kernel) (by decide) rfl) <|
  mi_cI (mi_iload_ok (by decide +kernel) rfl) <|
  mi_cI (mi_if_ne_ok (off := 15) (by decide +kernel) (by decide) rfl) <|
  mi_cI (mi_aload_n_ok (k := 0) (by decide +kernel) rfl rfl) <|
  mi_cI (mi_iconst_ok (n := 1) (by decide) (by decide +kernel) rfl) <|
  mi_cI (mi_aload_n_ok (k := 0) (by decide +kernel) rfl rfl) <|
  mi_cI (mi_get_ok (by decide +kernel) fl_X7_105 rfl) <|
  mi_cC ⟨m_X7_wrong, rfl, okM_X7_wrong, 122, 2, by decide +kernel, Or.inl ⟨(by decide +kernel), rfl, (mi_gd5 22 rfl rfl), (mi_gd5 24 rfl rfl), (mi_gd0 37 rfl rfl), 7, _, _, rfl, rfl⟩⟩ <|
  mi_cI (mi_goto_ok (off := (-64)) (by decide +kernel) (by decide)) <|
  mi_cI (mi_iload_ok (by decide +kernel) rfl) <|
  mi_cI (mi_bipush_ok (n := 6) (by decide) (by decide +kernel) rfl) <|
  mi_cI (mi_icmp_ne_ok (off := 15) (by decide +kernel) (by decide) rfl) <|
  mi_cI (mi_aload_n_ok (k := 0) (by decide +kernel) rfl rfl) <|
  mi_cI (mi_iconst_ok (n := 2) (by decide) (by decide +kernel) rfl) <|
  mi_cI (mi_aload_n_ok (k := 0) (by decide +kernel) rfl rfl) <|
  mi_cI (mi_get_ok (by decide +kernel) fl_X7_105 rfl) <|
  mi_cC ⟨m_X7_wrong, rfl, okM_X7_wrong, 122, 2, by decide +kernel, Or.inl ⟨(by decide +kernel), rfl, (mi_gd5 22 rfl rfl), (mi_gd5 24 rfl rfl), (mi_gd0 37 rfl rfl), 7, _, _, rfl, rfl⟩⟩ <|
  mi_cI (mi_goto_ok (off := (-83)) (by decide +kernel) (by decide)) <|
  mi_cI (mi_bipush_ok (n := 10) (by decide) (by decide +kernel) rfl) <|
  mi_cI (mi_iload_ok (by decide +kernel) rfl) <|
  mi_cI (mi_imul_ok (by decide +kernel) rfl) <|
  mi_cI (mi_aload_n_ok (k := 0) (by decide +kernel) rfl rfl) <|
  mi_cC ⟨m_X7_here, rfl, okM_X7_here, 118, 0, by decide +kernel, Or.inl ⟨(by decide +kernel), rfl, (mi_gd5 14 rfl rfl), (mi_gd5 16 rfl rfl), (mi_gd0 35 rfl rfl), 7, _, _, rfl, rfl⟩⟩ <|
  mi_cI (mi_iadd_ok (by decide +kernel) rfl) <|
  mi_cI (mi_bipush_ok (n := 48) (by decide) (by decide +kernel) rfl) <|
  mi_cI (mi_isub_ok (by decide +kernel) rfl) <|
  mi_cI (mi_istore_ok (by decide +kernel) (by decide) rfl) <|
  mi_cI (mi_aload_n_ok (k := 0) (by decide +kernel) rfl rfl) <|
  mi_cI (mi_aload_n_ok (k := 0) (by decide +kernel) rfl rfl) <|
  mi_cC ⟨m_X7_here, rfl, okM_X7_here, 118, 0, by decide +kernel, Or.inl ⟨(by decide +kernel), rfl, (mi_gd5 14 rfl rfl), (mi_gd5 16 rfl rfl), (mi_gd0 35 rfl rfl), 7, _, _, rfl, rfl⟩⟩ <|
  mi_cI (mi_aload_n_ok (k := 0) (by decide +kernel) rfl rfl) <|
  mi_cI (mi_get_ok (by decide +kernel) fl_X7_105 rfl) <|
  mi_cC ⟨m_X7_sign, rfl, okM_X7_sign, 132, 2, by decide +kernel, Or.inl ⟨(by decide +kernel), rfl, (mi_gd5 53 rfl rfl), (mi_gd5 55 rfl rfl), (mi_gd0 44 rfl rfl), 7, _, _, rfl, rfl⟩⟩ <|
  mi_cI (mi_inc_ok (by decide +kernel) (by decide) rfl) <|
  mi_cI (mi_aload_n_ok (k := 0) (by decide +kernel) rfl rfl) <|
  mi_cI (mi_dup_ok (by decide +kernel) rfl) <|
  mi_cI (mi_get_ok (by decide +kernel) fl_X7_105 rfl) <|
  mi_cI (mi_iconst_ok (n := 1) (by decide) (by decide +kernel) rfl) <|
  mi_cI (mi_iadd_ok (by decide +kernel) rfl) <|
  mi_cI (mi_put_ok (by decide +kernel) fl_X7_105 rfl rfl) <|
  mi_cI (mi_goto_ok (off := (-126)) (by decide +kernel) (by decide)) <|
  mi_cI (mi_aload_n_ok (k := 0) (by decide +kernel) rfl rfl) <|
  mi_cI (mi_get_ok (by decide +kernel) fl_X7_108 rfl) <|
  mi_cI (mi_if_ne_ok (off := 17) (by decide +kernel) (by decide) rfl) <|
  mi_cI (mi_iload_ok (by decide +kernel) rfl) <|
  mi_cI (mi_if_ne_ok (off := 12) (by decide +kernel) (by decide) rfl) <|
  mi_cI (mi_aload_n_ok (k := 0) (by decide +kernel) rfl rfl) <|
  mi_cI (mi_iconst_ok (n := 1) (by decide) (by decide +kernel) rfl) <|
  mi_cI (mi_aload_n_ok (k := 0) (by decide +kernel) rfl rfl) <|
  mi_cI (mi_get_ok (by decide +kernel) fl_X7_105 rfl) <|
  mi_cC ⟨m_X7_wrong, rfl, okM_X7_wrong, 122, 2, by decide +kernel, Or.inl ⟨(by decide +kernel), rfl, (mi_gd5 22 rfl rfl), (mi_gd5 24 rfl rfl), (mi_gd0 37 rfl rfl), 7, _, _, rfl, rfl⟩⟩ <|
  mi_cI (mi_aload_n_ok (k := 0) (by decide +kernel) rfl rfl) <|
  mi_cI (mi_iconst_ok (n := 1) (by decide) (by decide +kernel) rfl) <|
  mi_cI (mi_put_ok (by decide +kernel) fl_X7_138 rfl rfl) <|
  mi_cI (mi_aload_n_ok (k := 0) (by decide +kernel) rfl rfl) <|
  mi_cI (mi_sipush_ok (n := 1000) (by decide) (by decide +kernel) rfl) <|
  mi_cI (mi_iload_ok (by decide +kernel) rfl) <|
  mi_cI (mi_imul_ok (by decide +kernel) rfl) <|
  mi_cI (mi_put_ok (by decide +kernel) fl_X7_141 rfl rfl) <|
  mi_cI (mi_aload_n_ok (k := 0) (by decide +kernel) rfl rfl) <|
  mi_cI (mi_get_ok (by decide +kernel) fl_X7_108 rfl) <|
  mi_cI (mi_if_ne_ok (off := 40) (by decide +kernel) (by decide) rfl) <|
  mi_cI (mi_iload_n_ok (k := 1) (by decide +kernel) rfl rfl) <|
  mi_cI (mi_if_ne_ok (off := 36) (by decide +kernel) (by decide) rfl) <|
  mi_cI (mi_aload_n_ok (k := 0) (by decide +kernel) rfl rfl) <|
  mi_cC ⟨m_X7_here, rfl, okM_X7_here, 118, 0, by decide +kernel, Or.inl ⟨(by decide +kernel), rfl, (mi_gd5 14 rfl rfl), (mi_gd5 16 rfl rfl), (mi_gd0 35 rfl rfl), 7, _, _, rfl, rfl⟩⟩ <|
  mi_cI (mi_bipush_ok (n := 46) (by decide) (by decide +kernel) rfl) <|
  mi_cI (mi_icmp_ne_ok (off := 27) (by decide +kernel) (by decide) rfl) <|
  mi_cI (mi_iload_ok (by decide +kernel) rfl) <|
  mi_cI (mi_iconst_ok (n := 3) (by decide) (by decide +kernel) rfl) <|
  mi_cI (mi_icmp_le_ok (off := 14) (by decide +kernel) (by decide) rfl) <|
  mi_cI (mi_aload_n_ok (k := 0) (by decide +kernel) rfl rfl) <|
  mi_cI (mi_iconst_ok (n := 2) (by decide) (by decide +kernel) rfl) <|
  mi_cI (mi_iload_n_ok (k := 3) (by decide +kernel) rfl rfl) <|
  mi_cI (mi_iconst_ok (n := 3) (by decide) (by decide +kernel) rfl) <|
  mi_cI (mi_iadd_ok (by decide +kernel) rfl) <|
  mi_cC ⟨m_X7_wrong, rfl, okM_X7_wrong, 122, 2, by decide +kernel, Or.inl ⟨(by decide +kernel), rfl, (mi_gd5 22 rfl rfl), (mi_gd5 24 rfl rfl), (mi_gd0 37 rfl rfl), 7, _, _, rfl, rfl⟩⟩ <|
  mi_cI (mi_goto_ok (off := 32) (by decide +kernel) (by decide)) <|
  mi_cI (mi_aload_n_ok (k := 0) (by decide +kernel) rfl rfl) <|
  mi_cC ⟨m_X7_readDecimals, rfl, okM_X7_readDecimals, 144, 0, by decide +kernel, Or.inl ⟨(by decide +kernel), rfl, (mi_gd5 88 rfl rfl), (mi_gd5 90 rfl rfl), (mi_gd0 52 rfl rfl), 7, _, _, rfl, rfl⟩⟩ <|
  mi_cI (mi_goto_ok (off := 25) (by decide +kernel) (by decide)) <|
  mi_cI (mi_aload_n_ok (k := 0) (by decide +kernel) rfl rfl) <|
  mi_cI (mi_get_ok (by decide +kernel) fl_X7_108 rfl) <|
  mi_cI (mi_if_ne_ok (off := 18) (by decide +kernel) (by decide) rfl) <|
  mi_cI (mi_iload_n_ok (k := 2) (by decide +kernel) rfl rfl) <|
  mi_cI (mi_if_eq_ok (off := 14) (by decide +kernel) (by decide) rfl) <|
  mi_cI (mi_iload_ok (by decide +kernel) rfl) <|
  mi_cI (mi_if_ne_ok (off := 9) (by decide +kernel) (by decide) rfl) <|
  mi_cI (mi_aload_n_ok (k := 0) (by decide +kernel) rfl rfl) <|
  mi_cI (mi_iconst_ok (n := 1) (by decide) (by decide +kernel) rfl) <|
  mi_cI (mi_iload_n_ok (k := 3) (by decide +kernel) rfl rfl) <|
  mi_cC ⟨m_X7_wrong, rfl, okM_X7_wrong, 122, 2, by decide +kernel, Or.inl ⟨(by decide +kernel), rfl, (mi_gd5 22 rfl rfl), (mi_gd5 24 rfl rfl), (mi_gd0 37 rfl rfl), 7, _, _, rfl, rfl⟩⟩ <|
  mi_cI (mi_aload_n_ok (k := 0) (by decide +kernel) rfl rfl) <|
  mi_cI (mi_iload_n_ok (k := 2) (by decide +kernel) rfl rfl) <|
  mi_cI (mi_if_eq_ok (off := 11) (by decide +kernel) (by decide) rfl) <|
  mi_cI (mi_aload_n_ok (k := 0) (by decide +kernel) rfl rfl) <|
  mi_cI (mi_get_ok (by decide +kernel) fl_X7_141 rfl) <|
  mi_cI (mi_ineg_ok (by decide +kernel) rfl) <|
  mi_cI (mi_goto_ok (off := 7) (by decide +kernel) (by decide)) <|
  mi_cI (mi_aload_n_ok (k := 0) (by decide +kernel) rfl rfl) <|
  mi_cI (mi_get_ok (by decide +kernel) fl_X7_141 rfl) <|
  mi_cI (mi_put_ok (by decide +kernel) fl_X7_141 rfl rfl) <|
  mi_cI (mi_aload_n_ok (k := 0) (by decide +kernel) rfl rfl) <|
  mi_cC ⟨m_X7_ended, rfl, okM_X7_ended, 135, 0, by decide +kernel, Or.inl ⟨(by decide +kernel), rfl, (mi_gd5 34 rfl rfl), (mi_gd5 36 rfl rfl), (mi_gd0 40 rfl rfl), 7, _, _, rfl, rfl⟩⟩ <|
  mi_cR (Or.inl ⟨rfl, (by decide +kernel), rfl⟩) <| mi_cN
set_option maxRecDepth 100000 in
set_option maxHeartbeats 4000000 in
theorem ok_X7_readDecimals : ∀ q ∈ t_X7_readDecimals, mi_OkE mi_ms RX7 cX7_readDecimals 2 false none q :=
  mi_cI (mi_aload_n_ok (k := 0) (by decide +kernel) rfl rfl) <|
  mi_cI (mi_iconst_ok (n := 2) (by decide) (by decide +kernel) rfl) <|
  mi_cI (mi_put_ok (by decide +kernel) fl_X7_138 rfl rfl) <|
  mi_cI (mi_aload_n_ok (k := 0) (by decide +kernel) rfl rfl) <|
  mi_cI (mi_bipush_ok (n := 46) (by decide) (by decide +kernel) rfl) <|
  mi_cI (mi_aload_n_ok (k := 0) (by decide +kernel) rfl rfl) <|
  mi_cI (mi_get_ok (by decide +kernel) fl_X7_105 rfl) <|
  mi_cC ⟨m_X7_sign, rfl, okM_X7_sign, 132, 2, by decide +kernel, Or.inl ⟨(by decide +kernel), rfl, (mi_gd5 53 rfl rfl), (mi_gd5 55 rfl rfl), (mi_gd0 44 rfl rfl), 7, _, _, rfl, rfl⟩⟩ <|
  mi_cI (mi_aload_n_ok (k := 0) (by decide +kernel) rfl rfl) <|
  mi_cI (mi_dup_ok (by decide +kernel) rfl) <|
  mi_cI (mi_get_ok (by decide +kernel) fl_X7_105 rfl) <|
  mi_cI (mi_iconst_ok (n := 1) (by decide) (by decide +kernel) rfl) <|
  mi_cI (mi_iadd_ok (by decide +kernel) rfl) <|
  mi_cI (mi_put_ok (by decide +kernel) fl_X7_105 rfl rfl) <|
  mi_cI (mi_bipush_ok (n := 100) (by decide) (by decide +kernel) rfl) <|
  mi_cI (mi_istore_n_ok (k := 1) (by decide +kernel) rfl (by decide) rfl) <|
  mi_cI (mi_aload_n_ok (k := 0) (by decide +kernel) rfl rfl) <|
  mi_cC ⟨m_X7_here, rfl, okM_X7_here, 118, 0, by decide +kernel, Or.inl ⟨(by decide +kernel), rfl, (mi_gd5 14 rfl rfl), (mi_gd5 16 rfl rfl), (mi_gd0 35 rfl rfl), 7, _, _, rfl, rfl⟩⟩ <|
  mi_cC ⟨m_X7_isFigure, rfl, okM_X7_isFigure, 114, 1, by decide +kernel, Or.inr (Or.inr ⟨(by decide +kernel), rfl, (mi_gd5 39 rfl rfl), Or.inl (mi_gd5 38 rfl rfl)⟩)⟩ <|
  mi_cI (mi_if_ne_ok (off := 12) (by decide +kernel) (by decide) rfl) <|
  mi_cI (mi_aload_n_ok (k := 0) (by decide +kernel) rfl rfl) <|
  mi_cI (mi_iconst_ok (n := 1) (by decide) (by decide +kernel) rfl) <|
  mi_cI (mi_aload_n_ok (k := 0) (by decide +kernel) rfl rfl) <|
  mi_cI (mi_get_ok (by decide +kernel) fl_X7_105 rfl) <|
  mi_cC ⟨m_X7_wrong, rfl, okM_X7_wrong, 122, 2, by decide +kernel, Or.inl ⟨(by decide +kernel), rfl, (mi_gd5 22 rfl rfl), (mi_gd5 24 rfl rfl), (mi_gd0 37 rfl rfl), 7, _, _, rfl, rfl⟩⟩ <|
  mi_cI (mi_aload_n_ok (k := 0) (by decide +kernel) rfl rfl) <|
  mi_cI (mi_get_ok (by decide +kernel) fl_X7_108 rfl) <|
  mi_cI (mi_if_ne_ok (off := 77) (by decide +kernel) (by decide) rfl) <|
  mi_cI (mi_aload_n_ok (k := 0) (by decide +kernel) rfl rfl) <|
  mi_cC ⟨m_X7_here, rfl, okM_X7_here, 118, 0, by decide +kernel, Or.inl ⟨(by decide +kernel), rfl, (mi_gd5 14 rfl rfl), (mi_gd5 16 rfl rfl), (mi_gd0 35 rfl rfl), 7, _, _, rfl, rfl⟩⟩ <|
  mi_cC ⟨m_X7_isFigure, rfl, okM_X7_isFigure, 114, 1, by decide +kernel, Or.inr (Or.inr ⟨(by decide +kernel), rfl, (mi_gd5 39 rfl rfl), Or.inl (mi_gd5 38 rfl rfl)⟩)⟩ <|
  mi_cI (mi_if_eq_ok (off := 67) (by decide +kernel) (by decide) rfl) <|
  mi_cI (mi_iload_n_ok (k := 1) (by decide +kernel) rfl rfl) <|
  mi_cI (mi_if_ne_ok (off := 15) (by decide +kernel) (by decide) rfl) <|
  mi_cI (mi_aload_n_ok (k := 0) (by decide +kernel) rfl rfl) <|
  mi_cI (mi_iconst_ok (n := 2) (by decide) (by decide +kernel) rfl) <|
  mi_cI (mi_aload_n_ok (k := 0) (by decide +kernel) rfl rfl) <|
  mi_cI (mi_get_ok (by decide +kernel) fl_X7_105 rfl) <|
  mi_cC ⟨m_X7_wrong, rfl, okM_X7_wrong, 122, 2, by decide +kernel, Or.inl ⟨(by decide +kernel), rfl, (mi_gd5 22 rfl rfl), (mi_gd5 24 rfl rfl), (mi_gd0 37 rfl rfl), 7, _, _, rfl, rfl⟩⟩ <|
  mi_cI (mi_goto_ok (off := (-30)) (by decide +kernel) (by decide)) <|
  mi_cI (mi_aload_n_ok (k := 0) (by decide +kernel) rfl rfl) <|
  mi_cI (mi_dup_ok (by decide +kernel) rfl) <|
  mi_cI (mi_get_ok (by decide +kernel) fl_X7_141 rfl) <|
  mi_cI (mi_iload_n_ok (k := 1) (by decide +kernel) rfl rfl) <|
  mi_cI (mi_aload_n_ok (k := 0) (by decide +kernel) rfl rfl) <|
  mi_cC ⟨m_X7_here, rfl, okM_X7_here, 118, 0, by decide +kernel, Or.inl ⟨(by decide +kernel), rfl, (mi_gd5 14 rfl rfl), (mi_gd5 16 rfl rfl), (mi_gd0 35 rfl rfl), 7, _, _, rfl, rfl⟩⟩ <|
  mi_cI (mi_bipush_ok (n := 48) (by decide) (by decide +kernel) rfl) <|
  mi_cI (mi_isub_ok (by decide +kernel) rfl) <|
  mi_cI (mi_imul_ok (by decide +kernel) rfl) <|
  mi_cI (mi_iadd_ok (by decide +kernel) rfl) <|
  mi_cI (mi_put_ok (by decide +kernel) fl_X7_141 rfl rfl) <|
  mi_cI (mi_iload_n_ok (k := 1) (by decide +kernel) rfl rfl) <|
  mi_cI (mi_bipush_ok (n := 10) (by decide) (by decide +kernel) rfl) <|
  mi_cI (mi_idiv_ok (by decide +kernel) rfl) <|
  mi_cI (mi_istore_n_ok (k := 1) (by decide +kernel) rfl (by decide) rfl) <|
  mi_cI (mi_aload_n_ok (k := 0) (by decide +kernel) rfl rfl) <|
  mi_cI (mi_aload_n_ok (k := 0) (by decide +kernel) rfl rfl) <|
  mi_cC ⟨m_X7_here, rfl, okM_X7_here, 118, 0, by decide +kernel, Or.inl ⟨(by decide +kernel), rfl, (mi_gd5 14 rfl rfl), (mi_gd5 16 rfl rfl), (mi_gd0 35 rfl rfl), 7, _, _, rfl, rfl⟩⟩ <|
  mi_cI (mi_aload_n_ok (k := 0) (by decide +kernel) rfl rfl) <|
  mi_cI (mi_get_ok (by decide +kernel) fl_X7_105 rfl) <|
  mi_cC ⟨m_X7_sign, rfl, okM_X7_sign, 132, 2, by decide +kernel, Or.inl ⟨(by decide +kernel), rfl, (mi_gd5 53 rfl rfl), (mi_gd5 55 rfl rfl), (mi_gd0 44 rfl rfl), 7, _, _, rfl, rfl⟩⟩ <|
  mi_cI (mi_aload_n_ok (k := 0) (by decide +kernel) rfl rfl) <|
  mi_cI (mi_dup_ok (by decide +kernel) rfl) <|
  mi_cI (mi_get_ok (by decide +kernel) fl_X7_105 rfl) <|
  mi_cI (mi_iconst_ok (n := 1) (by decide) (by decide +kernel) rfl) <|
  mi_cI (mi_iadd_ok (by decide +kernel) rfl) <|
  mi_cI (mi_put_ok (by decide +kernel) fl_X7_105 rfl rfl) <|
  mi_cI (mi_goto_ok (off := (-78)) (by decide +kernel) (by decide)) <|
  mi_cR (Or.inl ⟨rfl, (by decide +kernel), rfl⟩) <| mi_cN
set_option maxRecDepth 100000 in
set_option maxHeartbeats 4000000 in
theorem ok_X7_plainSort : ∀ q ∈ t_X7_plainSort, mi_OkE mi_ms RX7 cX7_plainSort 3 false (some .int) q :=
  mi_cI (mi_aload_n_ok (k := 0) (by decide +kernel) rfl rfl) <|
  mi_cI (mi_get_ok (by decide +kernel) fl_X7_105 rfl) <|
  mi_cI (mi_istore_n_ok (k := 1) (by decide +kernel) rfl (by decide) rfl) <|
  mi_cI (mi_iconst_ok (n := 1) (by decide) (by decide +kernel) rfl) <|
  mi_cI (mi_istore_n_ok (k := 2) (by decide +kernel) rfl (by decide) rfl) <|
  mi_cI (mi_iload_n_ok (k := 1) (by decide +kernel) rfl rfl) <|
  mi_cI (mi_aload_n_ok (k := 0) (by decide +kernel) rfl rfl) <|
  mi_cI (mi_get_ok (by decide +kernel) fl_X7_95 rfl) <|
  mi_cI (mi_icmp_ge_ok (off := 43) (by decide +kernel) (by decide) rfl) <|
  mi_cI (mi_aload_n_ok (k := 0) (by decide +kernel) rfl rfl) <|
  mi_cI (mi_get_ok (by decide +kernel) fl_X7_7 rfl) <|
  mi_cI (mi_iload_n_ok (k := 1) (by decide +kernel) rfl rfl) <|
  mi_cI (mi_iald_ok (by decide +kernel) rfl) <|
  mi_cC ⟨m_X7_isPlain, rfl, okM_X7_isPlain, 129, 1, by decide +kernel, Or.inr (Or.inr ⟨(by decide +kernel), rfl, (mi_gd5 58 rfl rfl), Or.inl (mi_gd5 57 rfl rfl)⟩)⟩ <|
  mi_cI (mi_if_eq_ok (off := 31) (by decide +kernel) (by decide) rfl) <|
  mi_cI (mi_iload_n_ok (k := 2) (by decide +kernel) rfl rfl) <|
  mi_cI (mi_if_eq_ok (off := 19) (by decide +kernel) (by decide) rfl) <|
  mi_cI (mi_aload_n_ok (k := 0) (by decide +kernel) rfl rfl) <|
  mi_cI (mi_get_ok (by decide +kernel) fl_X7_7 rfl) <|
  mi_cI (mi_iload_n_ok (k := 1) (by decide +kernel) rfl rfl) <|
  mi_cI (mi_iald_ok (by decide +kernel) rfl) <|
  mi_cC ⟨m_X7_isFigure, rfl, okM_X7_isFigure, 114, 1, by decide +kernel, Or.inr (Or.inr ⟨(by decide +kernel), rfl, (mi_gd5 39 rfl rfl), Or.inl (mi_gd5 38 rfl rfl)⟩)⟩ <|
  mi_cI (mi_if_eq_ok (off := 7) (by decide +kernel) (by decide) rfl) <|
  mi_cI (mi_iconst_ok (n := 1) (by decide) (by decide +kernel) rfl) <|
  mi_cI (mi_goto_ok (off := 4) (by decide +kernel) (by decide)) <|
  mi_cI (mi_iconst_ok (n := 0) (by decide) (by decide +kernel) rfl) <|
  mi_cI (mi_istore_n_ok (k := 2) (by decide +kernel) rfl (by decide) rfl) <|
  mi_cI (mi_inc_ok (by decide +kernel) (by decide) rfl) <|
  mi_cI (mi_goto_ok (off := (-45)) (by decide +kernel) (by decide)) <|
  mi_cI (mi_iload_n_ok (k := 2) (by decide +kernel) rfl rfl) <|
  mi_cI (mi_if_eq_ok (off := 24) (by decide +kernel) (by decide) rfl) <|
  mi_cI (mi_iload_n_ok (k := 1) (by decide +kernel) rfl rfl) <|
  mi_cI (mi_aload_n_ok (k := 0) (by decide +kernel) rfl rfl) <|
  mi_cI (mi_get_ok (by decide +kernel) fl_X7_95 rfl) <|
  mi_cI (mi_icmp_ge_ok (off := 16) (by decide +kernel) (by decide) rfl) <|
  mi_cI (mi_aload_n_ok (k := 0) (by decide +kernel) rfl rfl) <|
  mi_cI (mi_get_ok (by decide +kernel) fl_X7_7 rfl) <|
  mi_cI (mi_iload_n_ok (k := 1) (by decide +kernel) rfl rfl) <|
  mi_cI (mi_iald_ok (by decide +kernel) rfl) <|
  mi_cI (mi_bipush_ok (n := 46) (by decide) (by decide +kernel) rfl) <|
  mi_cI (mi_icmp_ne_ok (off := 5) (by decide +kernel) (by decide) rfl) <|
  mi_cI (mi_iconst_ok (n := 2) (by decide) (by decide +kernel) rfl) <|
  mi_cR (Or.inr (Or.inl ⟨rfl, (by decide +kernel), rfl⟩)) <|
  mi_cI (mi_iload_n_ok (k := 2) (by decide +kernel) rfl rfl) <|
  mi_cI (mi_if_eq_ok (off := 42) (by decide +kernel) (by decide) rfl) <|
  mi_cI (mi_iload_n_ok (k := 1) (by decide +kernel) rfl rfl) <|
  mi_cI (mi_aload_n_ok (k := 0) (by decide +kernel) rfl rfl) <|
  mi_cI (mi_get_ok (by decide +kernel) fl_X7_105 rfl) <|
  mi_cI (mi_isub_ok (by decide +kernel) rfl) <|
  mi_cI (mi_bipush_ok (n := 6) (by decide) (by decide +kernel) rfl) <|
  mi_cI (mi_icmp_gt_ok (off := 31) (by decide +kernel) (by decide) rfl) <|
  mi_cI (mi_iload_n_ok (k := 1) (by decide +kernel) rfl rfl) <|
  mi_cI (mi_aload_n_ok (k := 0) (by decide +kernel) rfl rfl) <|
  mi_cI (mi_get_ok (by decide +kernel) fl_X7_105 rfl) <|
  mi_cI (mi_isub_ok (by decide +kernel) rfl) <|
  mi_cI (mi_iconst_ok (n := 1) (by decide) (by decide +kernel) rfl) <|
  mi_cI (mi_icmp_eq_ok (off := 17) (by decide +kernel) (by decide) rfl) <|
  mi_cI (mi_aload_n_ok (k := 0) (by decide +kernel) rfl rfl) <|
  mi_cI (mi_get_ok (by decide +kernel) fl_X7_7 rfl) <|
  mi_cI (mi_aload_n_ok (k := 0) (by decide +kernel) rfl rfl) <|
  mi_cI (mi_get_ok (by decide +kernel) fl_X7_105 rfl) <|
  mi_cI (mi_iald_ok (by decide +kernel) rfl) <|
  mi_cI (mi_bipush_ok (n := 48) (by decide) (by decide +kernel) rfl) <|
  mi_cI (mi_icmp_eq_ok (off := 7) (by decide +kernel) (by decide) rfl) <|
  mi_cI (mi_iconst_ok (n := 1) (by decide) (by decide +kernel) rfl) <|
  mi_cI (mi_goto_ok (off := 4) (by decide +kernel) (by decide)) <|
  mi_cI (mi_iconst_ok (n := 3) (by decide) (by decide +kernel) rfl) <|
  mi_cR (Or.inr (Or.inl ⟨rfl, (by decide +kernel), rfl⟩)) <| mi_cN
set_option maxRecDepth 100000 in
set_option maxHeartbeats 4000000 in
theorem ok_X7_readPlainDecimal : ∀ q ∈ t_X7_readPlainDecimal, mi_OkE mi_ms RX7 cX7_readPlainDecimal 2 false none q :=
  mi_cI (mi_aload_n_ok (k := 0) (by decide +kernel) rfl rfl) <|
  mi_cI (mi_get_ok (by decide +kernel) fl_X7_105 rfl) <|
  mi_cI (mi_istore_n_ok (k := 1) (by decide +kernel) rfl (by decide) rfl) <|
  mi_cI (mi_aload_n_ok (k := 0) (by decide +kernel) rfl rfl) <|
  mi_cI (mi_get_ok (by decide +kernel) fl_X7_7 rfl) <|
  mi_cI (mi_iload_n_ok (k := 1) (by decide +kernel) rfl rfl) <|
  mi_cI (mi_iald_ok (by decide +kernel) rfl) <|
  mi_cI (mi_bipush_ok (n := 46) (by decide) (by decide +kernel) rfl) <|
  mi_cI (mi_icmp_eq_ok (off := 9) (by decide +kernel) (by decide) rfl) <|
  mi_cI (mi_inc_ok (by decide +kernel) (by decide) rfl) <|
  mi_cI (mi_goto_ok (off := (-14)) (by decide +kernel) (by decide)) <|
  mi_cI (mi_aload_n_ok (k := 0) (by decide +kernel) rfl rfl) <|
  mi_cI (mi_get_ok (by decide +kernel) fl_X7_7 rfl) <|
  mi_cI (mi_aload_n_ok (k := 0) (by decide +kernel) rfl rfl) <|
  mi_cI (mi_get_ok (by decide +kernel) fl_X7_105 rfl) <|
  mi_cI (mi_iald_ok (by decide +kernel) rfl) <|
  mi_cI (mi_bipush_ok (n := 48) (by decide) (by decide +kernel) rfl) <|
  mi_cI (mi_icmp_ne_ok (off := 27) (by decide +kernel) (by decide) rfl) <|
  mi_cI (mi_iload_n_ok (k := 1) (by decide +kernel) rfl rfl) <|
  mi_cI (mi_aload_n_ok (k := 0) (by decide +kernel) rfl rfl) <|
  mi_cI (mi_get_ok (by decide +kernel) fl_X7_105 rfl) <|
  mi_cI (mi_isub_ok (by decide +kernel) rfl) <|
  mi_cI (mi_iconst_ok (n := 1) (by decide) (by decide +kernel) rfl) <|
  mi_cI (mi_icmp_le_ok (off := 17) (by decide +kernel) (by decide) rfl) <|
  mi_cI (mi_aload_n_ok (k := 0) (by decide +kernel) rfl rfl) <|
  mi_cI (mi_iconst_ok (n := 1) (by decide) (by decide +kernel) rfl) <|
  mi_cI (mi_aload_n_ok (k := 0) (by decide +kernel) rfl rfl) <|
  mi_cI (mi_get_ok (by decide +kernel) fl_X7_105 rfl) <|
  mi_cI (mi_iconst_ok (n := 1) (by decide) (by decide +kernel) rfl) <|
  mi_cI (mi_iadd_ok (by decide +kernel) rfl) <|
  mi_cC ⟨m_X7_wrong, rfl, okM_X7_wrong, 122, 2, by decide +kernel, Or.inl ⟨(by decide +kernel), rfl, (mi_gd5 22 rfl rfl), (mi_gd5 24 rfl rfl), (mi_gd0 37 rfl rfl), 7, _, _, rfl, rfl⟩⟩ <|
  mi_cI (mi_goto_ok (off := 32) (by decide +kernel) (by decide)) <|
  mi_cI (mi_iload_n_ok (k := 1) (by decide +kernel) rfl rfl) <|
  mi_cI (mi_aload_n_ok (k := 0) (by decide +kernel) rfl rfl) <|
  mi_cI (mi_get_ok (by decide +kernel) fl_X7_105 rfl) <|
  mi_cI (mi_isub_ok (by decide +kernel) rfl) <|
  mi_cI (mi_iconst_ok (n := 3) (by decide) (by decide +kernel) rfl) <|
  mi_cI (mi_icmp_le_ok (off := 17) (by decide +kernel) (by decide) rfl) <|
  mi_cI (mi_aload_n_ok (k := 0) (by decide +kernel) rfl rfl) <|
  mi_cI (mi_iconst_ok (n := 2) (by decide) (by decide +kernel) rfl) <|
  mi_cI (mi_aload_n_ok (k := 0) (by decide +kernel) rfl rfl) <|
  mi_cI (mi_get_ok (by decide +kernel) fl_X7_105 rfl) <|
  mi_cI (mi_iconst_ok (n := 3) (by decide) (by decide +kernel) rfl) <|
  mi_cI (mi_iadd_ok (by decide +kernel) rfl) <|
  mi_cC ⟨m_X7_wrong, rfl, okM_X7_wrong, 122, 2, by decide +kernel, Or.inl ⟨(by decide +kernel), rfl, (mi_gd5 22 rfl rfl), (mi_gd5 24 rfl rfl), (mi_gd0 37 rfl rfl), 7, _, _, rfl, rfl⟩⟩ <|
  mi_cI (mi_goto_ok (off := 8) (by decide +kernel) (by decide)) <|
  mi_cI (mi_aload_n_ok (k := 0) (by decide +kernel) rfl rfl) <|
  mi_cI (mi_iconst_ok (n := 0) (by decide) (by decide +kernel) rfl) <|
  mi_cC ⟨m_X7_readNumber, rfl, okM_X7_readNumber, 147, 1, by decide +kernel, Or.inl ⟨(by decide +kernel), rfl, (mi_gd5 84 rfl rfl), (mi_gd5 86 rfl rfl), (mi_gd0 51 rfl rfl), 7, _, _, rfl, rfl⟩⟩ <|
  mi_cR (Or.inl ⟨rfl, (by decide +kernel), rfl⟩) <| mi_cN
set_option maxRecDepth 100000 in
set_option maxHeartbeats 4000000 in
theorem ok_X7_readValue : ∀ q ∈ t_X7_readValue, mi_OkE mi_ms RX7 cX7_readValue 4 false none q :=
  mi_cI (mi_aload_n_ok (k := 0) (by decide +kernel) rfl rfl) <|
  mi_cI (mi_get_ok (by decide +kernel) fl_X7_77 rfl) <|
  mi_cI (mi_iconst_ok (n := 0) (by decide) (by decide +kernel) rfl) <|
  mi_cI (mi_iconst_ok (n := 0) (by decide) (by decide +kernel) rfl) <|
  mi_cI (mi_iast_ok (by decide +kernel) rfl) <|
  mi_cI (mi_aload_n_ok (k := 0) (by decide +kernel) rfl rfl) <|
  mi_cI (mi_iconst_ok (n := 0) (by decide) (by decide +kernel) rfl) <|
  mi_cI (mi_put_ok (by decide +kernel) fl_X7_141 rfl rfl) <|
  mi_cI (mi_aload_n_ok (k := 0) (by decide +kernel) rfl rfl) <|
  mi_cC ⟨m_X7_here, rfl, okM_X7_here, 118, 0, by decide +kernel, Or.inl ⟨(by decide +kernel), rfl, (mi_gd5 14 rfl rfl), (mi_gd5 16 rfl rfl), (mi_gd0 35 rfl rfl), 7, _, _, rfl, rfl⟩⟩ <|
  mi_cI (mi_istore_n_ok (k := 2) (by decide +kernel) rfl (by decide) rfl) <|
  mi_cI (mi_iload_n_ok (k := 2) (by decide +kernel) rfl rfl) <|
  mi_cI (mi_bipush_ok (n := 45) (by decide) (by decide +kernel) rfl) <|
  mi_cI (mi_icmp_ne_ok (off := 52) (by decide +kernel) (by decide) rfl) <|
  mi_cI (mi_aload_n_ok (k := 0) (by decide +kernel) rfl rfl) <|
  mi_cI (mi_get_ok (by decide +kernel) fl_X7_105 rfl) <|
  mi_cI (mi_iconst_ok (n := 1) (by decide) (by decide +kernel) rfl) <|
  mi_cI (mi_iadd_ok (by decide +kernel) rfl) <|
  mi_cI (mi_aload_n_ok (k := 0) (by decide +kernel) rfl rfl) <|
  mi_cI (mi_get_ok (by decide +kernel) fl_X7_95 rfl) <|
  mi_cI (mi_icmp_ge_ok (off := 35) (by decide +kernel) (by decide) rfl) <|
  mi_cI (mi_aload_n_ok (k := 0) (by decide +kernel) rfl rfl) <|
  mi_cI (mi_get_ok (by decide +kernel) fl_X7_7 rfl) <|
  mi_cI (mi_aload_n_ok (k := 0) (by decide +kernel) rfl rfl) <|
  mi_cI (mi_get_ok (by decide +kernel) fl_X7_105 rfl) <|
  mi_cI (mi_iconst_ok (n := 1) (by decide) (by decide +kernel) rfl) <|
  mi_cI (mi_iadd_ok (by decide +kernel) rfl) <|
  mi_cI (mi_iald_ok (by decide +kernel) rfl) <|
  mi_cI (mi_bipush_ok (n := 32) (by decide) (by decide +kernel) rfl) <|
  mi_cI (mi_icmp_eq_ok (off := 19) (by decide +kernel) (by decide) rfl) <|
  mi_cI (mi_aload_n_ok (k := 0) (by decide +kernel) rfl rfl) <|
  mi_cI (mi_get_ok (by decide +kernel) fl_X7_7 rfl) <|
  mi_cI (mi_aload_n_ok (k := 0) (by decide +kernel) rfl rfl) <|
  mi_cI (mi_get_ok (by decide +kernel) fl_X7_105 rfl) <|
  mi_cI (mi_iconst_ok (n := 1) (by decide) (by decide +kernel) rfl) <|
  mi_cI (mi_iadd_ok (by decide +kernel) rfl) <|
  mi_cI (mi_iald_ok (by decide +kernel) rfl) <|
  mi_cI (mi_bipush_ok (n := 10) (by decide) (by decide +kernel) rfl) <|
  mi_cI (mi_icmp_ne_ok (off := 7) (by decide +kernel) (by decide) rfl) <|
  mi_cI (mi_iconst_ok (n := 1) (by decide) (by decide +kernel) rfl) <|
  mi_cI (mi_goto_ok (off := 4) (by decide +kernel) (by decide)) <|
  mi_cI (mi_iconst_ok (n := 0) (by decide) (by decide +kernel) rfl) <|
  mi_cI (mi_istore_n_ok (k := 3) (by decide +kernel) rfl (by decide) rfl) <|
  mi_cI (mi_iload_n_ok (k := 3) (by decide +kernel) rfl rfl) <|
  mi_cI (mi_if_eq_ok (off := 21) (by decide +kernel) (by decide) rfl) <|
  mi_cI (mi_aload_n_ok (k := 0) (by decide +kernel) rfl rfl) <|
  mi_cI (mi_iconst_ok (n := 0) (by decide) (by decide +kernel) rfl) <|
  mi_cI (mi_put_ok (by decide +kernel) fl_X7_138 rfl rfl) <|
  mi_cI (mi_aload_n_ok (k := 0) (by decide +kernel) rfl rfl) <|
  mi_cI (mi_dup_ok (by decide +kernel) rfl) <|
  mi_cI (mi_get_ok (by decide +kernel) fl_X7_105 rfl) <|
  mi_cI (mi_iconst_ok (n := 1) (by decide) (by decide +kernel) rfl) <|
  mi_cI (mi_iadd_ok (by decide +kernel) rfl) <|
  mi_cI (mi_put_ok (by decide +kernel) fl_X7_105 rfl rfl) <|
  mi_cI (mi_goto_ok (off := 123) (by decide +kernel) (by decide)) <|
  mi_cI (mi_iload_n_ok (k := 1) (by decide +kernel) rfl rfl) <|
  mi_cI (mi_iconst_ok (n := 2) (by decide) (by decide +kernel) rfl) <|
  mi_cI (mi_icmp_ne_ok (off := 35) (by decide +kernel) (by decide) rfl) <|
  mi_cI (mi_aload_n_ok (k := 0) (by decide +kernel) rfl rfl) <|
  mi_cI (mi_iconst_ok (n := 3) (by decide) (by decide +kernel) rfl) <|
  mi_cI (mi_put_ok (by decide +kernel) fl_X7_138 rfl rfl) <|
  mi_cI (mi_iload_n_ok (k := 2) (by decide +kernel) rfl rfl) <|
  mi_cI (mi_bipush_ok (n := 45) (by decide) (by decide +kernel) rfl) <|
  mi_cI (mi_icmp_ne_ok (off := 17) (by decide +kernel) (by decide) rfl) <|
  mi_cI (mi_aload_n_ok (k := 0) (by decide +kernel) rfl rfl) <|
  mi_cI (mi_iconst_ok (n := 1) (by decide) (by decide +kernel) rfl) <|
  mi_cI (mi_aload_n_ok (k := 0) (by decide +kernel) rfl rfl) <|
  mi_cI (mi_get_ok (by decide +kernel) fl_X7_105 rfl) <|
  mi_cI (mi_iconst_ok (n := 1) (by decide) (by decide +kernel) rfl) <|
  mi_cI (mi_iadd_ok (by decide +kernel) rfl) <|
  mi_cC ⟨m_X7_wrong, rfl, okM_X7_wrong, 122, 2, by decide +kernel, Or.inl ⟨(by decide +kernel), rfl, (mi_gd5 22 rfl rfl), (mi_gd5 24 rfl rfl), (mi_gd0 37 rfl rfl), 7, _, _, rfl, rfl⟩⟩ <|
  mi_cI (mi_goto_ok (off := 93) (by decide +kernel) (by decide)) <|
  mi_cI (mi_aload_n_ok (k := 0) (by decide +kernel) rfl rfl) <|
  mi_cC ⟨m_X7_readName, rfl, okM_X7_readName, 151, 0, by decide +kernel, Or.inl ⟨(by decide +kernel), rfl, (mi_gd5 45 rfl rfl), (mi_gd5 47 rfl rfl), (mi_gd0 42 rfl rfl), 7, _, _, rfl, rfl⟩⟩ <|
  mi_cI (mi_goto_ok (off := 86) (by decide +kernel) (by decide)) <|
  mi_cI (mi_iload_n_ok (k := 1) (by decide +kernel) rfl rfl) <|
  mi_cI (mi_iconst_ok (n := 2) (by decide) (by decide +kernel) rfl) <|
  mi_cI (mi_icmp_ge_ok (off := 76) (by decide +kernel) (by decide) rfl) <|
  mi_cI (mi_iload_n_ok (k := 2) (by decide +kernel) rfl rfl) <|
  mi_cI (mi_bipush_ok (n := 34) (by decide) (by decide +kernel) rfl) <|
  mi_cI (mi_icmp_eq_ok (off := 17) (by decide +kernel) (by decide) rfl) <|
  mi_cI (mi_iload_n_ok (k := 2) (by decide +kernel) rfl rfl) <|
  mi_cC ⟨m_X7_isPlain, rfl, okM_X7_isPlain, 129, 1, by decide +kernel, Or.inr (Or.inr ⟨(by decide +kernel), rfl, (mi_gd5 58 rfl rfl), Or.inl (mi_gd5 57 rfl rfl)⟩)⟩ <|
  mi_cI (mi_if_eq_ok (off := 22) (by decide +kernel) (by decide) rfl) <|
  mi_cI (mi_iload_n_ok (k := 2) (by decide +kernel) rfl rfl) <|
  mi_cC ⟨m_X7_isFigure, rfl, okM_X7_isFigure, 114, 1, by decide +kernel, Or.inr (Or.inr ⟨(by decide +kernel), rfl, (mi_gd5 39 rfl rfl), Or.inl (mi_gd5 38 rfl rfl)⟩)⟩ <|
  mi_cI (mi_if_ne_ok (off := 15) (by decide +kernel) (by decide) rfl) <|
  mi_cI (mi_aload_n_ok (k := 0) (by decide +kernel) rfl rfl) <|
  mi_cI (mi_iconst_ok (n := 3) (by decide) (by decide +kernel) rfl) <|
  mi_cI (mi_aload_n_ok (k := 0) (by decide +kernel) rfl rfl) <|
  mi_cI (mi_get_ok (by decide +kernel) fl_X7_105 rfl) <|
  mi_cC ⟨m_X7_wrong, rfl, okM_X7_wrong, 122, 2, by decide +kernel, Or.inl ⟨(by decide +kernel), rfl, (mi_gd5 22 rfl rfl), (mi_gd5 24 rfl rfl), (mi_gd0 37 rfl rfl), 7, _, _, rfl, rfl⟩⟩ <|
  mi_cI (mi_goto_ok (off := 49) (by decide +kernel) (by decide)) <|
  mi_cI (mi_iload_n_ok (k := 2) (by decide +kernel) rfl rfl) <|
  mi_cI (mi_bipush_ok (n := 45) (by decide) (by decide +kernel) rfl) <|
  mi_cI (mi_icmp_eq_ok (off := 10) (by decide +kernel) (by decide) rfl) <|
  mi_cI (mi_iload_n_ok (k := 2) (by decide +kernel) rfl rfl) <|
  mi_cC ⟨m_X7_isFigure, rfl, okM_X7_isFigure, 114, 1, by decide +kernel, Or.inr (Or.inr ⟨(by decide +kernel), rfl, (mi_gd5 39 rfl rfl), Or.inl (mi_gd5 38 rfl rfl)⟩)⟩ <|
  mi_cI (mi_if_eq_ok (off := 19) (by decide +kernel) (by decide) rfl) <|
  mi_cI (mi_aload_n_ok (k := 0) (by decide +kernel) rfl rfl) <|
  mi_cI (mi_iload_n_ok (k := 1) (by decide +kernel) rfl rfl) <|
  mi_cI (mi_if_ne_ok (off := 7) (by decide +kernel) (by decide) rfl) <|
  mi_cI (mi_iconst_ok (n := 1) (by decide) (by decide +kernel) rfl) <|
  mi_cI (mi_goto_ok (off := 4) (by decide +kernel) (by decide)) <|
  mi_cI (mi_iconst_ok (n := 0) (by decide) (by decide +kernel) rfl) <|
  mi_cC ⟨m_X7_readNumber, rfl, okM_X7_readNumber, 147, 1, by decide +kernel, Or.inl ⟨(by decide +kernel), rfl, (mi_gd5 84 rfl rfl), (mi_gd5 86 rfl rfl), (mi_gd0 51 rfl rfl), 7, _, _, rfl, rfl⟩⟩ <|
  mi_cI (mi_goto_ok (off := 20) (by decide +kernel) (by decide)) <|
  mi_cI (mi_aload_n_ok (k := 0) (by decide +kernel) rfl rfl) <|
  mi_cI (mi_iconst_ok (n := 1) (by decide) (by decide +kernel) rfl) <|
  mi_cI (mi_aload_n_ok (k := 0) (by decide +kernel) rfl rfl) <|
  mi_cI (mi_get_ok (by decide +kernel) fl_X7_105 rfl) <|
  mi_cC ⟨m_X7_wrong, rfl, okM_X7_wrong, 122, 2, by decide +kernel, Or.inl ⟨(by decide +kernel), rfl, (mi_gd5 22 rfl rfl), (mi_gd5 24 rfl rfl), (mi_gd0 37 rfl rfl), 7, _, _, rfl, rfl⟩⟩ <|
  mi_cI (mi_goto_ok (off := 8) (by decide +kernel) (by decide)) <|
  mi_cI (mi_aload_n_ok (k := 0) (by decide +kernel) rfl rfl) <|
  mi_cI (mi_iload_n_ok (k := 2) (by decide +kernel) rfl rfl) <|
  mi_cC ⟨m_X7_readAny, rfl, okM_X7_readAny, 154, 1, by decide +kernel, Or.inl ⟨(by decide +kernel), rfl, (mi_gd5 92 rfl rfl), (mi_gd5 94 rfl rfl), (mi_gd0 53 rfl rfl), 7, _, _, rfl, rfl⟩⟩ <|
  mi_cR (Or.inl ⟨rfl, (by decide +kernel), rfl⟩) <| mi_cN
end MJ4
