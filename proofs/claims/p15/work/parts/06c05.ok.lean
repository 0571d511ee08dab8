section MJ5
set_option maxRecDepth 100000 in
set_option maxHeartbeats 4000000 in
theorem ok_X7_readAny : ∀ q ∈ t_X7_readAny, mi_OkE mi_ms RX7 cX7_readAny 3 false none q :=
  mi_cI (mi_iload_n_ok (k := 1) (by decide +kernel) rfl rfl) <|
  mi_cI (mi_bipush_ok (n := 45) (by decide) (by decide +kernel) rfl) <|
  mi_cI (mi_icmp_ne_ok (off := 7) (by decide +kernel) (by decide) rfl) <|
  mi_cI (mi_iconst_ok (n := 2) (by decide) (by decide +kernel) rfl) <|
  mi_cI (mi_goto_ok (off := 18) (by decide +kernel) (by decide)) <|
  mi_cI (mi_iload_n_ok (k := 1) (by decide +kernel) rfl rfl) <|
  mi_cC ⟨m_X7_isPlain, rfl, okM_X7_isPlain, 129, 1, by decide +kernel, Or.inr (Or.inr ⟨(by decide +kernel), rfl, (mi_gd5 58 rfl rfl), Or.inl (mi_gd5 57 rfl rfl)⟩)⟩ <|
  mi_cI (mi_if_eq_ok (off := 10) (by decide +kernel) (by decide) rfl) <|
  mi_cI (mi_aload_n_ok (k := 0) (by decide +kernel) rfl rfl) <|
  mi_cC ⟨m_X7_plainSort, rfl, okM_X7_plainSort, 158, 0, by decide +kernel, Or.inl ⟨(by decide +kernel), rfl, (mi_gd5 96 rfl rfl), (mi_gd5 98 rfl rfl), (mi_gd0 54 rfl rfl), 7, _, _, rfl, rfl⟩⟩ <|
  mi_cI (mi_goto_ok (off := 4) (by decide +kernel) (by decide)) <|
  mi_cI (mi_iconst_ok (n := 3) (by decide) (by decide +kernel) rfl) <|
  mi_cI (mi_istore_n_ok (k := 2) (by decide +kernel) rfl (by decide) rfl) <|
  mi_cI (mi_iload_n_ok (k := 2) (by decide +kernel) rfl rfl) <|
  mi_cI (mi_iconst_ok (n := 3) (by decide) (by decide +kernel) rfl) <|
  mi_cI (mi_icmp_ne_ok (off := 15) (by decide +kernel) (by decide) rfl) <|
  mi_cI (mi_aload_n_ok (k := 0) (by decide +kernel) rfl rfl) <|
  mi_cI (mi_iconst_ok (n := 3) (by decide) (by decide +kernel) rfl) <|
  mi_cI (mi_put_ok (by decide +kernel) fl_X7_138 rfl rfl) <|
  mi_cI (mi_aload_n_ok (k := 0) (by decide +kernel) rfl rfl) <|
  mi_cC ⟨m_X7_readName, rfl, okM_X7_readName, 151, 0, by decide +kernel, Or.inl ⟨(by decide +kernel), rfl, (mi_gd5 45 rfl rfl), (mi_gd5 47 rfl rfl), (mi_gd0 42 rfl rfl), 7, _, _, rfl, rfl⟩⟩ <|
  mi_cI (mi_goto_ok (off := 26) (by decide +kernel) (by decide)) <|
  mi_cI (mi_iload_n_ok (k := 1) (by decide +kernel) rfl rfl) <|
  mi_cI (mi_bipush_ok (n := 45) (by decide) (by decide +kernel) rfl) <|
  mi_cI (mi_icmp_eq_ok (off := 8) (by decide +kernel) (by decide) rfl) <|
  mi_cI (mi_iload_n_ok (k := 2) (by decide +kernel) rfl rfl) <|
  mi_cI (mi_iconst_ok (n := 1) (by decide) (by decide +kernel) rfl) <|
  mi_cI (mi_icmp_ne_ok (off := 11) (by decide +kernel) (by decide) rfl) <|
  mi_cI (mi_aload_n_ok (k := 0) (by decide +kernel) rfl rfl) <|
  mi_cI (mi_iconst_ok (n := 0) (by decide) (by decide +kernel) rfl) <|
  mi_cC ⟨m_X7_readNumber, rfl, okM_X7_readNumber, 147, 1, by decide +kernel, Or.inl ⟨(by decide +kernel), rfl, (mi_gd5 84 rfl rfl), (mi_gd5 86 rfl rfl), (mi_gd0 51 rfl rfl), 7, _, _, rfl, rfl⟩⟩ <|
  mi_cI (mi_goto_ok (off := 7) (by decide +kernel) (by decide)) <|
  mi_cI (mi_aload_n_ok (k := 0) (by decide +kernel) rfl rfl) <|
  mi_cC ⟨m_X7_readPlainDecimal, rfl, okM_X7_readPlainDecimal, 161, 0, by decide +kernel, Or.inl ⟨(by decide +kernel), rfl, (mi_gd5 100 rfl rfl), (mi_gd5 102 rfl rfl), (mi_gd0 55 rfl rfl), 7, _, _, rfl, rfl⟩⟩ <|
  mi_cR (Or.inl ⟨rfl, (by decide +kernel), rfl⟩) <| mi_cN
set_option maxRecDepth 100000 in
set_option maxHeartbeats 4000000 in
theorem ok_X7_isSame : ∀ q ∈ t_X7_isSame, mi_OkE mi_ms RX7 cX7_isSame 5 false (some .boolean) q :=
  mi_cI (mi_aload_n_ok (k := 1) (by decide +kernel) rfl rfl) <|
  mi_cI (mi_iload_n_ok (k := 2) (by decide +kernel) rfl rfl) <|
  mi_cI (mi_iald_ok (by decide +kernel) rfl) <|
  mi_cI (mi_aload_n_ok (k := 0) (by decide +kernel) rfl rfl) <|
  mi_cI (mi_get_ok (by decide +kernel) fl_X7_77 rfl) <|
  mi_cI (mi_iconst_ok (n := 0) (by decide) (by decide +kernel) rfl) <|
  mi_cI (mi_iald_ok (by decide +kernel) rfl) <|
  mi_cI (mi_icmp_ne_ok (off := 7) (by decide +kernel) (by decide) rfl) <|
  mi_cI (mi_iconst_ok (n := 1) (by decide) (by decide +kernel) rfl) <|
  mi_cI (mi_goto_ok (off := 4) (by decide +kernel) (by decide)) <|
  mi_cI (mi_iconst_ok (n := 0) (by decide) (by decide +kernel) rfl) <|
  mi_cI (mi_istore_n_ok (k := 3) (by decide +kernel) rfl (by decide) rfl) <|
  mi_cI (mi_iconst_ok (n := 1) (by decide) (by decide +kernel) rfl) <|
  mi_cI (mi_istore_ok (by decide +kernel) (by decide) rfl) <|
  mi_cI (mi_iload_ok (by decide +kernel) rfl) <|
  mi_cI (mi_aload_n_ok (k := 0) (by decide +kernel) rfl rfl) <|
  mi_cI (mi_get_ok (by decide +kernel) fl_X7_77 rfl) <|
  mi_cI (mi_iconst_ok (n := 0) (by decide) (by decide +kernel) rfl) <|
  mi_cI (mi_iald_ok (by decide +kernel) rfl) <|
  mi_cI (mi_icmp_gt_ok (off := 35) (by decide +kernel) (by decide) rfl) <|
  mi_cI (mi_iload_n_ok (k := 3) (by decide +kernel) rfl rfl) <|
  mi_cI (mi_if_eq_ok (off := 31) (by decide +kernel) (by decide) rfl) <|
  mi_cI (mi_aload_n_ok (k := 1) (by decide +kernel) rfl rfl) <|
  mi_cI (mi_iload_n_ok (k := 2) (by decide +kernel) rfl rfl) <|
  mi_cI (mi_iload_ok (by decide +kernel) rfl) <|
  mi_cI (mi_iadd_ok (by decide +kernel) rfl) <|
  mi_cI (mi_iald_ok (by decide +kernel) rfl) <|
  mi_cI (mi_aload_n_ok (k := 0) (by decide +kernel) rfl rfl) <|
  mi_cI (mi_get_ok (by decide +kernel) fl_X7_77 rfl) <|
  mi_cI (mi_iload_ok (by decide +kernel) rfl) <|
  mi_cI (mi_iald_ok (by decide +kernel) rfl) <|
  mi_cI (mi_icmp_ne_ok (off := 7) (by decide +kernel) (by decide) rfl) <|
  mi_cI (mi_iconst_ok (n := 1) (by decide) (by decide +kernel) rfl) <|
  mi_cI (mi_goto_ok (off := 4) (by decide +kernel) (by decide)) <|
  mi_cI (mi_iconst_ok (n := 0) (by decide) (by decide +kernel) rfl) <|
  mi_cI (mi_istore_n_ok (k := 3) (by decide +kernel) rfl (by decide) rfl) <|
  mi_cI (mi_inc_ok (by decide +kernel) (by decide) rfl) <|
  mi_cI (mi_goto_ok (off := (-40)) (by decide +kernel) (by decide)) <|
  mi_cI (mi_iload_n_ok (k := 3) (by decide +kernel) rfl rfl) <|
  mi_cR (Or.inr (Or.inr (Or.inl ⟨rfl, (by decide +kernel), rfl⟩))) <| mi_cN
set_option maxRecDepth 100000 in
set_option maxHeartbeats 4000000 in
theorem ok_X7_layName : ∀ q ∈ t_X7_layName, mi_OkE mi_ms RX7 cX7_layName 4 false none q :=
  mi_cI (mi_iconst_ok (n := 0) (by decide) (by decide +kernel) rfl) <|
  mi_cI (mi_istore_n_ok (k := 3) (by decide +kernel) rfl (by decide) rfl) <|
  mi_cI (mi_iload_n_ok (k := 3) (by decide +kernel) rfl rfl) <|
  mi_cI (mi_aload_n_ok (k := 0) (by decide +kernel) rfl rfl) <|
  mi_cI (mi_get_ok (by decide +kernel) fl_X7_77 rfl) <|
  mi_cI (mi_iconst_ok (n := 0) (by decide) (by decide +kernel) rfl) <|
  mi_cI (mi_iald_ok (by decide +kernel) rfl) <|
  mi_cI (mi_icmp_gt_ok (off := 20) (by decide +kernel) (by decide) rfl) <|
  mi_cI (mi_aload_n_ok (k := 1) (by decide +kernel) rfl rfl) <|
  mi_cI (mi_iload_n_ok (k := 2) (by decide +kernel) rfl rfl) <|
  mi_cI (mi_iload_n_ok (k := 3) (by decide +kernel) rfl rfl) <|
  mi_cI (mi_iadd_ok (by decide +kernel) rfl) <|
  mi_cI (mi_aload_n_ok (k := 0) (by decide +kernel) rfl rfl) <|
  mi_cI (mi_get_ok (by decide +kernel) fl_X7_77 rfl) <|
  mi_cI (mi_iload_n_ok (k := 3) (by decide +kernel) rfl rfl) <|
  mi_cI (mi_iald_ok (by decide +kernel) rfl) <|
  mi_cI (mi_iast_ok (by decide +kernel) rfl) <|
  mi_cI (mi_inc_ok (by decide +kernel) (by decide) rfl) <|
  mi_cI (mi_goto_ok (off := (-24)) (by decide +kernel) (by decide)) <|
  mi_cR (Or.inl ⟨rfl, (by decide +kernel), rfl⟩) <| mi_cN
set_option maxRecDepth 100000 in
set_option maxHeartbeats 4000000 in
theorem ok_X7_laySort : ∀ q ∈ t_X7_laySort, mi_OkE mi_ms RX7 cX7_laySort 2 false none q :=
  mi_cI (mi_aload_n_ok (k := 0) (by decide +kernel) rfl rfl) <|
  mi_cI (mi_get_ok (by decide +kernel) fl_X7_68 rfl) <|
  mi_cI (mi_sipush_ok (n := 601) (by decide) (by decide +kernel) rfl) <|
  mi_cI (mi_aload_n_ok (k := 0) (by decide +kernel) rfl rfl) <|
  mi_cI (mi_get_ok (by decide +kernel) fl_X7_65 rfl) <|
  mi_cI (mi_iconst_ok (n := 1) (by decide) (by decide +kernel) rfl) <|
  mi_cI (mi_iald_ok (by decide +kernel) rfl) <|
  mi_cI (mi_iadd_ok (by decide +kernel) rfl) <|
  mi_cI (mi_iload_n_ok (k := 1) (by decide +kernel) rfl rfl) <|
  mi_cI (mi_iast_ok (by decide +kernel) rfl) <|
  mi_cI (mi_aload_n_ok (k := 0) (by decide +kernel) rfl rfl) <|
  mi_cI (mi_get_ok (by decide +kernel) fl_X7_65 rfl) <|
  mi_cI (mi_iconst_ok (n := 1) (by decide) (by decide +kernel) rfl) <|
  mi_cI (mi_dup2_ok (by decide +kernel) rfl) <|
  mi_cI (mi_iald_ok (by decide +kernel) rfl) <|
  mi_cI (mi_iconst_ok (n := 1) (by decide) (by decide +kernel) rfl) <|
  mi_cI (mi_iadd_ok (by decide +kernel) rfl) <|
  mi_cI (mi_iast_ok (by decide +kernel) rfl) <|
  mi_cR (Or.inl ⟨rfl, (by decide +kernel), rfl⟩) <| mi_cN
set_option maxRecDepth 100000 in
set_option maxHeartbeats 4000000 in
theorem ok_X7_readComment : ∀ q ∈ t_X7_readComment, mi_OkE mi_ms RX7 cX7_readComment 3 false none q :=
  mi_cI (mi_aload_n_ok (k := 0) (by decide +kernel) rfl rfl) <|
  mi_cI (mi_dup_ok (by decide +kernel) rfl) <|
  mi_cI (mi_get_ok (by decide +kernel) fl_X7_105 rfl) <|
  mi_cI (mi_iconst_ok (n := 1) (by decide) (by decide +kernel) rfl) <|
  mi_cI (mi_iadd_ok (by decide +kernel) rfl) <|
  mi_cI (mi_put_ok (by decide +kernel) fl_X7_105 rfl rfl) <|
  mi_cI (mi_sipush_ok (n := 6300) (by decide) (by decide +kernel) rfl) <|
  mi_cI (mi_bipush_ok (n := 21) (by decide) (by decide +kernel) rfl) <|
  mi_cI (mi_aload_n_ok (k := 0) (by decide +kernel) rfl rfl) <|
  mi_cI (mi_get_ok (by decide +kernel) fl_X7_59 rfl) <|
  mi_cI (mi_iconst_ok (n := 1) (by decide) (by decide +kernel) rfl) <|
  mi_cI (mi_iald_ok (by decide +kernel) rfl) <|
  mi_cI (mi_imul_ok (by decide +kernel) rfl) <|
  mi_cI (mi_iadd_ok (by decide +kernel) rfl) <|
  mi_cI (mi_istore_n_ok (k := 1) (by decide +kernel) rfl (by decide) rfl) <|
  mi_cI (mi_iconst_ok (n := 0) (by decide) (by decide +kernel) rfl) <|
  mi_cI (mi_istore_n_ok (k := 2) (by decide +kernel) rfl (by decide) rfl) <|
  mi_cI (mi_aload_n_ok (k := 0) (by decide +kernel) rfl rfl) <|
  mi_cI (mi_get_ok (by decide +kernel) fl_X7_108 rfl) <|
  mi_cI (mi_if_ne_ok (off := 83) (by decide +kernel) (by decide) rfl) <|
  mi_cI (mi_aload_n_ok (k := 0) (by decide +kernel) rfl rfl) <|
  mi_cC ⟨m_X7_here, rfl, okM_X7_here, 118, 0, by decide +kernel, Or.inl ⟨(by decide +kernel), rfl, (mi_gd5 14 rfl rfl), (mi_gd5 16 rfl rfl), (mi_gd0 35 rfl rfl), 7, _, _, rfl, rfl⟩⟩ <|
  mi_cI (mi_iconst_ok (n := (-1)) (by decide) (by decide +kernel) rfl) <|
  mi_cI (mi_icmp_eq_ok (off := 75) (by decide +kernel) (by decide) rfl) <|
  mi_cI (mi_aload_n_ok (k := 0) (by decide +kernel) rfl rfl) <|
  mi_cC ⟨m_X7_here, rfl, okM_X7_here, 118, 0, by decide +kernel, Or.inl ⟨(by decide +kernel), rfl, (mi_gd5 14 rfl rfl), (mi_gd5 16 rfl rfl), (mi_gd0 35 rfl rfl), 7, _, _, rfl, rfl⟩⟩ <|
  mi_cI (mi_bipush_ok (n := 32) (by decide) (by decide +kernel) rfl) <|
  mi_cI (mi_bipush_ok (n := 126) (by decide) (by decide +kernel) rfl) <|
  mi_cC ⟨m_X7_in, rfl, okM_X7_in, 101, 3, by decide +kernel, Or.inr (Or.inr ⟨(by decide +kernel), rfl, (mi_gd5 0 rfl rfl), Or.inl (mi_gd4 239 rfl rfl)⟩)⟩ <|
  mi_cI (mi_if_ne_ok (off := 15) (by decide +kernel) (by decide) rfl) <|
  mi_cI (mi_aload_n_ok (k := 0) (by decide +kernel) rfl rfl) <|
  mi_cI (mi_iconst_ok (n := 1) (by decide) (by decide +kernel) rfl) <|
  mi_cI (mi_aload_n_ok (k := 0) (by decide +kernel) rfl rfl) <|
  mi_cI (mi_get_ok (by decide +kernel) fl_X7_105 rfl) <|
  mi_cC ⟨m_X7_wrong, rfl, okM_X7_wrong, 122, 2, by decide +kernel, Or.inl ⟨(by decide +kernel), rfl, (mi_gd5 22 rfl rfl), (mi_gd5 24 rfl rfl), (mi_gd0 37 rfl rfl), 7, _, _, rfl, rfl⟩⟩ <|
  mi_cI (mi_goto_ok (off := (-38)) (by decide +kernel) (by decide)) <|
  mi_cI (mi_iload_n_ok (k := 2) (by decide +kernel) rfl rfl) <|
  mi_cI (mi_bipush_ok (n := 20) (by decide) (by decide +kernel) rfl) <|
  mi_cI (mi_icmp_ne_ok (off := 15) (by decide +kernel) (by decide) rfl) <|
  mi_cI (mi_aload_n_ok (k := 0) (by decide +kernel) rfl rfl) <|
  mi_cI (mi_iconst_ok (n := 2) (by decide) (by decide +kernel) rfl) <|
  mi_cI (mi_aload_n_ok (k := 0) (by decide +kernel) rfl rfl) <|
  mi_cI (mi_get_ok (by decide +kernel) fl_X7_105 rfl) <|
  mi_cC ⟨m_X7_wrong, rfl, okM_X7_wrong, 122, 2, by decide +kernel, Or.inl ⟨(by decide +kernel), rfl, (mi_gd5 22 rfl rfl), (mi_gd5 24 rfl rfl), (mi_gd0 37 rfl rfl), 7, _, _, rfl, rfl⟩⟩ <|
  mi_cI (mi_goto_ok (off := (-56)) (by decide +kernel) (by decide)) <|
  mi_cI (mi_inc_ok (by decide +kernel) (by decide) rfl) <|
  mi_cI (mi_aload_n_ok (k := 0) (by decide +kernel) rfl rfl) <|
  mi_cI (mi_get_ok (by decide +kernel) fl_X7_62 rfl) <|
  mi_cI (mi_iload_n_ok (k := 1) (by decide +kernel) rfl rfl) <|
  mi_cI (mi_iload_n_ok (k := 2) (by decide +kernel) rfl rfl) <|
  mi_cI (mi_iadd_ok (by decide +kernel) rfl) <|
  mi_cI (mi_aload_n_ok (k := 0) (by decide +kernel) rfl rfl) <|
  mi_cC ⟨m_X7_here, rfl, okM_X7_here, 118, 0, by decide +kernel, Or.inl ⟨(by decide +kernel), rfl, (mi_gd5 14 rfl rfl), (mi_gd5 16 rfl rfl), (mi_gd0 35 rfl rfl), 7, _, _, rfl, rfl⟩⟩ <|
  mi_cI (mi_iast_ok (by decide +kernel) rfl) <|
  mi_cI (mi_aload_n_ok (k := 0) (by decide +kernel) rfl rfl) <|
  mi_cI (mi_dup_ok (by decide +kernel) rfl) <|
  mi_cI (mi_get_ok (by decide +kernel) fl_X7_105 rfl) <|
  mi_cI (mi_iconst_ok (n := 1) (by decide) (by decide +kernel) rfl) <|
  mi_cI (mi_iadd_ok (by decide +kernel) rfl) <|
  mi_cI (mi_put_ok (by decide +kernel) fl_X7_105 rfl rfl) <|
  mi_cI (mi_goto_ok (off := (-84)) (by decide +kernel) (by decide)) <|
  mi_cI (mi_aload_n_ok (k := 0) (by decide +kernel) rfl rfl) <|
  mi_cI (mi_get_ok (by decide +kernel) fl_X7_62 rfl) <|
  mi_cI (mi_iload_n_ok (k := 1) (by decide +kernel) rfl rfl) <|
  mi_cI (mi_iload_n_ok (k := 2) (by decide +kernel) rfl rfl) <|
  mi_cI (mi_iast_ok (by decide +kernel) rfl) <|
  mi_cI (mi_aload_n_ok (k := 0) (by decide +kernel) rfl rfl) <|
  mi_cI (mi_get_ok (by decide +kernel) fl_X7_59 rfl) <|
  mi_cI (mi_iconst_ok (n := 1) (by decide) (by decide +kernel) rfl) <|
  mi_cI (mi_dup2_ok (by decide +kernel) rfl) <|
  mi_cI (mi_iald_ok (by decide +kernel) rfl) <|
  mi_cI (mi_iconst_ok (n := 1) (by decide) (by decide +kernel) rfl) <|
  mi_cI (mi_iadd_ok (by decide +kernel) rfl) <|
  mi_cI (mi_iast_ok (by decide +kernel) rfl) <|
  mi_cI (mi_aload_n_ok (k := 0) (by decide +kernel) rfl rfl) <|
  mi_cI (mi_iconst_ok (n := 1) (by decide) (by decide +kernel) rfl) <|
  mi_cC ⟨m_X7_laySort, rfl, okM_X7_laySort, 164, 1, by decide +kernel, Or.inl ⟨(by decide +kernel), rfl, (mi_gd5 26 rfl rfl), (mi_gd5 28 rfl rfl), (mi_gd0 38 rfl rfl), 7, _, _, rfl, rfl⟩⟩ <|
  mi_cR (Or.inl ⟨rfl, (by decide +kernel), rfl⟩) <| mi_cN
set_option maxRecDepth 100000 in
set_option maxHeartbeats 4000000 in
theorem ok_X7_readCount : ∀ q ∈ t_X7_readCount, mi_OkE mi_ms RX7 cX7_readCount 4 false none q :=
  mi_cI (mi_aload_n_ok (k := 0) (by decide +kernel) rfl rfl) <|
  mi_cI (mi_get_ok (by decide +kernel) fl_X7_167 rfl) <|
  mi_cI (mi_if_eq_ok (off := 12) (by decide +kernel) (by decide) rfl) <|
  mi_cI (mi_aload_n_ok (k := 0) (by decide +kernel) rfl rfl) <|
  mi_cI (mi_iconst_ok (n := 4) (by decide) (by decide +kernel) rfl) <|
  mi_cI (mi_aload_n_ok (k := 0) (by decide +kernel) rfl rfl) <|
  mi_cI (mi_get_ok (by decide +kernel) fl_X7_105 rfl) <|
  mi_cC ⟨m_X7_wrong, rfl, okM_X7_wrong, 122, 2, by decide +kernel, Or.inl ⟨(by decide +kernel), rfl, (mi_gd5 22 rfl rfl), (mi_gd5 24 rfl rfl), (mi_gd0 37 rfl rfl), 7, _, _, rfl, rfl⟩⟩ <|
  mi_cI (mi_aload_n_ok (k := 0) (by decide +kernel) rfl rfl) <|
  mi_cI (mi_dup_ok (by decide +kernel) rfl) <|
  mi_cI (mi_get_ok (by decide +kernel) fl_X7_105 rfl) <|
  mi_cI (mi_iconst_ok (n := 1) (by decide) (by decide +kernel) rfl) <|
  mi_cI (mi_iadd_ok (by decide +kernel) rfl) <|
  mi_cI (mi_put_ok (by decide +kernel) fl_X7_105 rfl rfl) <|
  mi_cI (mi_aload_n_ok (k := 0) (by decide +kernel) rfl rfl) <|
  mi_cI (mi_iconst_ok (n := 1) (by decide) (by decide +kernel) rfl) <|
  mi_cI (mi_put_ok (by decide +kernel) fl_X7_167 rfl rfl) <|
  mi_cI (mi_iconst_ok (n := 0) (by decide) (by decide +kernel) rfl) <|
  mi_cI (mi_istore_n_ok (k := 1) (by decide +kernel) rfl (by decide) rfl) <|
  mi_cI (mi_iload_n_ok (k := 1) (by decide +kernel) rfl rfl) <|
  mi_cI (mi_iconst_ok (n := 2) (by decide) (by decide +kernel) rfl) <|
  mi_cI (mi_icmp_ge_ok (off := 136) (by decide +kernel) (by decide) rfl) <|
  mi_cI (mi_aload_n_ok (k := 0) (by decide +kernel) rfl rfl) <|
  mi_cI (mi_get_ok (by decide +kernel) fl_X7_108 rfl) <|
  mi_cI (mi_if_ne_ok (off := 129) (by decide +kernel) (by decide) rfl) <|
  mi_cI (mi_aload_n_ok (k := 0) (by decide +kernel) rfl rfl) <|
  mi_cC ⟨m_X7_ended, rfl, okM_X7_ended, 135, 0, by decide +kernel, Or.inl ⟨(by decide +kernel), rfl, (mi_gd5 34 rfl rfl), (mi_gd5 36 rfl rfl), (mi_gd0 40 rfl rfl), 7, _, _, rfl, rfl⟩⟩ <|
  mi_cI (mi_aload_n_ok (k := 0) (by decide +kernel) rfl rfl) <|
  mi_cC ⟨m_X7_blanks, rfl, okM_X7_blanks, 171, 0, by decide +kernel, Or.inl ⟨(by decide +kernel), rfl, (mi_gd5 10 rfl rfl), (mi_gd5 12 rfl rfl), (mi_gd0 34 rfl rfl), 7, _, _, rfl, rfl⟩⟩ <|
  mi_cI (mi_aload_n_ok (k := 0) (by decide +kernel) rfl rfl) <|
  mi_cI (mi_get_ok (by decide +kernel) fl_X7_80 rfl) <|
  mi_cI (mi_iload_n_ok (k := 1) (by decide +kernel) rfl rfl) <|
  mi_cI (mi_aload_n_ok (k := 0) (by decide +kernel) rfl rfl) <|
  mi_cI (mi_get_ok (by decide +kernel) fl_X7_105 rfl) <|
  mi_cI (mi_iast_ok (by decide +kernel) rfl) <|
  mi_cI (mi_aload_n_ok (k := 0) (by decide +kernel) rfl rfl) <|
  mi_cI (mi_get_ok (by decide +kernel) fl_X7_83 rfl) <|
  mi_cI (mi_iload_n_ok (k := 1) (by decide +kernel) rfl rfl) <|
  mi_cI (mi_aload_n_ok (k := 0) (by decide +kernel) rfl rfl) <|
  mi_cI (mi_get_ok (by decide +kernel) fl_X7_174 rfl) <|
  mi_cI (mi_iast_ok (by decide +kernel) rfl) <|
  mi_cI (mi_iconst_ok (n := 0) (by decide) (by decide +kernel) rfl) <|
  mi_cI (mi_istore_n_ok (k := 2) (by decide +kernel) rfl (by decide) rfl) <|
  mi_cI (mi_iconst_ok (n := 0) (by decide) (by decide +kernel) rfl) <|
  mi_cI (mi_istore_n_ok (k := 3) (by decide +kernel) rfl (by decide) rfl) <|
  mi_cI (mi_aload_n_ok (k := 0) (by decide +kernel) rfl rfl) <|
  mi_cC ⟨m_X7_here, rfl, okM_X7_here, 118, 0, by decide +kernel, Or.inl ⟨(by decide +kernel), rfl, (mi_gd5 14 rfl rfl), (mi_gd5 16 rfl rfl), (mi_gd0 35 rfl rfl), 7, _, _, rfl, rfl⟩⟩ <|
  mi_cC ⟨m_X7_isFigure, rfl, okM_X7_isFigure, 114, 1, by decide +kernel, Or.inr (Or.inr ⟨(by decide +kernel), rfl, (mi_gd5 39 rfl rfl), Or.inl (mi_gd5 38 rfl rfl)⟩)⟩ <|
  mi_cI (mi_if_ne_ok (off := 12) (by decide +kernel) (by decide) rfl) <|
  mi_cI (mi_aload_n_ok (k := 0) (by decide +kernel) rfl rfl) <|
  mi_cI (mi_iconst_ok (n := 1) (by decide) (by decide +kernel) rfl) <|
  mi_cI (mi_aload_n_ok (k := 0) (by decide +kernel) rfl rfl) <|
  mi_cI (mi_get_ok (by decide +kernel) fl_X7_105 rfl) <|
  mi_cC ⟨m_X7_wrong, rfl, okM_X7_wrong, 122, 2, by decide +kernel, Or.inl ⟨(by decide +kernel), rfl, (mi_gd5 22 rfl rfl), (mi_gd5 24 rfl rfl), (mi_gd0 37 rfl rfl), 7, _, _, rfl, rfl⟩⟩ <|
  mi_cI (mi_aload_n_ok (k := 0) (by decide +kernel) rfl rfl) <|
  mi_cI (mi_get_ok (by decide +kernel) fl_X7_108 rfl) <|
  mi_cI (mi_if_ne_ok (off := 56) (by decide +kernel) (by decide) rfl) <|
  mi_cI (mi_aload_n_ok (k := 0) (by decide +kernel) rfl rfl) <|
  mi_cC ⟨m_X7_here, rfl, okM_X7_here, 118, 0, by decide +kernel, Or.inl ⟨(by decide +kernel), rfl, (mi_gd5 14 rfl rfl), (mi_gd5 16 rfl rfl), (mi_gd0 35 rfl rfl), 7, _, _, rfl, rfl⟩⟩ <|
  mi_cC ⟨m_X7_isFigure, rfl, okM_X7_isFigure, 114, 1, by decide +kernel, Or.inr (Or.inr ⟨(by decide +kernel), rfl, (mi_gd5 39 rfl rfl), Or.inl (mi_gd5 38 rfl rfl)⟩)⟩ <|
  mi_cI (mi_if_eq_ok (off := 46) (by decide +kernel) (by decide) rfl) <|
  mi_cI (mi_iload_n_ok (k := 2) (by decide +kernel) rfl rfl) <|
  mi_cI (mi_iconst_ok (n := 2) (by decide) (by decide +kernel) rfl) <|
  mi_cI (mi_icmp_ne_ok (off := 12) (by decide +kernel) (by decide) rfl) <|
  mi_cI (mi_aload_n_ok (k := 0) (by decide +kernel) rfl rfl) <|
  mi_cI (mi_iconst_ok (n := 2) (by decide) (by decide +kernel) rfl) <|
  mi_cI (mi_aload_n_ok (k := 0) (by decide +kernel) rfl rfl) <|
  mi_cI (mi_get_ok (by decide +kernel) fl_X7_105 rfl) <|
  mi_cC ⟨m_X7_wrong, rfl, okM_X7_wrong, 122, 2, by decide +kernel, Or.inl ⟨(by decide +kernel), rfl, (mi_gd5 22 rfl rfl), (mi_gd5 24 rfl rfl), (mi_gd0 37 rfl rfl), 7, _, _, rfl, rfl⟩⟩ <|
  mi_cI (mi_bipush_ok (n := 10) (by decide) (by decide +kernel) rfl) <|
  mi_cI (mi_iload_n_ok (k := 3) (by decide +kernel) rfl rfl) <|
  mi_cI (mi_imul_ok (by decide +kernel) rfl) <|
  mi_cI (mi_aload_n_ok (k := 0) (by decide +kernel) rfl rfl) <|
  mi_cC ⟨m_X7_here, rfl, okM_X7_here, 118, 0, by decide +kernel, Or.inl ⟨(by decide +kernel), rfl, (mi_gd5 14 rfl rfl), (mi_gd5 16 rfl rfl), (mi_gd0 35 rfl rfl), 7, _, _, rfl, rfl⟩⟩ <|
  mi_cI (mi_iadd_ok (by decide +kernel) rfl) <|
  mi_cI (mi_bipush_ok (n := 48) (by decide) (by decide +kernel) rfl) <|
  mi_cI (mi_isub_ok (by decide +kernel) rfl) <|
  mi_cI (mi_istore_n_ok (k := 3) (by decide +kernel) rfl (by decide) rfl) <|
  mi_cI (mi_inc_ok (by decide +kernel) (by decide) rfl) <|
  mi_cI (mi_aload_n_ok (k := 0) (by decide +kernel) rfl rfl) <|
  mi_cI (mi_dup_ok (by decide +kernel) rfl) <|
  mi_cI (mi_get_ok (by decide +kernel) fl_X7_105 rfl) <|
  mi_cI (mi_iconst_ok (n := 1) (by decide) (by decide +kernel) rfl) <|
  mi_cI (mi_iadd_ok (by decide +kernel) rfl) <|
  mi_cI (mi_put_ok (by decide +kernel) fl_X7_105 rfl rfl) <|
  mi_cI (mi_goto_ok (off := (-57)) (by decide +kernel) (by decide)) <|
  mi_cI (mi_aload_n_ok (k := 0) (by decide +kernel) rfl rfl) <|
  mi_cI (mi_get_ok (by decide +kernel) fl_X7_71 rfl) <|
  mi_cI (mi_iconst_ok (n := 2) (by decide) (by decide +kernel) rfl) <|
  mi_cI (mi_iload_n_ok (k := 1) (by decide +kernel) rfl rfl) <|
  mi_cI (mi_iadd_ok (by decide +kernel) rfl) <|
  mi_cI (mi_iload_n_ok (k := 3) (by decide +kernel) rfl rfl) <|
  mi_cI (mi_iast_ok (by decide +kernel) rfl) <|
  mi_cI (mi_inc_ok (by decide +kernel) (by decide) rfl) <|
  mi_cI (mi_goto_ok (off := (-135)) (by decide +kernel) (by decide)) <|
  mi_cI (mi_aload_n_ok (k := 0) (by decide +kernel) rfl rfl) <|
  mi_cC ⟨m_X7_ended, rfl, okM_X7_ended, 135, 0, by decide +kernel, Or.inl ⟨(by decide +kernel), rfl, (mi_gd5 34 rfl rfl), (mi_gd5 36 rfl rfl), (mi_gd0 40 rfl rfl), 7, _, _, rfl, rfl⟩⟩ <|
  mi_cI (mi_aload_n_ok (k := 0) (by decide +kernel) rfl rfl) <|
  mi_cI (mi_iconst_ok (n := 2) (by decide) (by decide +kernel) rfl) <|
  mi_cC ⟨m_X7_laySort, rfl, okM_X7_laySort, 164, 1, by decide +kernel, Or.inl ⟨(by decide +kernel), rfl, (mi_gd5 26 rfl rfl), (mi_gd5 28 rfl rfl), (mi_gd0 38 rfl rfl), 7, _, _, rfl, rfl⟩⟩ <|
  mi_cR (Or.inl ⟨rfl, (by decide +kernel), rfl⟩) <| mi_cN
set_option maxRecDepth 100000 in
set_option maxHeartbeats 4000000 in
theorem ok_X7_readHead : ∀ q ∈ t_X7_readHead, mi_OkE mi_ms RX7 cX7_readHead 4 false none q :=
  mi_cI (mi_aload_n_ok (k := 0) (by decide +kernel) rfl rfl) <|
  mi_cI (mi_get_ok (by decide +kernel) fl_X7_177 rfl) <|
  mi_cI (mi_if_ne_ok (off := 13) (by decide +kernel) (by decide) rfl) <|
  mi_cI (mi_aload_n_ok (k := 0) (by decide +kernel) rfl rfl) <|
  mi_cI (mi_get_ok (by decide +kernel) fl_X7_38 rfl) <|
  mi_cI (mi_iconst_ok (n := 1) (by decide) (by decide +kernel) rfl) <|
  mi_cI (mi_iald_ok (by decide +kernel) rfl) <|
  mi_cI (mi_iconst_ok (n := 3) (by decide) (by decide +kernel) rfl) <|
  mi_cI (mi_icmp_ne_ok (off := 12) (by decide +kernel) (by decide) rfl) <|
  mi_cI (mi_aload_n_ok (k := 0) (by decide +kernel) rfl rfl) <|
  mi_cI (mi_iconst_ok (n := 4) (by decide) (by decide +kernel) rfl) <|
  mi_cI (mi_aload_n_ok (k := 0) (by decide +kernel) rfl rfl) <|
  mi_cI (mi_get_ok (by decide +kernel) fl_X7_105 rfl) <|
  mi_cC ⟨m_X7_wrong, rfl, okM_X7_wrong, 122, 2, by decide +kernel, Or.inl ⟨(by decide +kernel), rfl, (mi_gd5 22 rfl rfl), (mi_gd5 24 rfl rfl), (mi_gd0 37 rfl rfl), 7, _, _, rfl, rfl⟩⟩ <|
  mi_cI (mi_aload_n_ok (k := 0) (by decide +kernel) rfl rfl) <|
  mi_cI (mi_dup_ok (by decide +kernel) rfl) <|
  mi_cI (mi_get_ok (by decide +kernel) fl_X7_105 rfl) <|
  mi_cI (mi_iconst_ok (n := 1) (by decide) (by decide +kernel) rfl) <|
  mi_cI (mi_iadd_ok (by decide +kernel) rfl) <|
  mi_cI (mi_put_ok (by decide +kernel) fl_X7_105 rfl rfl) <|
  mi_cI (mi_aload_n_ok (k := 0) (by decide +kernel) rfl rfl) <|
  mi_cC ⟨m_X7_ended, rfl, okM_X7_ended, 135, 0, by decide +kernel, Or.inl ⟨(by decide +kernel), rfl, (mi_gd5 34 rfl rfl), (mi_gd5 36 rfl rfl), (mi_gd0 40 rfl rfl), 7, _, _, rfl, rfl⟩⟩ <|
  mi_cI (mi_aload_n_ok (k := 0) (by decide +kernel) rfl rfl) <|
  mi_cC ⟨m_X7_blanks, rfl, okM_X7_blanks, 171, 0, by decide +kernel, Or.inl ⟨(by decide +kernel), rfl, (mi_gd5 10 rfl rfl), (mi_gd5 12 rfl rfl), (mi_gd0 34 rfl rfl), 7, _, _, rfl, rfl⟩⟩ <|
  mi_cI (mi_aload_n_ok (k := 0) (by decide +kernel) rfl rfl) <|
  mi_cI (mi_get_ok (by decide +kernel) fl_X7_105 rfl) <|
  mi_cI (mi_istore_n_ok (k := 1) (by decide +kernel) rfl (by decide) rfl) <|
  mi_cI (mi_aload_n_ok (k := 0) (by decide +kernel) rfl rfl) <|
  mi_cI (mi_get_ok (by decide +kernel) fl_X7_108 rfl) <|
  mi_cI (mi_if_ne_ok (off := 7) (by decide +kernel) (by decide) rfl) <|
  mi_cI (mi_aload_n_ok (k := 0) (by decide +kernel) rfl rfl) <|
  mi_cC ⟨m_X7_readName, rfl, okM_X7_readName, 151, 0, by decide +kernel, Or.inl ⟨(by decide +kernel), rfl, (mi_gd5 45 rfl rfl), (mi_gd5 47 rfl rfl), (mi_gd0 42 rfl rfl), 7, _, _, rfl, rfl⟩⟩ <|
  mi_cI (mi_iconst_ok (n := 0) (by decide) (by decide +kernel) rfl) <|
  mi_cI (mi_istore_n_ok (k := 2) (by decide +kernel) rfl (by decide) rfl) <|
  mi_cI (mi_iload_n_ok (k := 2) (by decide +kernel) rfl rfl) <|
  mi_cI (mi_aload_n_ok (k := 0) (by decide +kernel) rfl rfl) <|
  mi_cI (mi_get_ok (by decide +kernel) fl_X7_38 rfl) <|
  mi_cI (mi_iconst_ok (n := 1) (by decide) (by decide +kernel) rfl) <|
  mi_cI (mi_iald_ok (by decide +kernel) rfl) <|
  mi_cI (mi_icmp_ge_ok (off := 40) (by decide +kernel) (by decide) rfl) <|
  mi_cI (mi_aload_n_ok (k := 0) (by decide +kernel) rfl rfl) <|
  mi_cI (mi_get_ok (by decide +kernel) fl_X7_108 rfl) <|
  mi_cI (mi_if_ne_ok (off := 33) (by decide +kernel) (by decide) rfl) <|
  mi_cI (mi_aload_n_ok (k := 0) (by decide +kernel) rfl rfl) <|
  mi_cI (mi_aload_n_ok (k := 0) (by decide +kernel) rfl rfl) <|
  mi_cI (mi_get_ok (by decide +kernel) fl_X7_44 rfl) <|
  mi_cI (mi_bipush_ok (n := 27) (by decide) (by decide +kernel) rfl) <|
  mi_cI (mi_bipush_ok (n := 9) (by decide) (by decide +kernel) rfl) <|
  mi_cI (mi_iload_n_ok (k := 2) (by decide +kernel) rfl rfl) <|
  mi_cI (mi_imul_ok (by decide +kernel) rfl) <|
  mi_cI (mi_iadd_ok (by decide +kernel) rfl) <|
  mi_cC ⟨m_X7_isSame, rfl, okM_X7_isSame, 180, 2, by decide +kernel, Or.inl ⟨(by decide +kernel), rfl, (mi_gd5 60 rfl rfl), (mi_gd5 62 rfl rfl), (mi_gd0 45 rfl rfl), 7, _, _, rfl, rfl⟩⟩ <|
  mi_cI (mi_if_eq_ok (off := 9) (by decide +kernel) (by decide) rfl) <|
  mi_cI (mi_aload_n_ok (k := 0) (by decide +kernel) rfl rfl) <|
  mi_cI (mi_iconst_ok (n := 4) (by decide) (by decide +kernel) rfl) <|
  mi_cI (mi_iload_n_ok (k := 1) (by decide +kernel) rfl rfl) <|
  mi_cC ⟨m_X7_wrong, rfl, okM_X7_wrong, 122, 2, by decide +kernel, Or.inl ⟨(by decide +kernel), rfl, (mi_gd5 22 rfl rfl), (mi_gd5 24 rfl rfl), (mi_gd0 37 rfl rfl), 7, _, _, rfl, rfl⟩⟩ <|
  mi_cI (mi_inc_ok (by decide +kernel) (by decide) rfl) <|
  mi_cI (mi_goto_ok (off := (-44)) (by decide +kernel) (by decide)) <|
  mi_cI (mi_aload_n_ok (k := 0) (by decide +kernel) rfl rfl) <|
  mi_cC ⟨m_X7_ended, rfl, okM_X7_ended, 135, 0, by decide +kernel, Or.inl ⟨(by decide +kernel), rfl, (mi_gd5 34 rfl rfl), (mi_gd5 36 rfl rfl), (mi_gd0 40 rfl rfl), 7, _, _, rfl, rfl⟩⟩ <|
  mi_cI (mi_aload_n_ok (k := 0) (by decide +kernel) rfl rfl) <|
  mi_cC ⟨m_X7_blanks, rfl, okM_X7_blanks, 171, 0, by decide +kernel, Or.inl ⟨(by decide +kernel), rfl, (mi_gd5 10 rfl rfl), (mi_gd5 12 rfl rfl), (mi_gd0 34 rfl rfl), 7, _, _, rfl, rfl⟩⟩ <|
  mi_cI (mi_aload_n_ok (k := 0) (by decide +kernel) rfl rfl) <|
  mi_cC ⟨m_X7_here, rfl, okM_X7_here, 118, 0, by decide +kernel, Or.inl ⟨(by decide +kernel), rfl, (mi_gd5 14 rfl rfl), (mi_gd5 16 rfl rfl), (mi_gd0 35 rfl rfl), 7, _, _, rfl, rfl⟩⟩ <|
  mi_cI (mi_istore_n_ok (k := 2) (by decide +kernel) rfl (by decide) rfl) <|
  mi_cI (mi_iload_n_ok (k := 2) (by decide +kernel) rfl rfl) <|
  mi_cI (mi_bipush_ok (n := 119) (by decide) (by decide +kernel) rfl) <|
  mi_cI (mi_icmp_ne_ok (off := 7) (by decide +kernel) (by decide) rfl) <|
  mi_cI (mi_iconst_ok (n := 0) (by decide) (by decide +kernel) rfl) <|
  mi_cI (mi_goto_ok (off := 34) (by decide +kernel) (by decide)) <|
  mi_cI (mi_iload_n_ok (k := 2) (by decide +kernel) rfl rfl) <|
  mi_cI (mi_bipush_ok (n := 100) (by decide) (by decide +kernel) rfl) <|
  mi_cI (mi_icmp_ne_ok (off := 7) (by decide +kernel) (by decide) rfl) <|
  mi_cI (mi_iconst_ok (n := 1) (by decide) (by decide +kernel) rfl) <|
  mi_cI (mi_goto_ok (off := 24) (by decide +kernel) (by decide)) <|
  mi_cI (mi_iload_n_ok (k := 2) (by decide +kernel) rfl rfl) <|
  mi_cI (mi_bipush_ok (n := 116) (by decide) (by decide +kernel) rfl) <|
  mi_cI (mi_icmp_ne_ok (off := 7) (by decide +kernel) (by decide) rfl) <|
  mi_cI (mi_iconst_ok (n := 2) (by decide) (by decide +kernel) rfl) <|
  mi_cI (mi_goto_ok (off := 14) (by decide +kernel) (by decide)) <|
  mi_cI (mi_iload_n_ok (k := 2) (by decide +kernel) rfl rfl) <|
  mi_cI (mi_bipush_ok (n := 103) (by decide) (by decide +kernel) rfl) <|
  mi_cI (mi_icmp_ne_ok (off := 7) (by decide +kernel) (by decide) rfl) <|
  mi_cI (mi_iconst_ok (n := 3) (by decide) (by decide +kernel) rfl) <|
  mi_cI (mi_goto_ok (off := 4) (by decide +kernel) (by decide)) <|
  mi_cI (mi_iconst_ok (n := (-1)) (by decide) (by decide +kernel) rfl) <|
  mi_cI (mi_istore_n_ok (k := 3) (by decide +kernel) rfl (by decide) rfl) <|
  mi_cI (mi_iload_n_ok (k := 3) (by decide +kernel) rfl rfl) <|
  mi_cI (mi_iconst_ok (n := (-1)) (by decide) (by decide +kernel) rfl) <|
  mi_cI (mi_icmp_ne_ok (off := 12) (by decide +kernel) (by decide) rfl) <|
  mi_cI (mi_aload_n_ok (k := 0) (by decide +kernel) rfl rfl) <|
  mi_cI (mi_iconst_ok (n := 1) (by decide) (by decide +kernel) rfl) <|
  mi_cI (mi_aload_n_ok (k := 0) (by decide +kernel) rfl rfl) <|
  mi_cI (mi_get_ok (by decide +kernel) fl_X7_105 rfl) <|
  mi_cC ⟨m_X7_wrong, rfl, okM_X7_wrong, 122, 2, by decide +kernel, Or.inl ⟨(by decide +kernel), rfl, (mi_gd5 22 rfl rfl), (mi_gd5 24 rfl rfl), (mi_gd0 37 rfl rfl), 7, _, _, rfl, rfl⟩⟩ <|
  mi_cI (mi_aload_n_ok (k := 0) (by decide +kernel) rfl rfl) <|
  mi_cI (mi_dup_ok (by decide +kernel) rfl) <|
  mi_cI (mi_get_ok (by decide +kernel) fl_X7_105 rfl) <|
  mi_cI (mi_iconst_ok (n := 1) (by decide) (by decide +kernel) rfl) <|
  mi_cI (mi_iadd_ok (by decide +kernel) rfl) <|
  mi_cI (mi_put_ok (by decide +kernel) fl_X7_105 rfl rfl) <|
  mi_cI (mi_aload_n_ok (k := 0) (by decide +kernel) rfl rfl) <|
  mi_cC ⟨m_X7_ended, rfl, okM_X7_ended, 135, 0, by decide +kernel, Or.inl ⟨(by decide +kernel), rfl, (mi_gd5 34 rfl rfl), (mi_gd5 36 rfl rfl), (mi_gd0 40 rfl rfl), 7, _, _, rfl, rfl⟩⟩ <|
  mi_cI (mi_aload_n_ok (k := 0) (by decide +kernel) rfl rfl) <|
  mi_cI (mi_get_ok (by decide +kernel) fl_X7_108 rfl) <|
  mi_cI (mi_if_ne_ok (off := 52) (by decide +kernel) (by decide) rfl) <|
  mi_cI (mi_aload_n_ok (k := 0) (by decide +kernel) rfl rfl) <|
  mi_cI (mi_aload_n_ok (k := 0) (by decide +kernel) rfl rfl) <|
  mi_cI (mi_get_ok (by decide +kernel) fl_X7_44 rfl) <|
  mi_cI (mi_bipush_ok (n := 27) (by decide) (by decide +kernel) rfl) <|
  mi_cI (mi_bipush_ok (n := 9) (by decide) (by decide +kernel) rfl) <|
  mi_cI (mi_aload_n_ok (k := 0) (by decide +kernel) rfl rfl) <|
  mi_cI (mi_get_ok (by decide +kernel) fl_X7_38 rfl) <|
  mi_cI (mi_iconst_ok (n := 1) (by decide) (by decide +kernel) rfl) <|
  mi_cI (mi_iald_ok (by decide +kernel) rfl) <|
  mi_cI (mi_imul_ok (by decide +kernel) rfl) <|
  mi_cI (mi_iadd_ok (by decide +kernel) rfl) <|
  mi_cC ⟨m_X7_layName, rfl, okM_X7_layName, 184, 2, by decide +kernel, Or.inl ⟨(by decide +kernel), rfl, (mi_gd5 64 rfl rfl), (mi_gd5 66 rfl rfl), (mi_gd0 46 rfl rfl), 7, _, _, rfl, rfl⟩⟩ <|
  mi_cI (mi_aload_n_ok (k := 0) (by decide +kernel) rfl rfl) <|
  mi_cI (mi_get_ok (by decide +kernel) fl_X7_41 rfl) <|
  mi_cI (mi_iconst_ok (n := 3) (by decide) (by decide +kernel) rfl) <|
  mi_cI (mi_aload_n_ok (k := 0) (by decide +kernel) rfl rfl) <|
  mi_cI (mi_get_ok (by decide +kernel) fl_X7_38 rfl) <|
  mi_cI (mi_iconst_ok (n := 1) (by decide) (by decide +kernel) rfl) <|
  mi_cI (mi_iald_ok (by decide +kernel) rfl) <|
  mi_cI (mi_iadd_ok (by decide +kernel) rfl) <|
  mi_cI (mi_iload_n_ok (k := 3) (by decide +kernel) rfl rfl) <|
  mi_cI (mi_iast_ok (by decide +kernel) rfl) <|
  mi_cI (mi_aload_n_ok (k := 0) (by decide +kernel) rfl rfl) <|
  mi_cI (mi_get_ok (by decide +kernel) fl_X7_38 rfl) <|
  mi_cI (mi_iconst_ok (n := 1) (by decide) (by decide +kernel) rfl) <|
  mi_cI (mi_dup2_ok (by decide +kernel) rfl) <|
  mi_cI (mi_iald_ok (by decide +kernel) rfl) <|
  mi_cI (mi_iconst_ok (n := 1) (by decide) (by decide +kernel) rfl) <|
  mi_cI (mi_iadd_ok (by decide +kernel) rfl) <|
  mi_cI (mi_iast_ok (by decide +kernel) rfl) <|
  mi_cI (mi_aload_n_ok (k := 0) (by decide +kernel) rfl rfl) <|
  mi_cI (mi_iconst_ok (n := 3) (by decide) (by decide +kernel) rfl) <|
  mi_cC ⟨m_X7_laySort, rfl, okM_X7_laySort, 164, 1, by decide +kernel, Or.inl ⟨(by decide +kernel), rfl, (mi_gd5 26 rfl rfl), (mi_gd5 28 rfl rfl), (mi_gd0 38 rfl rfl), 7, _, _, rfl, rfl⟩⟩ <|
  mi_cR (Or.inl ⟨rfl, (by decide +kernel), rfl⟩) <| mi_cN
set_option maxRecDepth 100000 in
set_option maxHeartbeats 4000000 in
theorem ok_X7_nodeOf : ∀ q ∈ t_X7_nodeOf, mi_OkE mi_ms RX7 cX7_nodeOf 3 false (some .int) q :=
  mi_cI (mi_iconst_ok (n := 0) (by decide) (by decide +kernel) rfl) <|
  mi_cI (mi_istore_n_ok (k := 2) (by decide +kernel) rfl (by decide) rfl) <|
  mi_cI (mi_iload_n_ok (k := 2) (by decide +kernel) rfl rfl) <|
  mi_cI (mi_aload_n_ok (k := 0) (by decide +kernel) rfl rfl) <|
  mi_cI (mi_get_ok (by decide +kernel) fl_X7_20 rfl) <|
  mi_cI (mi_iconst_ok (n := 1) (by decide) (by decide +kernel) rfl) <|
  mi_cI (mi_iald_ok (by decide +kernel) rfl) <|
  mi_cI (mi_icmp_ge_ok (off := 30) (by decide +kernel) (by decide) rfl) <|
  mi_cI (mi_aload_n_ok (k := 0) (by decide +kernel) rfl rfl) <|
  mi_cI (mi_aload_n_ok (k := 0) (by decide +kernel) rfl rfl) <|
  mi_cI (mi_get_ok (by decide +kernel) fl_X7_23 rfl) <|
  mi_cI (mi_sipush_ok (n := 270) (by decide) (by decide +kernel) rfl) <|
  mi_cI (mi_bipush_ok (n := 9) (by decide) (by decide +kernel) rfl) <|
  mi_cI (mi_iload_n_ok (k := 2) (by decide +kernel) rfl rfl) <|
  mi_cI (mi_imul_ok (by decide +kernel) rfl) <|
  mi_cI (mi_iadd_ok (by decide +kernel) rfl) <|
  mi_cC ⟨m_X7_isSame, rfl, okM_X7_isSame, 180, 2, by decide +kernel, Or.inl ⟨(by decide +kernel), rfl, (mi_gd5 60 rfl rfl), (mi_gd5 62 rfl rfl), (mi_gd0 45 rfl rfl), 7, _, _, rfl, rfl⟩⟩ <|
  mi_cI (mi_if_eq_ok (off := 5) (by decide +kernel) (by decide) rfl) <|
  mi_cI (mi_iload_n_ok (k := 2) (by decide +kernel) rfl rfl) <|
  mi_cR (Or.inr (Or.inl ⟨rfl, (by decide +kernel), rfl⟩)) <|
  mi_cI (mi_inc_ok (by decide +kernel) (by decide) rfl) <|
  mi_cI (mi_goto_ok (off := (-34)) (by decide +kernel) (by decide)) <|
  mi_cI (mi_aload_n_ok (k := 0) (by decide +kernel) rfl rfl) <|
  mi_cI (mi_get_ok (by decide +kernel) fl_X7_20 rfl) <|
  mi_cI (mi_iconst_ok (n := 1) (by decide) (by decide +kernel) rfl) <|
  mi_cI (mi_iald_ok (by decide +kernel) rfl) <|
  mi_cI (mi_bipush_ok (n := 30) (by decide) (by decide +kernel) rfl) <|
  mi_cI (mi_icmp_ne_ok (off := 12) (by decide +kernel) (by decide) rfl) <|
  mi_cI (mi_aload_n_ok (k := 0) (by decide +kernel) rfl rfl) <|
  mi_cI (mi_bipush_ok (n := 6) (by decide) (by decide +kernel) rfl) <|
  mi_cI (mi_iload_n_ok (k := 1) (by decide +kernel) rfl rfl) <|
  mi_cC ⟨m_X7_wrong, rfl, okM_X7_wrong, 122, 2, by decide +kernel, Or.inl ⟨(by decide +kernel), rfl, (mi_gd5 22 rfl rfl), (mi_gd5 24 rfl rfl), (mi_gd0 37 rfl rfl), 7, _, _, rfl, rfl⟩⟩ <|
  mi_cI (mi_iconst_ok (n := (-1)) (by decide) (by decide +kernel) rfl) <|
  mi_cR (Or.inr (Or.inl ⟨rfl, (by decide +kernel), rfl⟩)) <|
  mi_cI (mi_aload_n_ok (k := 0) (by decide +kernel) rfl rfl) <|
  mi_cI (mi_aload_n_ok (k := 0) (by decide +kernel) rfl rfl) <|
  mi_cI (mi_get_ok (by decide +kernel) fl_X7_23 rfl) <|
  mi_cI (mi_sipush_ok (n := 270) (by decide) (by decide +kernel) rfl) <|
  mi_cI (mi_bipush_ok (n := 9) (by decide) (by decide +kernel) rfl) <|
  mi_cI (mi_aload_n_ok (k := 0) (by decide +kernel) rfl rfl) <|
  mi_cI (mi_get_ok (by decide +kernel) fl_X7_20 rfl) <|
  mi_cI (mi_iconst_ok (n := 1) (by decide) (by decide +kernel) rfl) <|
  mi_cI (mi_iald_ok (by decide +kernel) rfl) <|
  mi_cI (mi_imul_ok (by decide +kernel) rfl) <|
  mi_cI (mi_iadd_ok (by decide +kernel) rfl) <|
  mi_cC ⟨m_X7_layName, rfl, okM_X7_layName, 184, 2, by decide +kernel, Or.inl ⟨(by decide +kernel), rfl, (mi_gd5 64 rfl rfl), (mi_gd5 66 rfl rfl), (mi_gd0 46 rfl rfl), 7, _, _, rfl, rfl⟩⟩ <|
  mi_cI (mi_aload_n_ok (k := 0) (by decide +kernel) rfl rfl) <|
  mi_cI (mi_get_ok (by decide +kernel) fl_X7_20 rfl) <|
  mi_cI (mi_iconst_ok (n := 1) (by decide) (by decide +kernel) rfl) <|
  mi_cI (mi_dup2_ok (by decide +kernel) rfl) <|
  mi_cI (mi_iald_ok (by decide +kernel) rfl) <|
  mi_cI (mi_iconst_ok (n := 1) (by decide) (by decide +kernel) rfl) <|
  mi_cI (mi_iadd_ok (by decide +kernel) rfl) <|
  mi_cI (mi_iast_ok (by decide +kernel) rfl) <|
  mi_cI (mi_aload_n_ok (k := 0) (by decide +kernel) rfl rfl) <|
  mi_cI (mi_get_ok (by decide +kernel) fl_X7_20 rfl) <|
  mi_cI (mi_iconst_ok (n := 1) (by decide) (by decide +kernel) rfl) <|
  mi_cI (mi_iald_ok (by decide +kernel) rfl) <|
  mi_cI (mi_iconst_ok (n := 1) (by decide) (by decide +kernel) rfl) <|
  mi_cI (mi_isub_ok (by decide +kernel) rfl) <|
  mi_cR (Or.inr (Or.inl ⟨rfl, (by decide +kernel), rfl⟩)) <| mi_cN
set_option maxRecDepth 100000 in
set_option maxHeartbeats 4000000 in
theorem ok_X7_isDoubled : ∀ q ∈ t_X7_isDoubled, mi_OkE mi_ms RX7 cX7_isDoubled 4 false (some .boolean) q :=
  mi_cI (mi_bipush_ok (n := 40) (by decide) (by decide +kernel) rfl) <|
  mi_cI (mi_istore_n_ok (k := 3) (by decide +kernel) rfl (by decide) rfl) <|
  mi_cI (mi_iload_n_ok (k := 3) (by decide +kernel) rfl rfl) <|
  mi_cI (mi_bipush_ok (n := 40) (by decide) (by decide +kernel) rfl) <|
  mi_cI (mi_aload_n_ok (k := 0) (by decide +kernel) rfl rfl) <|
  mi_cI (mi_get_ok (by decide +kernel) fl_X7_26 rfl) <|
  mi_cI (mi_iconst_ok (n := 1) (by decide) (by decide +kernel) rfl) <|
  mi_cI (mi_iald_ok (by decide +kernel) rfl) <|
  mi_cI (mi_iadd_ok (by decide +kernel) rfl) <|
  mi_cI (mi_icmp_ge_ok (off := 31) (by decide +kernel) (by decide) rfl) <|
  mi_cI (mi_aload_n_ok (k := 0) (by decide +kernel) rfl rfl) <|
  mi_cI (mi_get_ok (by decide +kernel) fl_X7_29 rfl) <|
  mi_cI (mi_iload_n_ok (k := 3) (by decide +kernel) rfl rfl) <|
  mi_cI (mi_iald_ok (by decide +kernel) rfl) <|
  mi_cI (mi_iload_n_ok (k := 1) (by decide +kernel) rfl rfl) <|
  mi_cI (mi_icmp_ne_ok (off := 15) (by decide +kernel) (by decide) rfl) <|
  mi_cI (mi_aload_n_ok (k := 0) (by decide +kernel) rfl rfl) <|
  mi_cI (mi_get_ok (by decide +kernel) fl_X7_32 rfl) <|
  mi_cI (mi_iload_n_ok (k := 3) (by decide +kernel) rfl rfl) <|
  mi_cI (mi_iald_ok (by decide +kernel) rfl) <|
  mi_cI (mi_iload_n_ok (k := 2) (by decide +kernel) rfl rfl) <|
  mi_cI (mi_icmp_ne_ok (off := 5) (by decide +kernel) (by decide) rfl) <|
  mi_cI (mi_iconst_ok (n := 1) (by decide) (by decide +kernel) rfl) <|
  mi_cR (Or.inr (Or.inr (Or.inl ⟨rfl, (by decide +kernel), rfl⟩))) <|
  mi_cI (mi_inc_ok (by decide +kernel) (by decide) rfl) <|
  mi_cI (mi_goto_ok (off := (-38)) (by decide +kernel) (by decide)) <|
  mi_cI (mi_iconst_ok (n := 0) (by decide) (by decide +kernel) rfl) <|
  mi_cR (Or.inr (Or.inr (Or.inl ⟨rfl, (by decide +kernel), rfl⟩))) <| mi_cN
set_option maxRecDepth 100000 in
set_option maxHeartbeats 4000000 in
theorem ok_X7_readArc : ∀ q ∈ t_X7_readArc, mi_OkE mi_ms RX7 cX7_readArc 7 false none q :=
  mi_cI (mi_aload_n_ok (k := 0) (by decide +kernel) rfl rfl) <|
  mi_cI (mi_get_ok (by decide +kernel) fl_X7_105 rfl) <|
  mi_cI (mi_istore_n_ok (k := 1) (by decide +kernel) rfl (by decide) rfl) <|
  mi_cI (mi_aload_n_ok (k := 0) (by decide +kernel) rfl rfl) <|
  mi_cC ⟨m_X7_readName, rfl, okM_X7_readName, 151, 0, by decide +kernel, Or.inl ⟨(by decide +kernel), rfl, (mi_gd5 45 rfl rfl), (mi_gd5 47 rfl rfl), (mi_gd0 42 rfl rfl), 7, _, _, rfl, rfl⟩⟩ <|
  mi_cI (mi_aload_n_ok (k := 0) (by decide +kernel) rfl rfl) <|
  mi_cI (mi_get_ok (by decide +kernel) fl_X7_108 rfl) <|
  mi_cI (mi_if_ne_ok (off := 11) (by decide +kernel) (by decide) rfl) <|
  mi_cI (mi_aload_n_ok (k := 0) (by decide +kernel) rfl rfl) <|
  mi_cI (mi_iload_n_ok (k := 1) (by decide +kernel) rfl rfl) <|
  mi_cC ⟨m_X7_nodeOf, rfl, okM_X7_nodeOf, 188, 1, by decide +kernel, Or.inl ⟨(by decide +kernel), rfl, (mi_gd5 72 rfl rfl), (mi_gd5 74 rfl rfl), (mi_gd0 48 rfl rfl), 7, _, _, rfl, rfl⟩⟩ <|
  mi_cI (mi_goto_ok (off := 4) (by decide +kernel) (by decide)) <|
  mi_cI (mi_iconst_ok (n := (-1)) (by decide) (by decide +kernel) rfl) <|
  mi_cI (mi_istore_n_ok (k := 2) (by decide +kernel) rfl (by decide) rfl) <|
  mi_cI (mi_aload_n_ok (k := 0) (by decide +kernel) rfl rfl) <|
  mi_cC ⟨m_X7_ended, rfl, okM_X7_ended, 135, 0, by decide +kernel, Or.inl ⟨(by decide +kernel), rfl, (mi_gd5 34 rfl rfl), (mi_gd5 36 rfl rfl), (mi_gd0 40 rfl rfl), 7, _, _, rfl, rfl⟩⟩ <|
  mi_cI (mi_aload_n_ok (k := 0) (by decide +kernel) rfl rfl) <|
  mi_cC ⟨m_X7_blanks, rfl, okM_X7_blanks, 171, 0, by decide +kernel, Or.inl ⟨(by decide +kernel), rfl, (mi_gd5 10 rfl rfl), (mi_gd5 12 rfl rfl), (mi_gd0 34 rfl rfl), 7, _, _, rfl, rfl⟩⟩ <|
  mi_cI (mi_aload_n_ok (k := 0) (by decide +kernel) rfl rfl) <|
  mi_cI (mi_get_ok (by decide +kernel) fl_X7_105 rfl) <|
  mi_cI (mi_istore_n_ok (k := 3) (by decide +kernel) rfl (by decide) rfl) <|
  mi_cI (mi_aload_n_ok (k := 0) (by decide +kernel) rfl rfl) <|
  mi_cI (mi_get_ok (by decide +kernel) fl_X7_108 rfl) <|
  mi_cI (mi_if_ne_ok (off := 7) (by decide +kernel) (by decide) rfl) <|
  mi_cI (mi_aload_n_ok (k := 0) (by decide +kernel) rfl rfl) <|
  mi_cC ⟨m_X7_readName, rfl, okM_X7_readName, 151, 0, by decide +kernel, Or.inl ⟨(by decide +kernel), rfl, (mi_gd5 45 rfl rfl), (mi_gd5 47 rfl rfl), (mi_gd0 42 rfl rfl), 7, _, _, rfl, rfl⟩⟩ <|
  mi_cI (mi_aload_n_ok (k := 0) (by decide +kernel) rfl rfl) <|
  mi_cI (mi_get_ok (by decide +kernel) fl_X7_108 rfl) <|
  mi_cI (mi_if_ne_ok (off := 11) (by decide +kernel) (by decide) rfl) <|
  mi_cI (mi_aload_n_ok (k := 0) (by decide +kernel) rfl rfl) <|
  mi_cI (mi_iload_n_ok (k := 3) (by decide +kernel) rfl rfl) <|
  mi_cC ⟨m_X7_nodeOf, rfl, okM_X7_nodeOf, 188, 1, by decide +kernel, Or.inl ⟨(by decide +kernel), rfl, (mi_gd5 72 rfl rfl), (mi_gd5 74 rfl rfl), (mi_gd0 48 rfl rfl), 7, _, _, rfl, rfl⟩⟩ <|
  mi_cI (mi_goto_ok (off := 4) (by decide +kernel) (by decide)) <|
  mi_cI (mi_iconst_ok (n := (-1)) (by decide) (by decide +kernel) rfl) <|
  mi_cI (mi_istore_ok (by decide +kernel) (by decide) rfl) <|
  mi_cI (mi_aload_n_ok (k := 0) (by decide +kernel) rfl rfl) <|
  mi_cI (mi_get_ok (by decide +kernel) fl_X7_108 rfl) <|
  mi_cI (mi_if_ne_ok (off := 17) (by decide +kernel) (by decide) rfl) <|
  mi_cI (mi_aload_n_ok (k := 0) (by decide +kernel) rfl rfl) <|
  mi_cI (mi_iload_n_ok (k := 2) (by decide +kernel) rfl rfl) <|
  mi_cI (mi_iload_ok (by decide +kernel) rfl) <|
  mi_cC ⟨m_X7_isDoubled, rfl, okM_X7_isDoubled, 192, 2, by decide +kernel, Or.inl ⟨(by decide +kernel), rfl, (mi_gd5 76 rfl rfl), (mi_gd5 78 rfl rfl), (mi_gd0 49 rfl rfl), 7, _, _, rfl, rfl⟩⟩ <|
  mi_cI (mi_if_eq_ok (off := 7) (by decide +kernel) (by decide) rfl) <|
  mi_cI (mi_iconst_ok (n := 1) (by decide) (by decide +kernel) rfl) <|
  mi_cI (mi_goto_ok (off := 4) (by decide +kernel) (by decide)) <|
  mi_cI (mi_iconst_ok (n := 0) (by decide) (by decide +kernel) rfl) <|
  mi_cI (mi_istore_ok (by decide +kernel) (by decide) rfl) <|
  mi_cI (mi_iload_ok (by decide +kernel) rfl) <|
  mi_cI (mi_if_eq_ok (off := 17) (by decide +kernel) (by decide) rfl) <|
  mi_cI (mi_aload_n_ok (k := 0) (by decide +kernel) rfl rfl) <|
  mi_cI (mi_get_ok (by decide +kernel) fl_X7_196 rfl) <|
  mi_cI (mi_iconst_ok (n := 2) (by decide) (by decide +kernel) rfl) <|
  mi_cI (mi_icmp_ne_ok (off := 9) (by decide +kernel) (by decide) rfl) <|
  mi_cI (mi_aload_n_ok (k := 0) (by decide +kernel) rfl rfl) <|
  mi_cI (mi_iconst_ok (n := 5) (by decide) (by decide +kernel) rfl) <|
  mi_cI (mi_iload_n_ok (k := 3) (by decide +kernel) rfl rfl) <|
  mi_cC ⟨m_X7_wrong, rfl, okM_X7_wrong, 122, 2, by decide +kernel, Or.inl ⟨(by decide +kernel), rfl, (mi_gd5 22 rfl rfl), (mi_gd5 24 rfl rfl), (mi_gd0 37 rfl rfl), 7, _, _, rfl, rfl⟩⟩ <|
  mi_cI (mi_aload_n_ok (k := 0) (by decide +kernel) rfl rfl) <|
  mi_cC ⟨m_X7_ended, rfl, okM_X7_ended, 135, 0, by decide +kernel, Or.inl ⟨(by decide +kernel), rfl, (mi_gd5 34 rfl rfl), (mi_gd5 36 rfl rfl), (mi_gd0 40 rfl rfl), 7, _, _, rfl, rfl⟩⟩ <|
  mi_cI (mi_aload_n_ok (k := 0) (by decide +kernel) rfl rfl) <|
  mi_cI (mi_iconst_ok (n := 1) (by decide) (by decide +kernel) rfl) <|
  mi_cI (mi_put_ok (by decide +kernel) fl_X7_177 rfl rfl) <|
  mi_cI (mi_iconst_ok (n := 0) (by decide) (by decide +kernel) rfl) <|
  mi_cI (mi_istore_ok (by decide +kernel) (by decide) rfl) <|
  mi_cI (mi_iload_ok (by decide +kernel) rfl) <|
  mi_cI (mi_aload_n_ok (k := 0) (by decide +kernel) rfl rfl) <|
  mi_cI (mi_get_ok (by decide +kernel) fl_X7_38 rfl) <|
  mi_cI (mi_iconst_ok (n := 1) (by decide) (by decide +kernel) rfl) <|
  mi_cI (mi_iald_ok (by decide +kernel) rfl) <|
  mi_cI (mi_icmp_ge_ok (off := 72) (by decide +kernel) (by decide) rfl) <|
  mi_cI (mi_aload_n_ok (k := 0) (by decide +kernel) rfl rfl) <|
  mi_cI (mi_get_ok (by decide +kernel) fl_X7_108 rfl) <|
  mi_cI (mi_if_ne_ok (off := 65) (by decide +kernel) (by decide) rfl) <|
  mi_cI (mi_aload_n_ok (k := 0) (by decide +kernel) rfl rfl) <|
  mi_cC ⟨m_X7_blanks, rfl, okM_X7_blanks, 171, 0, by decide +kernel, Or.inl ⟨(by decide +kernel), rfl, (mi_gd5 10 rfl rfl), (mi_gd5 12 rfl rfl), (mi_gd0 34 rfl rfl), 7, _, _, rfl, rfl⟩⟩ <|
  mi_cI (mi_aload_n_ok (k := 0) (by decide +kernel) rfl rfl) <|
  mi_cI (mi_aload_n_ok (k := 0) (by decide +kernel) rfl rfl) <|
  mi_cI (mi_get_ok (by decide +kernel) fl_X7_41 rfl) <|
  mi_cI (mi_iconst_ok (n := 3) (by decide) (by decide +kernel) rfl) <|
  mi_cI (mi_iload_ok (by decide +kernel) rfl) <|
  mi_cI (mi_iadd_ok (by decide +kernel) rfl) <|
  mi_cI (mi_iald_ok (by decide +kernel) rfl) <|
  mi_cC ⟨m_X7_readValue, rfl, okM_X7_readValue, 199, 1, by decide +kernel, Or.inl ⟨(by decide +kernel), rfl, (mi_gd5 80 rfl rfl), (mi_gd5 82 rfl rfl), (mi_gd0 50 rfl rfl), 7, _, _, rfl, rfl⟩⟩ <|
  mi_cI (mi_aload_n_ok (k := 0) (by decide +kernel) rfl rfl) <|
  mi_cC ⟨m_X7_ended, rfl, okM_X7_ended, 135, 0, by decide +kernel, Or.inl ⟨(by decide +kernel), rfl, (mi_gd5 34 rfl rfl), (mi_gd5 36 rfl rfl), (mi_gd0 40 rfl rfl), 7, _, _, rfl, rfl⟩⟩ <|
  mi_cI (mi_aload_n_ok (k := 0) (by decide +kernel) rfl rfl) <|
  mi_cI (mi_get_ok (by decide +kernel) fl_X7_86 rfl) <|
  mi_cI (mi_iload_ok (by decide +kernel) rfl) <|
  mi_cI (mi_aload_n_ok (k := 0) (by decide +kernel) rfl rfl) <|
  mi_cI (mi_get_ok (by decide +kernel) fl_X7_138 rfl) <|
  mi_cI (mi_iast_ok (by decide +kernel) rfl) <|
  mi_cI (mi_aload_n_ok (k := 0) (by decide +kernel) rfl rfl) <|
  mi_cI (mi_get_ok (by decide +kernel) fl_X7_89 rfl) <|
  mi_cI (mi_iload_ok (by decide +kernel) rfl) <|
  mi_cI (mi_aload_n_ok (k := 0) (by decide +kernel) rfl rfl) <|
  mi_cI (mi_get_ok (by decide +kernel) fl_X7_141 rfl) <|
  mi_cI (mi_iast_ok (by decide +kernel) rfl) <|
  mi_cI (mi_aload_n_ok (k := 0) (by decide +kernel) rfl rfl) <|
  mi_cI (mi_aload_n_ok (k := 0) (by decide +kernel) rfl rfl) <|
  mi_cI (mi_get_ok (by decide +kernel) fl_X7_92 rfl) <|
  mi_cI (mi_bipush_ok (n := 9) (by decide) (by decide +kernel) rfl) <|
  mi_cI (mi_iload_ok (by decide +kernel) rfl) <|
  mi_cI (mi_imul_ok (by decide +kernel) rfl) <|
  mi_cC ⟨m_X7_layName, rfl, okM_X7_layName, 184, 2, by decide +kernel, Or.inl ⟨(by decide +kernel), rfl, (mi_gd5 64 rfl rfl), (mi_gd5 66 rfl rfl), (mi_gd0 46 rfl rfl), 7, _, _, rfl, rfl⟩⟩ <|
  mi_cI (mi_inc_ok (by decide +kernel) (by decide) rfl) <|
  mi_cI (mi_goto_ok (off := (-77)) (by decide +kernel) (by decide)) <|
  mi_cI (mi_aload_n_ok (k := 0) (by decide +kernel) rfl rfl) <|
  mi_cC ⟨m_X7_blanks, rfl, okM_X7_blanks, 171, 0, by decide +kernel, Or.inl ⟨(by decide +kernel), rfl, (mi_gd5 10 rfl rfl), (mi_gd5 12 rfl rfl), (mi_gd0 34 rfl rfl), 7, _, _, rfl, rfl⟩⟩ <|
  mi_cI (mi_aload_n_ok (k := 0) (by decide +kernel) rfl rfl) <|
  mi_cC ⟨m_X7_here, rfl, okM_X7_here, 118, 0, by decide +kernel, Or.inl ⟨(by decide +kernel), rfl, (mi_gd5 14 rfl rfl), (mi_gd5 16 rfl rfl), (mi_gd0 35 rfl rfl), 7, _, _, rfl, rfl⟩⟩ <|
  mi_cI (mi_iconst_ok (n := (-1)) (by decide) (by decide +kernel) rfl) <|
  mi_cI (mi_icmp_eq_ok (off := 12) (by decide +kernel) (by decide) rfl) <|
  mi_cI (mi_aload_n_ok (k := 0) (by decide +kernel) rfl rfl) <|
  mi_cI (mi_iconst_ok (n := 1) (by decide) (by decide +kernel) rfl) <|
  mi_cI (mi_aload_n_ok (k := 0) (by decide +kernel) rfl rfl) <|
  mi_cI (mi_get_ok (by decide +kernel) fl_X7_105 rfl) <|
  mi_cC ⟨m_X7_wrong, rfl, okM_X7_wrong, 122, 2, by decide +kernel, Or.inl ⟨(by decide +kernel), rfl, (mi_gd5 22 rfl rfl), (mi_gd5 24 rfl rfl), (mi_gd0 37 rfl rfl), 7, _, _, rfl, rfl⟩⟩ <|
  mi_cI (mi_aload_n_ok (k := 0) (by decide +kernel) rfl rfl) <|
  mi_cI (mi_get_ok (by decide +kernel) fl_X7_108 rfl) <|
  mi_cI (mi_if_ne_ok (off := 29) (by decide +kernel) (by decide) rfl) <|
  mi_cI (mi_iload_ok (by decide +kernel) rfl) <|
  mi_cI (mi_if_eq_ok (off := 24) (by decide +kernel) (by decide) rfl) <|
  mi_cI (mi_aload_n_ok (k := 0) (by decide +kernel) rfl rfl) <|
  mi_cI (mi_get_ok (by decide +kernel) fl_X7_196 rfl) <|
  mi_cI (mi_iconst_ok (n := 1) (by decide) (by decide +kernel) rfl) <|
  mi_cI (mi_icmp_ne_ok (off := 16) (by decide +kernel) (by decide) rfl) <|
  mi_cI (mi_aload_n_ok (k := 0) (by decide +kernel) rfl rfl) <|
  mi_cI (mi_get_ok (by decide +kernel) fl_X7_56 rfl) <|
  mi_cI (mi_iconst_ok (n := 1) (by decide) (by decide +kernel) rfl) <|
  mi_cI (mi_dup2_ok (by decide +kernel) rfl) <|
  mi_cI (mi_iald_ok (by decide +kernel) rfl) <|
  mi_cI (mi_iconst_ok (n := 1) (by decide) (by decide +kernel) rfl) <|
  mi_cI (mi_iadd_ok (by decide +kernel) rfl) <|
  mi_cI (mi_iast_ok (by decide +kernel) rfl) <|
  mi_cI (mi_goto_ok (off := 45) (by decide +kernel) (by decide)) <|
  mi_cI (mi_aload_n_ok (k := 0) (by decide +kernel) rfl rfl) <|
  mi_cI (mi_get_ok (by decide +kernel) fl_X7_108 rfl) <|
  mi_cI (mi_if_ne_ok (off := 24) (by decide +kernel) (by decide) rfl) <|
  mi_cI (mi_aload_n_ok (k := 0) (by decide +kernel) rfl rfl) <|
  mi_cI (mi_get_ok (by decide +kernel) fl_X7_26 rfl) <|
  mi_cI (mi_iconst_ok (n := 1) (by decide) (by decide +kernel) rfl) <|
  mi_cI (mi_iald_ok (by decide +kernel) rfl) <|
  mi_cI (mi_bipush_ok (n := 40) (by decide) (by decide +kernel) rfl) <|
  mi_cI (mi_icmp_ne_ok (off := 13) (by decide +kernel) (by decide) rfl) <|
  mi_cI (mi_aload_n_ok (k := 0) (by decide +kernel) rfl rfl) <|
  mi_cI (mi_bipush_ok (n := 6) (by decide) (by decide +kernel) rfl) <|
  mi_cI (mi_iload_n_ok (k := 1) (by decide +kernel) rfl rfl) <|
  mi_cC ⟨m_X7_wrong, rfl, okM_X7_wrong, 122, 2, by decide +kernel, Or.inl ⟨(by decide +kernel), rfl, (mi_gd5 22 rfl rfl), (mi_gd5 24 rfl rfl), (mi_gd0 37 rfl rfl), 7, _, _, rfl, rfl⟩⟩ <|
  mi_cI (mi_goto_ok (off := 17) (by decide +kernel) (by decide)) <|
  mi_cI (mi_aload_n_ok (k := 0) (by decide +kernel) rfl rfl) <|
  mi_cI (mi_get_ok (by decide +kernel) fl_X7_108 rfl) <|
  mi_cI (mi_if_ne_ok (off := 10) (by decide +kernel) (by decide) rfl) <|
  mi_cI (mi_aload_n_ok (k := 0) (by decide +kernel) rfl rfl) <|
  mi_cI (mi_iload_n_ok (k := 2) (by decide +kernel) rfl rfl) <|
  mi_cI (mi_iload_ok (by decide +kernel) rfl) <|
  mi_cC ⟨m_X7_layArc, rfl, okM_X7_layArc, 202, 2, by decide +kernel, Or.inl ⟨(by decide +kernel), rfl, (mi_gd5 104 rfl rfl), (mi_gd5 106 rfl rfl), (mi_gd0 56 rfl rfl), 7, _, _, rfl, rfl⟩⟩ <|
  mi_cR (Or.inl ⟨rfl, (by decide +kernel), rfl⟩) <| mi_cN
set_option maxRecDepth 100000 in
set_option maxHeartbeats 4000000 in
theorem ok_X7_layArc : ∀ q ∈ t_X7_layArc, mi_OkE mi_ms RX7 cX7_layArc 6 false none q :=
  mi_cI (mi_bipush_ok (n := 40) (by decide) (by decide +kernel) rfl) <|
  mi_cI (mi_aload_n_ok (k := 0) (by decide +kernel) rfl rfl) <|
  mi_cI (mi_get_ok (by decide +kernel) fl_X7_26 rfl) <|
  mi_cI (mi_iconst_ok (n := 1) (by decide) (by decide +kernel) rfl) <|
  mi_cI (mi_iald_ok (by decide +kernel) rfl) <|
  mi_cI (mi_iadd_ok (by decide +kernel) rfl) <|
  mi_cI (mi_istore_n_ok (k := 3) (by decide +kernel) rfl (by decide) rfl) <|
  mi_cI (mi_aload_n_ok (k := 0) (by decide +kernel) rfl rfl) <|
  mi_cI (mi_get_ok (by decide +kernel) fl_X7_29 rfl) <|
  mi_cI (mi_iload_n_ok (k := 3) (by decide +kernel) rfl rfl) <|
  mi_cI (mi_iload_n_ok (k := 1) (by decide +kernel) rfl rfl) <|
  mi_cI (mi_iast_ok (by decide +kernel) rfl) <|
  mi_cI (mi_aload_n_ok (k := 0) (by decide +kernel) rfl rfl) <|
  mi_cI (mi_get_ok (by decide +kernel) fl_X7_32 rfl) <|
  mi_cI (mi_iload_n_ok (k := 3) (by decide +kernel) rfl rfl) <|
  mi_cI (mi_iload_n_ok (k := 2) (by decide +kernel) rfl rfl) <|
  mi_cI (mi_iast_ok (by decide +kernel) rfl) <|
  mi_cI (mi_aload_n_ok (k := 0) (by decide +kernel) rfl rfl) <|
  mi_cI (mi_get_ok (by decide +kernel) fl_X7_35 rfl) <|
  mi_cI (mi_iload_n_ok (k := 3) (by decide +kernel) rfl rfl) <|
  mi_cI (mi_aload_n_ok (k := 0) (by decide +kernel) rfl rfl) <|
  mi_cI (mi_get_ok (by decide +kernel) fl_X7_174 rfl) <|
  mi_cI (mi_iast_ok (by decide +kernel) rfl) <|
  mi_cI (mi_iconst_ok (n := 0) (by decide) (by decide +kernel) rfl) <|
  mi_cI (mi_istore_ok (by decide +kernel) (by decide) rfl) <|
  mi_cI (mi_iload_ok (by decide +kernel) rfl) <|
  mi_cI (mi_aload_n_ok (k := 0) (by decide +kernel) rfl rfl) <|
  mi_cI (mi_get_ok (by decide +kernel) fl_X7_38 rfl) <|
  mi_cI (mi_iconst_ok (n := 1) (by decide) (by decide +kernel) rfl) <|
  mi_cI (mi_iald_ok (by decide +kernel) rfl) <|
  mi_cI (mi_icmp_ge_ok (off := 99) (by decide +kernel) (by decide) rfl) <|
  mi_cI (mi_aload_n_ok (k := 0) (by decide +kernel) rfl rfl) <|
  mi_cI (mi_get_ok (by decide +kernel) fl_X7_47 rfl) <|
  mi_cI (mi_iconst_ok (n := 3) (by decide) (by decide +kernel) rfl) <|
  mi_cI (mi_iload_n_ok (k := 3) (by decide +kernel) rfl rfl) <|
  mi_cI (mi_imul_ok (by decide +kernel) rfl) <|
  mi_cI (mi_iload_ok (by decide +kernel) rfl) <|
  mi_cI (mi_iadd_ok (by decide +kernel) rfl) <|
  mi_cI (mi_aload_n_ok (k := 0) (by decide +kernel) rfl rfl) <|
  mi_cI (mi_get_ok (by decide +kernel) fl_X7_86 rfl) <|
  mi_cI (mi_iload_ok (by decide +kernel) rfl) <|
  mi_cI (mi_iald_ok (by decide +kernel) rfl) <|
  mi_cI (mi_iast_ok (by decide +kernel) rfl) <|
  mi_cI (mi_aload_n_ok (k := 0) (by decide +kernel) rfl rfl) <|
  mi_cI (mi_get_ok (by decide +kernel) fl_X7_50 rfl) <|
  mi_cI (mi_iconst_ok (n := 3) (by decide) (by decide +kernel) rfl) <|
  mi_cI (mi_iload_n_ok (k := 3) (by decide +kernel) rfl rfl) <|
  mi_cI (mi_imul_ok (by decide +kernel) rfl) <|
  mi_cI (mi_iload_ok (by decide +kernel) rfl) <|
  mi_cI (mi_iadd_ok (by decide +kernel) rfl) <|
  mi_cI (mi_aload_n_ok (k := 0) (by decide +kernel) rfl rfl) <|
  mi_cI (mi_get_ok (by decide +kernel) fl_X7_89 rfl) <|
  mi_cI (mi_iload_ok (by decide +kernel) rfl) <|
  mi_cI (mi_iald_ok (by decide +kernel) rfl) <|
  mi_cI (mi_iast_ok (by decide +kernel) rfl) <|
  mi_cI (mi_iconst_ok (n := 0) (by decide) (by decide +kernel) rfl) <|
  mi_cI (mi_istore_ok (by decide +kernel) (by decide) rfl) <|
  mi_cI (mi_iload_ok (by decide +kernel) rfl) <|
  mi_cI (mi_aload_n_ok (k := 0) (by decide +kernel) rfl rfl) <|
  mi_cI (mi_get_ok (by decide +kernel) fl_X7_92 rfl) <|
  mi_cI (mi_bipush_ok (n := 9) (by decide) (by decide +kernel) rfl) <|
  mi_cI (mi_iload_ok (by decide +kernel) rfl) <|
  mi_cI (mi_imul_ok (by decide +kernel) rfl) <|
  mi_cI (mi_iald_ok (by decide +kernel) rfl) <|
  mi_cI (mi_icmp_gt_ok (off := 39) (by decide +kernel) (by decide) rfl) <|
  mi_cI (mi_aload_n_ok (k := 0) (by decide +kernel) rfl rfl) <|
  mi_cI (mi_get_ok (by decide +kernel) fl_X7_53 rfl) <|
  mi_cI (mi_bipush_ok (n := 9) (by decide) (by decide +kernel) rfl) <|
  mi_cI (mi_iconst_ok (n := 3) (by decide) (by decide +kernel) rfl) <|
  mi_cI (mi_iload_n_ok (k := 3) (by decide +kernel) rfl rfl) <|
  mi_cI (mi_imul_ok (by decide +kernel) rfl) <|
  mi_cI (mi_iload_ok (by decide +kernel) rfl) <|
  mi_cI (mi_iadd_ok (by decide +kernel) rfl) <|
  mi_cI (mi_imul_ok (by decide +kernel) rfl) <|
  mi_cI (mi_iload_ok (by decide +kernel) rfl) <|
  mi_cI (mi_iadd_ok (by decide +kernel) rfl) <|
  mi_cI (mi_aload_n_ok (k := 0) (by decide +kernel) rfl rfl) <|
  mi_cI (mi_get_ok (by decide +kernel) fl_X7_92 rfl) <|
  mi_cI (mi_bipush_ok (n := 9) (by decide) (by decide +kernel) rfl) <|
  mi_cI (mi_iload_ok (by decide +kernel) rfl) <|
  mi_cI (mi_imul_ok (by decide +kernel) rfl) <|
  mi_cI (mi_iload_ok (by decide +kernel) rfl) <|
  mi_cI (mi_iadd_ok (by decide +kernel) rfl) <|
  mi_cI (mi_iald_ok (by decide +kernel) rfl) <|
  mi_cI (mi_iast_ok (by decide +kernel) rfl) <|
  mi_cI (mi_inc_ok (by decide +kernel) (by decide) rfl) <|
  mi_cI (mi_goto_ok (off := (-48)) (by decide +kernel) (by decide)) <|
  mi_cI (mi_inc_ok (by decide +kernel) (by decide) rfl) <|
  mi_cI (mi_goto_ok (off := (-104)) (by decide +kernel) (by decide)) <|
  mi_cI (mi_aload_n_ok (k := 0) (by decide +kernel) rfl rfl) <|
  mi_cI (mi_get_ok (by decide +kernel) fl_X7_26 rfl) <|
  mi_cI (mi_iconst_ok (n := 1) (by decide) (by decide +kernel) rfl) <|
  mi_cI (mi_dup2_ok (by decide +kernel) rfl) <|
  mi_cI (mi_iald_ok (by decide +kernel) rfl) <|
  mi_cI (mi_iconst_ok (n := 1) (by decide) (by decide +kernel) rfl) <|
  mi_cI (mi_iadd_ok (by decide +kernel) rfl) <|
  mi_cI (mi_iast_ok (by decide +kernel) rfl) <|
  mi_cI (mi_aload_n_ok (k := 0) (by decide +kernel) rfl rfl) <|
  mi_cI (mi_iconst_ok (n := 4) (by decide) (by decide +kernel) rfl) <|
  mi_cC ⟨m_X7_laySort, rfl, okM_X7_laySort, 164, 1, by decide +kernel, Or.inl ⟨(by decide +kernel), rfl, (mi_gd5 26 rfl rfl), (mi_gd5 28 rfl rfl), (mi_gd0 38 rfl rfl), 7, _, _, rfl, rfl⟩⟩ <|
  mi_cR (Or.inl ⟨rfl, (by decide +kernel), rfl⟩) <| mi_cN
end MJ5
