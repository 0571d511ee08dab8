section MJ1
set_option maxRecDepth 100000 in
set_option maxHeartbeats 4000000 in
theorem ok_X2_readNumber : ∀ q ∈ t_X2_readNumber, mi_OkE mi_ms RX2 cX2_readNumber 2 false (some .boolean) q :=
  mi_cI (mi_aload_n_ok (k := 0) (by decide +kernel) rfl rfl) <|
  mi_cI (mi_get_ok (by decide +kernel) fl_X2_14 rfl) <|
  mi_cI (mi_get_ok (by decide +kernel) fl_X2_91 rfl) <|
  mi_cC ⟨m_X6_isFigure, rfl, okM_X6_isFigure, 167, 1, by decide +kernel, Or.inr (Or.inr ⟨(by decide +kernel), rfl, (mi_gd2 136 rfl rfl), Or.inr ⟨"GraphTexts", (mi_nd2 135 rfl rfl)⟩⟩)⟩ <|
  mi_cI (mi_if_ne_ok (off := 19) (by decide +kernel) (by decide) rfl) <|
  mi_cI (mi_aload_n_ok (k := 0) (by decide +kernel) rfl rfl) <|
  mi_cI (mi_get_ok (by decide +kernel) fl_X2_14 rfl) <|
  mi_cI (mi_iconst_ok (n := 1) (by decide) (by decide +kernel) rfl) <|
  mi_cI (mi_aload_n_ok (k := 0) (by decide +kernel) rfl rfl) <|
  mi_cI (mi_get_ok (by decide +kernel) fl_X2_14 rfl) <|
  mi_cI (mi_get_ok (by decide +kernel) fl_X2_128 rfl) <|
  mi_cC ⟨m_X0_wrong, rfl, okM_X0_wrong, 131, 2, by decide +kernel, Or.inl ⟨(by decide +kernel), rfl, (mi_gd2 109 rfl rfl), (mi_gd2 110 rfl rfl), (mi_gd2 111 rfl rfl), 0, _, _, rfl, rfl⟩⟩ <|
  mi_cR (Or.inr (Or.inr (Or.inl ⟨rfl, (by decide +kernel), rfl⟩))) <|
  mi_cI (mi_aload_n_ok (k := 0) (by decide +kernel) rfl rfl) <|
  mi_cI (mi_iconst_ok (n := 0) (by decide) (by decide +kernel) rfl) <|
  mi_cI (mi_put_ok (by decide +kernel) fl_X2_161 rfl rfl) <|
  mi_cI (mi_iconst_ok (n := 0) (by decide) (by decide +kernel) rfl) <|
  mi_cI (mi_istore_n_ok (k := 1) (by decide +kernel) rfl (by decide) rfl) <|
  mi_cI (mi_iload_n_ok (k := 1) (by decide +kernel) rfl rfl) <|
  mi_cI (mi_iconst_ok (n := 2) (by decide) (by decide +kernel) rfl) <|
  mi_cI (mi_icmp_gt_ok (off := 72) (by decide +kernel) (by decide) rfl) <|
  mi_cI (mi_aload_n_ok (k := 0) (by decide +kernel) rfl rfl) <|
  mi_cI (mi_get_ok (by decide +kernel) fl_X2_14 rfl) <|
  mi_cI (mi_get_ok (by decide +kernel) fl_X2_91 rfl) <|
  mi_cC ⟨m_X6_isFigure, rfl, okM_X6_isFigure, 167, 1, by decide +kernel, Or.inr (Or.inr ⟨(by decide +kernel), rfl, (mi_gd2 136 rfl rfl), Or.inr ⟨"GraphTexts", (mi_nd2 135 rfl rfl)⟩⟩)⟩ <|
  mi_cI (mi_if_eq_ok (off := 59) (by decide +kernel) (by decide) rfl) <|
  mi_cI (mi_iload_n_ok (k := 1) (by decide +kernel) rfl rfl) <|
  mi_cI (mi_iconst_ok (n := 2) (by decide) (by decide +kernel) rfl) <|
  mi_cI (mi_icmp_ne_ok (off := 19) (by decide +kernel) (by decide) rfl) <|
  mi_cI (mi_aload_n_ok (k := 0) (by decide +kernel) rfl rfl) <|
  mi_cI (mi_get_ok (by decide +kernel) fl_X2_14 rfl) <|
  mi_cI (mi_iconst_ok (n := 2) (by decide) (by decide +kernel) rfl) <|
  mi_cI (mi_aload_n_ok (k := 0) (by decide +kernel) rfl rfl) <|
  mi_cI (mi_get_ok (by decide +kernel) fl_X2_14 rfl) <|
  mi_cI (mi_get_ok (by decide +kernel) fl_X2_128 rfl) <|
  mi_cC ⟨m_X0_wrong, rfl, okM_X0_wrong, 131, 2, by decide +kernel, Or.inl ⟨(by decide +kernel), rfl, (mi_gd2 109 rfl rfl), (mi_gd2 110 rfl rfl), (mi_gd2 111 rfl rfl), 0, _, _, rfl, rfl⟩⟩ <|
  mi_cR (Or.inr (Or.inr (Or.inl ⟨rfl, (by decide +kernel), rfl⟩))) <|
  mi_cI (mi_aload_n_ok (k := 0) (by decide +kernel) rfl rfl) <|
  mi_cI (mi_aload_n_ok (k := 0) (by decide +kernel) rfl rfl) <|
  mi_cI (mi_get_ok (by decide +kernel) fl_X2_161 rfl) <|
  mi_cI (mi_bipush_ok (n := 10) (by decide) (by decide +kernel) rfl) <|
  mi_cI (mi_imul_ok (by decide +kernel) rfl) <|
  mi_cI (mi_aload_n_ok (k := 0) (by decide +kernel) rfl rfl) <|
  mi_cI (mi_get_ok (by decide +kernel) fl_X2_14 rfl) <|
  mi_cI (mi_get_ok (by decide +kernel) fl_X2_91 rfl) <|
  mi_cI (mi_bipush_ok (n := 48) (by decide) (by decide +kernel) rfl) <|
  mi_cI (mi_isub_ok (by decide +kernel) rfl) <|
  mi_cI (mi_iadd_ok (by decide +kernel) rfl) <|
  mi_cI (mi_put_ok (by decide +kernel) fl_X2_161 rfl rfl) <|
  mi_cI (mi_aload_n_ok (k := 0) (by decide +kernel) rfl rfl) <|
  mi_cI (mi_get_ok (by decide +kernel) fl_X2_14 rfl) <|
  mi_cC ⟨m_X0_step, rfl, okM_X0_step, 112, 0, by decide +kernel, Or.inl ⟨(by decide +kernel), rfl, (mi_gd2 105 rfl rfl), (mi_gd2 73 rfl rfl), (mi_gd2 74 rfl rfl), 0, _, _, rfl, rfl⟩⟩ <|
  mi_cI (mi_inc_ok (by decide +kernel) (by decide) rfl) <|
  mi_cI (mi_goto_ok (off := (-71)) (by decide +kernel) (by decide)) <|
  mi_cI (mi_iconst_ok (n := 1) (by decide) (by decide +kernel) rfl) <|
  mi_cR (Or.inr (Or.inr (Or.inl ⟨rfl, (by decide +kernel), rfl⟩))) <| mi_cN
set_option maxRecDepth 100000 in
set_option maxHeartbeats 4000000 in
theorem ok_X2_readHead : ∀ q ∈ t_X2_readHead, mi_OkE mi_ms RX2 cX2_readHead 3 false (some .boolean) q :=
  mi_cI (mi_aload_n_ok (k := 0) (by decide +kernel) rfl rfl) <|
  mi_cI (mi_get_ok (by decide +kernel) fl_X2_36 rfl) <|
  mi_cI (mi_if_ne_ok (off := 17) (by decide +kernel) (by decide) rfl) <|
  mi_cI (mi_aload_n_ok (k := 0) (by decide +kernel) rfl rfl) <|
  mi_cI (mi_get_ok (by decide +kernel) fl_X2_20 rfl) <|
  mi_cI (mi_get_ok (by decide +kernel) fl_X2_170 rfl) <|
  mi_cI (mi_get_ok (by decide +kernel) fl_X2_66 rfl) <|
  mi_cI (mi_iconst_ok (n := 3) (by decide) (by decide +kernel) rfl) <|
  mi_cI (mi_icmp_lt_ok (off := 19) (by decide +kernel) (by decide) rfl) <|
  mi_cI (mi_aload_n_ok (k := 0) (by decide +kernel) rfl rfl) <|
  mi_cI (mi_get_ok (by decide +kernel) fl_X2_14 rfl) <|
  mi_cI (mi_iconst_ok (n := 4) (by decide) (by decide +kernel) rfl) <|
  mi_cI (mi_aload_n_ok (k := 0) (by decide +kernel) rfl rfl) <|
  mi_cI (mi_get_ok (by decide +kernel) fl_X2_14 rfl) <|
  mi_cI (mi_get_ok (by decide +kernel) fl_X2_128 rfl) <|
  mi_cC ⟨m_X0_wrong, rfl, okM_X0_wrong, 131, 2, by decide +kernel, Or.inl ⟨(by decide +kernel), rfl, (mi_gd2 109 rfl rfl), (mi_gd2 110 rfl rfl), (mi_gd2 111 rfl rfl), 0, _, _, rfl, rfl⟩⟩ <|
  mi_cR (Or.inr (Or.inr (Or.inl ⟨rfl, (by decide +kernel), rfl⟩))) <|
  mi_cI (mi_aload_n_ok (k := 0) (by decide +kernel) rfl rfl) <|
  mi_cI (mi_get_ok (by decide +kernel) fl_X2_14 rfl) <|
  mi_cC ⟨m_X0_step, rfl, okM_X0_step, 112, 0, by decide +kernel, Or.inl ⟨(by decide +kernel), rfl, (mi_gd2 105 rfl rfl), (mi_gd2 73 rfl rfl), (mi_gd2 74 rfl rfl), 0, _, _, rfl, rfl⟩⟩ <|
  mi_cI (mi_aload_n_ok (k := 0) (by decide +kernel) rfl rfl) <|
  mi_cC ⟨m_X2_readGap, rfl, okM_X2_readGap, 151, 0, by decide +kernel, Or.inl ⟨(by decide +kernel), rfl, (mi_gd2 123 rfl rfl), (mi_gd2 125 rfl rfl), (mi_gd0 3 rfl rfl), 2, _, _, rfl, rfl⟩⟩ <|
  mi_cI (mi_if_eq_ok (off := 10) (by decide +kernel) (by decide) rfl) <|
  mi_cI (mi_aload_n_ok (k := 0) (by decide +kernel) rfl rfl) <|
  mi_cC ⟨m_X2_readName, rfl, okM_X2_readName, 173, 0, by decide +kernel, Or.inl ⟨(by decide +kernel), rfl, (mi_gd2 146 rfl rfl), (mi_gd2 148 rfl rfl), (mi_gd0 7 rfl rfl), 2, _, _, rfl, rfl⟩⟩ <|
  mi_cI (mi_if_ne_ok (off := 5) (by decide +kernel) (by decide) rfl) <|
  mi_cI (mi_iconst_ok (n := 0) (by decide) (by decide +kernel) rfl) <|
  mi_cR (Or.inr (Or.inr (Or.inl ⟨rfl, (by decide +kernel), rfl⟩))) <|
  mi_cI (mi_aload_n_ok (k := 0) (by decide +kernel) rfl rfl) <|
  mi_cI (mi_get_ok (by decide +kernel) fl_X2_20 rfl) <|
  mi_cI (mi_get_ok (by decide +kernel) fl_X2_115 rfl) <|
  mi_cI (mi_get_ok (by decide +kernel) fl_X2_119 rfl) <|
  mi_cI (mi_aload_n_ok (k := 0) (by decide +kernel) rfl rfl) <|
  mi_cI (mi_get_ok (by decide +kernel) fl_X2_176 rfl) <|
  mi_cI (mi_isub_ok (by decide +kernel) rfl) <|
  mi_cI (mi_istore_n_ok (k := 1) (by decide +kernel) rfl (by decide) rfl) <|
  mi_cI (mi_aload_n_ok (k := 0) (by decide +kernel) rfl rfl) <|
  mi_cI (mi_get_ok (by decide +kernel) fl_X2_20 rfl) <|
  mi_cI (mi_get_ok (by decide +kernel) fl_X2_170 rfl) <|
  mi_cI (mi_aload_n_ok (k := 0) (by decide +kernel) rfl rfl) <|
  mi_cI (mi_get_ok (by decide +kernel) fl_X2_20 rfl) <|
  mi_cI (mi_get_ok (by decide +kernel) fl_X2_115 rfl) <|
  mi_cI (mi_aload_n_ok (k := 0) (by decide +kernel) rfl rfl) <|
  mi_cI (mi_get_ok (by decide +kernel) fl_X2_176 rfl) <|
  mi_cI (mi_iload_n_ok (k := 1) (by decide +kernel) rfl rfl) <|
  mi_cC ⟨m_X4_indexOf, rfl, okM_X4_indexOf, 179, 3, by decide +kernel, Or.inl ⟨(by decide +kernel), rfl, (mi_gd2 161 rfl rfl), (mi_gd2 162 rfl rfl), (mi_gd2 163 rfl rfl), 4, _, _, rfl, rfl⟩⟩ <|
  mi_cI (mi_iconst_ok (n := (-1)) (by decide) (by decide +kernel) rfl) <|
  mi_cI (mi_icmp_eq_ok (off := 16) (by decide +kernel) (by decide) rfl) <|
  mi_cI (mi_aload_n_ok (k := 0) (by decide +kernel) rfl rfl) <|
  mi_cI (mi_get_ok (by decide +kernel) fl_X2_14 rfl) <|
  mi_cI (mi_iconst_ok (n := 4) (by decide) (by decide +kernel) rfl) <|
  mi_cI (mi_aload_n_ok (k := 0) (by decide +kernel) rfl rfl) <|
  mi_cI (mi_get_ok (by decide +kernel) fl_X2_183 rfl) <|
  mi_cC ⟨m_X0_wrong, rfl, okM_X0_wrong, 131, 2, by decide +kernel, Or.inl ⟨(by decide +kernel), rfl, (mi_gd2 109 rfl rfl), (mi_gd2 110 rfl rfl), (mi_gd2 111 rfl rfl), 0, _, _, rfl, rfl⟩⟩ <|
  mi_cR (Or.inr (Or.inr (Or.inl ⟨rfl, (by decide +kernel), rfl⟩))) <|
  mi_cI (mi_aload_n_ok (k := 0) (by decide +kernel) rfl rfl) <|
  mi_cI (mi_get_ok (by decide +kernel) fl_X2_20 rfl) <|
  mi_cI (mi_get_ok (by decide +kernel) fl_X2_170 rfl) <|
  mi_cI (mi_aload_n_ok (k := 0) (by decide +kernel) rfl rfl) <|
  mi_cI (mi_get_ok (by decide +kernel) fl_X2_176 rfl) <|
  mi_cI (mi_iload_n_ok (k := 1) (by decide +kernel) rfl rfl) <|
  mi_cC ⟨m_X4_add, rfl, okM_X4_add, 142, 2, by decide +kernel, Or.inl ⟨(by decide +kernel), rfl, (mi_gd2 114 rfl rfl), (mi_gd2 115 rfl rfl), (mi_gd2 116 rfl rfl), 4, _, _, rfl, rfl⟩⟩ <|
  mi_cI (mi_aload_n_ok (k := 0) (by decide +kernel) rfl rfl) <|
  mi_cC ⟨m_X2_readGap, rfl, okM_X2_readGap, 151, 0, by decide +kernel, Or.inl ⟨(by decide +kernel), rfl, (mi_gd2 123 rfl rfl), (mi_gd2 125 rfl rfl), (mi_gd0 3 rfl rfl), 2, _, _, rfl, rfl⟩⟩ <|
  mi_cI (mi_if_ne_ok (off := 5) (by decide +kernel) (by decide) rfl) <|
  mi_cI (mi_iconst_ok (n := 0) (by decide) (by decide +kernel) rfl) <|
  mi_cR (Or.inr (Or.inr (Or.inl ⟨rfl, (by decide +kernel), rfl⟩))) <|
  mi_cI (mi_aload_n_ok (k := 0) (by decide +kernel) rfl rfl) <|
  mi_cI (mi_get_ok (by decide +kernel) fl_X2_14 rfl) <|
  mi_cI (mi_get_ok (by decide +kernel) fl_X2_91 rfl) <|
  mi_cC ⟨m_X2_kindOfLetter, rfl, okM_X2_kindOfLetter, 186, 1, by decide +kernel, Or.inr (Or.inr ⟨(by decide +kernel), rfl, (mi_gd2 174 rfl rfl), Or.inl (mi_gd2 173 rfl rfl)⟩)⟩ <|
  mi_cI (mi_istore_n_ok (k := 2) (by decide +kernel) rfl (by decide) rfl) <|
  mi_cI (mi_iload_n_ok (k := 2) (by decide +kernel) rfl rfl) <|
  mi_cI (mi_iconst_ok (n := (-1)) (by decide) (by decide +kernel) rfl) <|
  mi_cI (mi_icmp_ne_ok (off := 19) (by decide +kernel) (by decide) rfl) <|
  mi_cI (mi_aload_n_ok (k := 0) (by decide +kernel) rfl rfl) <|
  mi_cI (mi_get_ok (by decide +kernel) fl_X2_14 rfl) <|
  mi_cI (mi_iconst_ok (n := 1) (by decide) (by decide +kernel) rfl) <|
  mi_cI (mi_aload_n_ok (k := 0) (by decide +kernel) rfl rfl) <|
  mi_cI (mi_get_ok (by decide +kernel) fl_X2_14 rfl) <|
  mi_cI (mi_get_ok (by decide +kernel) fl_X2_128 rfl) <|
  mi_cC ⟨m_X0_wrong, rfl, okM_X0_wrong, 131, 2, by decide +kernel, Or.inl ⟨(by decide +kernel), rfl, (mi_gd2 109 rfl rfl), (mi_gd2 110 rfl rfl), (mi_gd2 111 rfl rfl), 0, _, _, rfl, rfl⟩⟩ <|
  mi_cR (Or.inr (Or.inr (Or.inl ⟨rfl, (by decide +kernel), rfl⟩))) <|
  mi_cI (mi_aload_n_ok (k := 0) (by decide +kernel) rfl rfl) <|
  mi_cI (mi_get_ok (by decide +kernel) fl_X2_20 rfl) <|
  mi_cI (mi_get_ok (by decide +kernel) fl_X2_189 rfl) <|
  mi_cI (mi_iload_n_ok (k := 2) (by decide +kernel) rfl rfl) <|
  mi_cC ⟨m_X3_add, rfl, okM_X3_add, 135, 1, by decide +kernel, Or.inl ⟨(by decide +kernel), rfl, (mi_gd2 113 rfl rfl), (mi_gd2 53 rfl rfl), (mi_gd2 54 rfl rfl), 3, _, _, rfl, rfl⟩⟩ <|
  mi_cI (mi_aload_n_ok (k := 0) (by decide +kernel) rfl rfl) <|
  mi_cI (mi_get_ok (by decide +kernel) fl_X2_20 rfl) <|
  mi_cI (mi_get_ok (by decide +kernel) fl_X2_145 rfl) <|
  mi_cI (mi_iconst_ok (n := 2) (by decide) (by decide +kernel) rfl) <|
  mi_cC ⟨m_X3_add, rfl, okM_X3_add, 135, 1, by decide +kernel, Or.inl ⟨(by decide +kernel), rfl, (mi_gd2 113 rfl rfl), (mi_gd2 53 rfl rfl), (mi_gd2 54 rfl rfl), 3, _, _, rfl, rfl⟩⟩ <|
  mi_cI (mi_aload_n_ok (k := 0) (by decide +kernel) rfl rfl) <|
  mi_cI (mi_get_ok (by decide +kernel) fl_X2_14 rfl) <|
  mi_cC ⟨m_X0_step, rfl, okM_X0_step, 112, 0, by decide +kernel, Or.inl ⟨(by decide +kernel), rfl, (mi_gd2 105 rfl rfl), (mi_gd2 73 rfl rfl), (mi_gd2 74 rfl rfl), 0, _, _, rfl, rfl⟩⟩ <|
  mi_cI (mi_aload_n_ok (k := 0) (by decide +kernel) rfl rfl) <|
  mi_cC ⟨m_X2_readLineEnd, rfl, okM_X2_readLineEnd, 164, 0, by decide +kernel, Or.inl ⟨(by decide +kernel), rfl, (mi_gd2 138 rfl rfl), (mi_gd2 140 rfl rfl), (mi_gd0 5 rfl rfl), 2, _, _, rfl, rfl⟩⟩ <|
  mi_cR (Or.inr (Or.inr (Or.inl ⟨rfl, (by decide +kernel), rfl⟩))) <| mi_cN
set_option maxRecDepth 100000 in
set_option maxHeartbeats 4000000 in
theorem ok_X2_kindOfLetter : ∀ q ∈ t_X2_kindOfLetter, mi_OkE mi_ms RX2 cX2_kindOfLetter 1 false (some .int) q :=
  mi_cI (mi_iload_n_ok (k := 0) (by decide +kernel) rfl rfl) <|
  mi_cI (mi_look_ok (dflt := 51) (ps := #[(100, 45), (103, 49), (116, 47), (119, 43)]) (len := 43) (by decide +kernel) (by decide) (fun x => mi_lookx _ _ _ x (by decide) _ _ (by decide))) <|
  mi_cI (mi_iconst_ok (n := 0) (by decide) (by decide +kernel) rfl) <|
  mi_cR (Or.inr (Or.inl ⟨rfl, (by decide +kernel), rfl⟩)) <|
  mi_cI (mi_iconst_ok (n := 1) (by decide) (by decide +kernel) rfl) <|
  mi_cR (Or.inr (Or.inl ⟨rfl, (by decide +kernel), rfl⟩)) <|
  mi_cI (mi_iconst_ok (n := 2) (by decide) (by decide +kernel) rfl) <|
  mi_cR (Or.inr (Or.inl ⟨rfl, (by decide +kernel), rfl⟩)) <|
  mi_cI (mi_iconst_ok (n := 3) (by decide) (by decide +kernel) rfl) <|
  mi_cR (Or.inr (Or.inl ⟨rfl, (by decide +kernel), rfl⟩)) <|
  mi_cI (mi_iconst_ok (n := (-1)) (by decide) (by decide +kernel) rfl) <|
  mi_cR (Or.inr (Or.inl ⟨rfl, (by decide +kernel), rfl⟩)) <| mi_cN
set_option maxRecDepth 100000 in
set_option maxHeartbeats 4000000 in
theorem ok_X2_readEnds : ∀ q ∈ t_X2_readEnds, mi_OkE mi_ms RX2 cX2_readEnds 1 false (some .boolean) q :=
  mi_cI (mi_aload_n_ok (k := 0) (by decide +kernel) rfl rfl) <|
  mi_cI (mi_aload_n_ok (k := 0) (by decide +kernel) rfl rfl) <|
  mi_cI (mi_get_ok (by decide +kernel) fl_X2_14 rfl) <|
  mi_cI (mi_get_ok (by decide +kernel) fl_X2_128 rfl) <|
  mi_cI (mi_put_ok (by decide +kernel) fl_X2_192 rfl rfl) <|
  mi_cI (mi_aload_n_ok (k := 0) (by decide +kernel) rfl rfl) <|
  mi_cC ⟨m_X2_readName, rfl, okM_X2_readName, 173, 0, by decide +kernel, Or.inl ⟨(by decide +kernel), rfl, (mi_gd2 146 rfl rfl), (mi_gd2 148 rfl rfl), (mi_gd0 7 rfl rfl), 2, _, _, rfl, rfl⟩⟩ <|
  mi_cI (mi_if_ne_ok (off := 5) (by decide +kernel) (by decide) rfl) <|
  mi_cI (mi_iconst_ok (n := 0) (by decide) (by decide +kernel) rfl) <|
  mi_cR (Or.inr (Or.inr (Or.inl ⟨rfl, (by decide +kernel), rfl⟩))) <|
  mi_cI (mi_aload_n_ok (k := 0) (by decide +kernel) rfl rfl) <|
  mi_cI (mi_aload_n_ok (k := 0) (by decide +kernel) rfl rfl) <|
  mi_cC ⟨m_X2_takeNode, rfl, okM_X2_takeNode, 195, 0, by decide +kernel, Or.inl ⟨(by decide +kernel), rfl, (mi_gd2 180 rfl rfl), (mi_gd2 182 rfl rfl), (mi_gd0 12 rfl rfl), 2, _, _, rfl, rfl⟩⟩ <|
  mi_cI (mi_put_ok (by decide +kernel) fl_X2_198 rfl rfl) <|
  mi_cI (mi_aload_n_ok (k := 0) (by decide +kernel) rfl rfl) <|
  mi_cI (mi_get_ok (by decide +kernel) fl_X2_198 rfl) <|
  mi_cI (mi_iconst_ok (n := (-1)) (by decide) (by decide +kernel) rfl) <|
  mi_cI (mi_icmp_eq_ok (off := 17) (by decide +kernel) (by decide) rfl) <|
  mi_cI (mi_aload_n_ok (k := 0) (by decide +kernel) rfl rfl) <|
  mi_cC ⟨m_X2_readGap, rfl, okM_X2_readGap, 151, 0, by decide +kernel, Or.inl ⟨(by decide +kernel), rfl, (mi_gd2 123 rfl rfl), (mi_gd2 125 rfl rfl), (mi_gd0 3 rfl rfl), 2, _, _, rfl, rfl⟩⟩ <|
  mi_cI (mi_if_eq_ok (off := 10) (by decide +kernel) (by decide) rfl) <|
  mi_cI (mi_aload_n_ok (k := 0) (by decide +kernel) rfl rfl) <|
  mi_cC ⟨m_X2_readName, rfl, okM_X2_readName, 173, 0, by decide +kernel, Or.inl ⟨(by decide +kernel), rfl, (mi_gd2 146 rfl rfl), (mi_gd2 148 rfl rfl), (mi_gd0 7 rfl rfl), 2, _, _, rfl, rfl⟩⟩ <|
  mi_cI (mi_if_ne_ok (off := 5) (by decide +kernel) (by decide) rfl) <|
  mi_cI (mi_iconst_ok (n := 0) (by decide) (by decide +kernel) rfl) <|
  mi_cR (Or.inr (Or.inr (Or.inl ⟨rfl, (by decide +kernel), rfl⟩))) <|
  mi_cI (mi_aload_n_ok (k := 0) (by decide +kernel) rfl rfl) <|
  mi_cI (mi_aload_n_ok (k := 0) (by decide +kernel) rfl rfl) <|
  mi_cC ⟨m_X2_takeNode, rfl, okM_X2_takeNode, 195, 0, by decide +kernel, Or.inl ⟨(by decide +kernel), rfl, (mi_gd2 180 rfl rfl), (mi_gd2 182 rfl rfl), (mi_gd0 12 rfl rfl), 2, _, _, rfl, rfl⟩⟩ <|
  mi_cI (mi_put_ok (by decide +kernel) fl_X2_201 rfl rfl) <|
  mi_cI (mi_aload_n_ok (k := 0) (by decide +kernel) rfl rfl) <|
  mi_cI (mi_get_ok (by decide +kernel) fl_X2_201 rfl) <|
  mi_cI (mi_iconst_ok (n := (-1)) (by decide) (by decide +kernel) rfl) <|
  mi_cI (mi_icmp_ne_ok (off := 5) (by decide +kernel) (by decide) rfl) <|
  mi_cI (mi_iconst_ok (n := 0) (by decide) (by decide +kernel) rfl) <|
  mi_cR (Or.inr (Or.inr (Or.inl ⟨rfl, (by decide +kernel), rfl⟩))) <|
  mi_cI (mi_aload_n_ok (k := 0) (by decide +kernel) rfl rfl) <|
  mi_cI (mi_aload_n_ok (k := 0) (by decide +kernel) rfl rfl) <|
  mi_cI (mi_get_ok (by decide +kernel) fl_X2_20 rfl) <|
  mi_cI (mi_aload_n_ok (k := 0) (by decide +kernel) rfl rfl) <|
  mi_cI (mi_get_ok (by decide +kernel) fl_X2_198 rfl) <|
  mi_cI (mi_aload_n_ok (k := 0) (by decide +kernel) rfl rfl) <|
  mi_cI (mi_get_ok (by decide +kernel) fl_X2_201 rfl) <|
  mi_cC ⟨m_X1_hasArc, rfl, okM_X1_hasArc, 204, 2, by decide +kernel, Or.inl ⟨(by decide +kernel), rfl, (mi_gd2 184 rfl rfl), (mi_gd2 185 rfl rfl), (mi_gd2 186 rfl rfl), 1, _, _, rfl, rfl⟩⟩ <|
  mi_cI (mi_put_ok (by decide +kernel) fl_X2_207 rfl rfl) <|
  mi_cI (mi_aload_n_ok (k := 0) (by decide +kernel) rfl rfl) <|
  mi_cI (mi_get_ok (by decide +kernel) fl_X2_207 rfl) <|
  mi_cI (mi_if_eq_ok (off := 24) (by decide +kernel) (by decide) rfl) <|
  mi_cI (mi_aload_n_ok (k := 0) (by decide +kernel) rfl rfl) <|
  mi_cI (mi_get_ok (by decide +kernel) fl_X2_32 rfl) <|
  mi_cI (mi_iconst_ok (n := 2) (by decide) (by decide +kernel) rfl) <|
  mi_cI (mi_icmp_ne_ok (off := 16) (by decide +kernel) (by decide) rfl) <|
  mi_cI (mi_aload_n_ok (k := 0) (by decide +kernel) rfl rfl) <|
  mi_cI (mi_get_ok (by decide +kernel) fl_X2_14 rfl) <|
  mi_cI (mi_iconst_ok (n := 5) (by decide) (by decide +kernel) rfl) <|
  mi_cI (mi_aload_n_ok (k := 0) (by decide +kernel) rfl rfl) <|
  mi_cI (mi_get_ok (by decide +kernel) fl_X2_183 rfl) <|
  mi_cC ⟨m_X0_wrong, rfl, okM_X0_wrong, 131, 2, by decide +kernel, Or.inl ⟨(by decide +kernel), rfl, (mi_gd2 109 rfl rfl), (mi_gd2 110 rfl rfl), (mi_gd2 111 rfl rfl), 0, _, _, rfl, rfl⟩⟩ <|
  mi_cR (Or.inr (Or.inr (Or.inl ⟨rfl, (by decide +kernel), rfl⟩))) <|
  mi_cI (mi_iconst_ok (n := 1) (by decide) (by decide +kernel) rfl) <|
  mi_cR (Or.inr (Or.inr (Or.inl ⟨rfl, (by decide +kernel), rfl⟩))) <| mi_cN
set_option maxRecDepth 100000 in
set_option maxHeartbeats 4000000 in
theorem ok_X2_endArc : ∀ q ∈ t_X2_endArc, mi_OkE mi_ms RX2 cX2_endArc 1 false (some .boolean) q :=
  mi_cI (mi_aload_n_ok (k := 0) (by decide +kernel) rfl rfl) <|
  mi_cC ⟨m_X2_readLineEnd, rfl, okM_X2_readLineEnd, 164, 0, by decide +kernel, Or.inl ⟨(by decide +kernel), rfl, (mi_gd2 138 rfl rfl), (mi_gd2 140 rfl rfl), (mi_gd0 5 rfl rfl), 2, _, _, rfl, rfl⟩⟩ <|
  mi_cI (mi_if_ne_ok (off := 5) (by decide +kernel) (by decide) rfl) <|
  mi_cI (mi_iconst_ok (n := 0) (by decide) (by decide +kernel) rfl) <|
  mi_cR (Or.inr (Or.inr (Or.inl ⟨rfl, (by decide +kernel), rfl⟩))) <|
  mi_cI (mi_aload_n_ok (k := 0) (by decide +kernel) rfl rfl) <|
  mi_cI (mi_iconst_ok (n := 1) (by decide) (by decide +kernel) rfl) <|
  mi_cI (mi_put_ok (by decide +kernel) fl_X2_36 rfl rfl) <|
  mi_cI (mi_aload_n_ok (k := 0) (by decide +kernel) rfl rfl) <|
  mi_cI (mi_get_ok (by decide +kernel) fl_X2_207 rfl) <|
  mi_cI (mi_if_eq_ok (off := 20) (by decide +kernel) (by decide) rfl) <|
  mi_cI (mi_aload_n_ok (k := 0) (by decide +kernel) rfl rfl) <|
  mi_cI (mi_get_ok (by decide +kernel) fl_X2_32 rfl) <|
  mi_cI (mi_iconst_ok (n := 1) (by decide) (by decide +kernel) rfl) <|
  mi_cI (mi_icmp_ne_ok (off := 12) (by decide +kernel) (by decide) rfl) <|
  mi_cI (mi_aload_n_ok (k := 0) (by decide +kernel) rfl rfl) <|
  mi_cI (mi_get_ok (by decide +kernel) fl_X2_20 rfl) <|
  mi_cC ⟨m_X1_leaveArcOut, rfl, okM_X1_leaveArcOut, 210, 0, by decide +kernel, Or.inl ⟨(by decide +kernel), rfl, (mi_gd2 232 rfl rfl), (mi_gd2 233 rfl rfl), (mi_gd2 234 rfl rfl), 1, _, _, rfl, rfl⟩⟩ <|
  mi_cI (mi_iconst_ok (n := 1) (by decide) (by decide +kernel) rfl) <|
  mi_cR (Or.inr (Or.inr (Or.inl ⟨rfl, (by decide +kernel), rfl⟩))) <|
  mi_cI (mi_aload_n_ok (k := 0) (by decide +kernel) rfl rfl) <|
  mi_cI (mi_get_ok (by decide +kernel) fl_X2_20 rfl) <|
  mi_cC ⟨m_X1_arcCount, rfl, okM_X1_arcCount, 81, 0, by decide +kernel, Or.inl ⟨(by decide +kernel), rfl, (mi_gd3 12 rfl rfl), (mi_gd3 13 rfl rfl), (mi_gd3 14 rfl rfl), 1, _, _, rfl, rfl⟩⟩ <|
  mi_cI (mi_bipush_ok (n := 40) (by decide) (by decide +kernel) rfl) <|
  mi_cI (mi_icmp_lt_ok (off := 17) (by decide +kernel) (by decide) rfl) <|
  mi_cI (mi_aload_n_ok (k := 0) (by decide +kernel) rfl rfl) <|
  mi_cI (mi_get_ok (by decide +kernel) fl_X2_14 rfl) <|
  mi_cI (mi_bipush_ok (n := 6) (by decide) (by decide +kernel) rfl) <|
  mi_cI (mi_aload_n_ok (k := 0) (by decide +kernel) rfl rfl) <|
  mi_cI (mi_get_ok (by decide +kernel) fl_X2_192 rfl) <|
  mi_cC ⟨m_X0_wrong, rfl, okM_X0_wrong, 131, 2, by decide +kernel, Or.inl ⟨(by decide +kernel), rfl, (mi_gd2 109 rfl rfl), (mi_gd2 110 rfl rfl), (mi_gd2 111 rfl rfl), 0, _, _, rfl, rfl⟩⟩ <|
  mi_cR (Or.inr (Or.inr (Or.inl ⟨rfl, (by decide +kernel), rfl⟩))) <|
  mi_cI (mi_aload_n_ok (k := 0) (by decide +kernel) rfl rfl) <|
  mi_cI (mi_get_ok (by decide +kernel) fl_X2_20 rfl) <|
  mi_cI (mi_aload_n_ok (k := 0) (by decide +kernel) rfl rfl) <|
  mi_cI (mi_get_ok (by decide +kernel) fl_X2_198 rfl) <|
  mi_cI (mi_aload_n_ok (k := 0) (by decide +kernel) rfl rfl) <|
  mi_cI (mi_get_ok (by decide +kernel) fl_X2_201 rfl) <|
  mi_cI (mi_aload_n_ok (k := 0) (by decide +kernel) rfl rfl) <|
  mi_cI (mi_get_ok (by decide +kernel) fl_X2_14 rfl) <|
  mi_cI (mi_get_ok (by decide +kernel) fl_X2_148 rfl) <|
  mi_cC ⟨m_X1_addArc, rfl, okM_X1_addArc, 213, 3, by decide +kernel, Or.inl ⟨(by decide +kernel), rfl, (mi_gd3 16 rfl rfl), (mi_gd3 17 rfl rfl), (mi_gd3 18 rfl rfl), 1, _, _, rfl, rfl⟩⟩ <|
  mi_cI (mi_iconst_ok (n := 1) (by decide) (by decide +kernel) rfl) <|
  mi_cR (Or.inr (Or.inr (Or.inl ⟨rfl, (by decide +kernel), rfl⟩))) <| mi_cN
set_option maxRecDepth 100000 in
set_option maxHeartbeats 4000000 in
theorem ok_X2_takeNode : ∀ q ∈ t_X2_takeNode, mi_OkE mi_ms RX2 cX2_takeNode 3 false (some .int) q :=
  mi_cI (mi_aload_n_ok (k := 0) (by decide +kernel) rfl rfl) <|
  mi_cI (mi_get_ok (by decide +kernel) fl_X2_20 rfl) <|
  mi_cI (mi_get_ok (by decide +kernel) fl_X2_115 rfl) <|
  mi_cI (mi_get_ok (by decide +kernel) fl_X2_119 rfl) <|
  mi_cI (mi_aload_n_ok (k := 0) (by decide +kernel) rfl rfl) <|
  mi_cI (mi_get_ok (by decide +kernel) fl_X2_176 rfl) <|
  mi_cI (mi_isub_ok (by decide +kernel) rfl) <|
  mi_cI (mi_istore_n_ok (k := 1) (by decide +kernel) rfl (by decide) rfl) <|
  mi_cI (mi_aload_n_ok (k := 0) (by decide +kernel) rfl rfl) <|
  mi_cI (mi_get_ok (by decide +kernel) fl_X2_20 rfl) <|
  mi_cI (mi_get_ok (by decide +kernel) fl_X2_62 rfl) <|
  mi_cI (mi_aload_n_ok (k := 0) (by decide +kernel) rfl rfl) <|
  mi_cI (mi_get_ok (by decide +kernel) fl_X2_20 rfl) <|
  mi_cI (mi_get_ok (by decide +kernel) fl_X2_115 rfl) <|
  mi_cI (mi_aload_n_ok (k := 0) (by decide +kernel) rfl rfl) <|
  mi_cI (mi_get_ok (by decide +kernel) fl_X2_176 rfl) <|
  mi_cI (mi_iload_n_ok (k := 1) (by decide +kernel) rfl rfl) <|
  mi_cC ⟨m_X4_indexOf, rfl, okM_X4_indexOf, 179, 3, by decide +kernel, Or.inl ⟨(by decide +kernel), rfl, (mi_gd2 161 rfl rfl), (mi_gd2 162 rfl rfl), (mi_gd2 163 rfl rfl), 4, _, _, rfl, rfl⟩⟩ <|
  mi_cI (mi_istore_n_ok (k := 2) (by decide +kernel) rfl (by decide) rfl) <|
  mi_cI (mi_iload_n_ok (k := 2) (by decide +kernel) rfl rfl) <|
  mi_cI (mi_iconst_ok (n := (-1)) (by decide) (by decide +kernel) rfl) <|
  mi_cI (mi_icmp_eq_ok (off := 5) (by decide +kernel) (by decide) rfl) <|
  mi_cI (mi_iload_n_ok (k := 2) (by decide +kernel) rfl rfl) <|
  mi_cR (Or.inr (Or.inl ⟨rfl, (by decide +kernel), rfl⟩)) <|
  mi_cI (mi_aload_n_ok (k := 0) (by decide +kernel) rfl rfl) <|
  mi_cI (mi_get_ok (by decide +kernel) fl_X2_20 rfl) <|
  mi_cI (mi_get_ok (by decide +kernel) fl_X2_62 rfl) <|
  mi_cI (mi_get_ok (by decide +kernel) fl_X2_66 rfl) <|
  mi_cI (mi_bipush_ok (n := 30) (by decide) (by decide +kernel) rfl) <|
  mi_cI (mi_icmp_lt_ok (off := 19) (by decide +kernel) (by decide) rfl) <|
  mi_cI (mi_aload_n_ok (k := 0) (by decide +kernel) rfl rfl) <|
  mi_cI (mi_get_ok (by decide +kernel) fl_X2_14 rfl) <|
  mi_cI (mi_bipush_ok (n := 6) (by decide) (by decide +kernel) rfl) <|
  mi_cI (mi_aload_n_ok (k := 0) (by decide +kernel) rfl rfl) <|
  mi_cI (mi_get_ok (by decide +kernel) fl_X2_183 rfl) <|
  mi_cC ⟨m_X0_wrong, rfl, okM_X0_wrong, 131, 2, by decide +kernel, Or.inl ⟨(by decide +kernel), rfl, (mi_gd2 109 rfl rfl), (mi_gd2 110 rfl rfl), (mi_gd2 111 rfl rfl), 0, _, _, rfl, rfl⟩⟩ <|
  mi_cI (mi_pop_ok (by decide +kernel) rfl) <|
  mi_cI (mi_iconst_ok (n := (-1)) (by decide) (by decide +kernel) rfl) <|
  mi_cR (Or.inr (Or.inl ⟨rfl, (by decide +kernel), rfl⟩)) <|
  mi_cI (mi_aload_n_ok (k := 0) (by decide +kernel) rfl rfl) <|
  mi_cI (mi_get_ok (by decide +kernel) fl_X2_20 rfl) <|
  mi_cI (mi_get_ok (by decide +kernel) fl_X2_62 rfl) <|
  mi_cI (mi_aload_n_ok (k := 0) (by decide +kernel) rfl rfl) <|
  mi_cI (mi_get_ok (by decide +kernel) fl_X2_176 rfl) <|
  mi_cI (mi_iload_n_ok (k := 1) (by decide +kernel) rfl rfl) <|
  mi_cC ⟨m_X4_add, rfl, okM_X4_add, 142, 2, by decide +kernel, Or.inl ⟨(by decide +kernel), rfl, (mi_gd2 114 rfl rfl), (mi_gd2 115 rfl rfl), (mi_gd2 116 rfl rfl), 4, _, _, rfl, rfl⟩⟩ <|
  mi_cI (mi_aload_n_ok (k := 0) (by decide +kernel) rfl rfl) <|
  mi_cI (mi_get_ok (by decide +kernel) fl_X2_20 rfl) <|
  mi_cI (mi_get_ok (by decide +kernel) fl_X2_62 rfl) <|
  mi_cI (mi_get_ok (by decide +kernel) fl_X2_66 rfl) <|
  mi_cI (mi_iconst_ok (n := 1) (by decide) (by decide +kernel) rfl) <|
  mi_cI (mi_isub_ok (by decide +kernel) rfl) <|
  mi_cR (Or.inr (Or.inl ⟨rfl, (by decide +kernel), rfl⟩)) <| mi_cN
set_option maxRecDepth 100000 in
set_option maxHeartbeats 4000000 in
theorem ok_X2_readValues : ∀ q ∈ t_X2_readValues, mi_OkE mi_ms RX2 cX2_readValues 3 false (some .boolean) q :=
  mi_cI (mi_iconst_ok (n := 0) (by decide) (by decide +kernel) rfl) <|
  mi_cI (mi_istore_n_ok (k := 1) (by decide +kernel) rfl (by decide) rfl) <|
  mi_cI (mi_iload_n_ok (k := 1) (by decide +kernel) rfl rfl) <|
  mi_cI (mi_aload_n_ok (k := 0) (by decide +kernel) rfl rfl) <|
  mi_cI (mi_get_ok (by decide +kernel) fl_X2_20 rfl) <|
  mi_cI (mi_get_ok (by decide +kernel) fl_X2_189 rfl) <|
  mi_cI (mi_get_ok (by decide +kernel) fl_X2_119 rfl) <|
  mi_cI (mi_icmp_ge_ok (off := 77) (by decide +kernel) (by decide) rfl) <|
  mi_cI (mi_aload_n_ok (k := 0) (by decide +kernel) rfl rfl) <|
  mi_cC ⟨m_X2_readGap, rfl, okM_X2_readGap, 151, 0, by decide +kernel, Or.inl ⟨(by decide +kernel), rfl, (mi_gd2 123 rfl rfl), (mi_gd2 125 rfl rfl), (mi_gd0 3 rfl rfl), 2, _, _, rfl, rfl⟩⟩ <|
  mi_cI (mi_if_eq_ok (off := 21) (by decide +kernel) (by decide) rfl) <|
  mi_cI (mi_aload_n_ok (k := 0) (by decide +kernel) rfl rfl) <|
  mi_cI (mi_aload_n_ok (k := 0) (by decide +kernel) rfl rfl) <|
  mi_cI (mi_get_ok (by decide +kernel) fl_X2_20 rfl) <|
  mi_cI (mi_get_ok (by decide +kernel) fl_X2_189 rfl) <|
  mi_cI (mi_iload_n_ok (k := 1) (by decide +kernel) rfl rfl) <|
  mi_cC ⟨m_X3_at, rfl, okM_X3_at, 217, 1, by decide +kernel, Or.inl ⟨(by decide +kernel), rfl, (mi_gd2 193 rfl rfl), (mi_gd2 170 rfl rfl), (mi_gd2 171 rfl rfl), 3, _, _, rfl, rfl⟩⟩ <|
  mi_cC ⟨m_X2_readValue, rfl, okM_X2_readValue, 219, 1, by decide +kernel, Or.inl ⟨(by decide +kernel), rfl, (mi_gd2 194 rfl rfl), (mi_gd2 196 rfl rfl), (mi_gd0 14 rfl rfl), 2, _, _, rfl, rfl⟩⟩ <|
  mi_cI (mi_if_ne_ok (off := 5) (by decide +kernel) (by decide) rfl) <|
  mi_cI (mi_iconst_ok (n := 0) (by decide) (by decide +kernel) rfl) <|
  mi_cR (Or.inr (Or.inr (Or.inl ⟨rfl, (by decide +kernel), rfl⟩))) <|
  mi_cI (mi_aload_n_ok (k := 0) (by decide +kernel) rfl rfl) <|
  mi_cI (mi_get_ok (by decide +kernel) fl_X2_222 rfl) <|
  mi_cI (mi_iconst_ok (n := 1) (by decide) (by decide +kernel) rfl) <|
  mi_cI (mi_icmp_eq_ok (off := 11) (by decide +kernel) (by decide) rfl) <|
  mi_cI (mi_aload_n_ok (k := 0) (by decide +kernel) rfl rfl) <|
  mi_cI (mi_get_ok (by decide +kernel) fl_X2_222 rfl) <|
  mi_cI (mi_iconst_ok (n := 2) (by decide) (by decide +kernel) rfl) <|
  mi_cI (mi_icmp_ne_ok (off := 10) (by decide +kernel) (by decide) rfl) <|
  mi_cI (mi_aload_n_ok (k := 0) (by decide +kernel) rfl rfl) <|
  mi_cC ⟨m_X2_thousandthsRead, rfl, okM_X2_thousandthsRead, 225, 0, by decide +kernel, Or.inl ⟨(by decide +kernel), rfl, (mi_gd2 218 rfl rfl), (mi_gd2 220 rfl rfl), (mi_gd0 19 rfl rfl), 2, _, _, rfl, rfl⟩⟩ <|
  mi_cI (mi_goto_ok (off := 4) (by decide +kernel) (by decide)) <|
  mi_cI (mi_iconst_ok (n := 0) (by decide) (by decide +kernel) rfl) <|
  mi_cI (mi_istore_n_ok (k := 2) (by decide +kernel) rfl (by decide) rfl) <|
  mi_cI (mi_aload_n_ok (k := 0) (by decide +kernel) rfl rfl) <|
  mi_cI (mi_get_ok (by decide +kernel) fl_X2_20 rfl) <|
  mi_cI (mi_aload_n_ok (k := 0) (by decide +kernel) rfl rfl) <|
  mi_cI (mi_get_ok (by decide +kernel) fl_X2_222 rfl) <|
  mi_cI (mi_iload_n_ok (k := 2) (by decide +kernel) rfl rfl) <|
  mi_cI (mi_aload_n_ok (k := 0) (by decide +kernel) rfl rfl) <|
  mi_cI (mi_get_ok (by decide +kernel) fl_X2_228 rfl) <|
  mi_cC ⟨m_X1_addValue, rfl, okM_X1_addValue, 231, 3, by decide +kernel, Or.inl ⟨(by decide +kernel), rfl, (mi_gd2 222 rfl rfl), (mi_gd2 223 rfl rfl), (mi_gd2 224 rfl rfl), 1, _, _, rfl, rfl⟩⟩ <|
  mi_cI (mi_inc_ok (by decide +kernel) (by decide) rfl) <|
  mi_cI (mi_goto_ok (off := (-85)) (by decide +kernel) (by decide)) <|
  mi_cI (mi_iconst_ok (n := 1) (by decide) (by decide +kernel) rfl) <|
  mi_cR (Or.inr (Or.inr (Or.inl ⟨rfl, (by decide +kernel), rfl⟩))) <| mi_cN
set_option maxRecDepth 100000 in
set_option maxHeartbeats 4000000 in
theorem ok_X2_readValue : ∀ q ∈ t_X2_readValue, mi_OkE mi_ms RX2 cX2_readValue 3 false (some .boolean) q :=
  mi_cI (mi_aload_n_ok (k := 0) (by decide +kernel) rfl rfl) <|
  mi_cI (mi_aload_n_ok (k := 0) (by decide +kernel) rfl rfl) <|
  mi_cI (mi_get_ok (by decide +kernel) fl_X2_20 rfl) <|
  mi_cI (mi_get_ok (by decide +kernel) fl_X2_115 rfl) <|
  mi_cI (mi_get_ok (by decide +kernel) fl_X2_119 rfl) <|
  mi_cI (mi_put_ok (by decide +kernel) fl_X2_228 rfl rfl) <|
  mi_cI (mi_aload_n_ok (k := 0) (by decide +kernel) rfl rfl) <|
  mi_cI (mi_get_ok (by decide +kernel) fl_X2_14 rfl) <|
  mi_cI (mi_get_ok (by decide +kernel) fl_X2_91 rfl) <|
  mi_cI (mi_bipush_ok (n := 45) (by decide) (by decide +kernel) rfl) <|
  mi_cI (mi_icmp_ne_ok (off := 7) (by decide +kernel) (by decide) rfl) <|
  mi_cI (mi_iconst_ok (n := 1) (by decide) (by decide +kernel) rfl) <|
  mi_cI (mi_goto_ok (off := 4) (by decide +kernel) (by decide)) <|
  mi_cI (mi_iconst_ok (n := 0) (by decide) (by decide +kernel) rfl) <|
  mi_cI (mi_istore_n_ok (k := 2) (by decide +kernel) rfl (by decide) rfl) <|
  mi_cI (mi_iload_n_ok (k := 2) (by decide +kernel) rfl rfl) <|
  mi_cI (mi_if_eq_ok (off := 44) (by decide +kernel) (by decide) rfl) <|
  mi_cI (mi_aload_n_ok (k := 0) (by decide +kernel) rfl rfl) <|
  mi_cI (mi_get_ok (by decide +kernel) fl_X2_20 rfl) <|
  mi_cI (mi_get_ok (by decide +kernel) fl_X2_115 rfl) <|
  mi_cI (mi_aload_n_ok (k := 0) (by decide +kernel) rfl rfl) <|
  mi_cI (mi_get_ok (by decide +kernel) fl_X2_14 rfl) <|
  mi_cI (mi_get_ok (by decide +kernel) fl_X2_91 rfl) <|
  mi_cC ⟨m_X3_add, rfl, okM_X3_add, 135, 1, by decide +kernel, Or.inl ⟨(by decide +kernel), rfl, (mi_gd2 113 rfl rfl), (mi_gd2 53 rfl rfl), (mi_gd2 54 rfl rfl), 3, _, _, rfl, rfl⟩⟩ <|
  mi_cI (mi_aload_n_ok (k := 0) (by decide +kernel) rfl rfl) <|
  mi_cI (mi_get_ok (by decide +kernel) fl_X2_14 rfl) <|
  mi_cC ⟨m_X0_step, rfl, okM_X0_step, 112, 0, by decide +kernel, Or.inl ⟨(by decide +kernel), rfl, (mi_gd2 105 rfl rfl), (mi_gd2 73 rfl rfl), (mi_gd2 74 rfl rfl), 0, _, _, rfl, rfl⟩⟩ <|
  mi_cI (mi_aload_n_ok (k := 0) (by decide +kernel) rfl rfl) <|
  mi_cI (mi_get_ok (by decide +kernel) fl_X2_14 rfl) <|
  mi_cC ⟨m_X0_isWordEnd, rfl, okM_X0_isWordEnd, 234, 0, by decide +kernel, Or.inl ⟨(by decide +kernel), rfl, (mi_gd2 198 rfl rfl), (mi_gd2 199 rfl rfl), (mi_gd2 200 rfl rfl), 0, _, _, rfl, rfl⟩⟩ <|
  mi_cI (mi_if_eq_ok (off := 10) (by decide +kernel) (by decide) rfl) <|
  mi_cI (mi_aload_n_ok (k := 0) (by decide +kernel) rfl rfl) <|
  mi_cI (mi_iconst_ok (n := 0) (by decide) (by decide +kernel) rfl) <|
  mi_cI (mi_put_ok (by decide +kernel) fl_X2_222 rfl rfl) <|
  mi_cI (mi_iconst_ok (n := 1) (by decide) (by decide +kernel) rfl) <|
  mi_cR (Or.inr (Or.inr (Or.inl ⟨rfl, (by decide +kernel), rfl⟩))) <|
  mi_cI (mi_iload_n_ok (k := 2) (by decide +kernel) rfl rfl) <|
  mi_cI (mi_if_ne_ok (off := 35) (by decide +kernel) (by decide) rfl) <|
  mi_cI (mi_iload_n_ok (k := 1) (by decide +kernel) rfl rfl) <|
  mi_cI (mi_iconst_ok (n := 2) (by decide) (by decide +kernel) rfl) <|
  mi_cI (mi_icmp_eq_ok (off := 20) (by decide +kernel) (by decide) rfl) <|
  mi_cI (mi_iload_n_ok (k := 1) (by decide +kernel) rfl rfl) <|
  mi_cI (mi_iconst_ok (n := 3) (by decide) (by decide +kernel) rfl) <|
  mi_cI (mi_icmp_ne_ok (off := 25) (by decide +kernel) (by decide) rfl) <|
  mi_cI (mi_aload_n_ok (k := 0) (by decide +kernel) rfl rfl) <|
  mi_cI (mi_get_ok (by decide +kernel) fl_X2_14 rfl) <|
  mi_cI (mi_get_ok (by decide +kernel) fl_X2_91 rfl) <|
  mi_cI (mi_bipush_ok (n := 34) (by decide) (by decide +kernel) rfl) <|
  mi_cI (mi_icmp_ne_ok (off := 13) (by decide +kernel) (by decide) rfl) <|
  mi_cI (mi_aload_n_ok (k := 0) (by decide +kernel) rfl rfl) <|
  mi_cI (mi_iconst_ok (n := 3) (by decide) (by decide +kernel) rfl) <|
  mi_cI (mi_put_ok (by decide +kernel) fl_X2_222 rfl rfl) <|
  mi_cI (mi_aload_n_ok (k := 0) (by decide +kernel) rfl rfl) <|
  mi_cC ⟨m_X2_readName, rfl, okM_X2_readName, 173, 0, by decide +kernel, Or.inl ⟨(by decide +kernel), rfl, (mi_gd2 146 rfl rfl), (mi_gd2 148 rfl rfl), (mi_gd0 7 rfl rfl), 2, _, _, rfl, rfl⟩⟩ <|
  mi_cR (Or.inr (Or.inr (Or.inl ⟨rfl, (by decide +kernel), rfl⟩))) <|
  mi_cI (mi_iload_n_ok (k := 2) (by decide +kernel) rfl rfl) <|
  mi_cI (mi_if_ne_ok (off := 13) (by decide +kernel) (by decide) rfl) <|
  mi_cI (mi_iload_n_ok (k := 1) (by decide +kernel) rfl rfl) <|
  mi_cI (mi_iconst_ok (n := 3) (by decide) (by decide +kernel) rfl) <|
  mi_cI (mi_icmp_ne_ok (off := 8) (by decide +kernel) (by decide) rfl) <|
  mi_cI (mi_aload_n_ok (k := 0) (by decide +kernel) rfl rfl) <|
  mi_cC ⟨m_X2_readGuessed, rfl, okM_X2_readGuessed, 237, 0, by decide +kernel, Or.inl ⟨(by decide +kernel), rfl, (mi_gd2 202 rfl rfl), (mi_gd2 204 rfl rfl), (mi_gd0 15 rfl rfl), 2, _, _, rfl, rfl⟩⟩ <|
  mi_cR (Or.inr (Or.inr (Or.inl ⟨rfl, (by decide +kernel), rfl⟩))) <|
  mi_cI (mi_iload_n_ok (k := 2) (by decide +kernel) rfl rfl) <|
  mi_cI (mi_if_ne_ok (off := 57) (by decide +kernel) (by decide) rfl) <|
  mi_cI (mi_aload_n_ok (k := 0) (by decide +kernel) rfl rfl) <|
  mi_cI (mi_get_ok (by decide +kernel) fl_X2_14 rfl) <|
  mi_cI (mi_get_ok (by decide +kernel) fl_X2_91 rfl) <|
  mi_cI (mi_bipush_ok (n := 34) (by decide) (by decide +kernel) rfl) <|
  mi_cI (mi_icmp_eq_ok (off := 29) (by decide +kernel) (by decide) rfl) <|
  mi_cI (mi_aload_n_ok (k := 0) (by decide +kernel) rfl rfl) <|
  mi_cI (mi_get_ok (by decide +kernel) fl_X2_14 rfl) <|
  mi_cI (mi_get_ok (by decide +kernel) fl_X2_91 rfl) <|
  mi_cC ⟨m_X6_isPlain, rfl, okM_X6_isPlain, 240, 1, by decide +kernel, Or.inr (Or.inr ⟨(by decide +kernel), rfl, (mi_gd2 159 rfl rfl), Or.inr ⟨"GraphTexts", (mi_nd2 158 rfl rfl)⟩⟩)⟩ <|
  mi_cI (mi_if_eq_ok (off := 32) (by decide +kernel) (by decide) rfl) <|
  mi_cI (mi_aload_n_ok (k := 0) (by decide +kernel) rfl rfl) <|
  mi_cI (mi_get_ok (by decide +kernel) fl_X2_14 rfl) <|
  mi_cI (mi_get_ok (by decide +kernel) fl_X2_91 rfl) <|
  mi_cC ⟨m_X6_isFigure, rfl, okM_X6_isFigure, 167, 1, by decide +kernel, Or.inr (Or.inr ⟨(by decide +kernel), rfl, (mi_gd2 136 rfl rfl), Or.inr ⟨"GraphTexts", (mi_nd2 135 rfl rfl)⟩⟩)⟩ <|
  mi_cI (mi_if_ne_ok (off := 19) (by decide +kernel) (by decide) rfl) <|
  mi_cI (mi_aload_n_ok (k := 0) (by decide +kernel) rfl rfl) <|
  mi_cI (mi_get_ok (by decide +kernel) fl_X2_14 rfl) <|
  mi_cI (mi_iconst_ok (n := 3) (by decide) (by decide +kernel) rfl) <|
  mi_cI (mi_aload_n_ok (k := 0) (by decide +kernel) rfl rfl) <|
  mi_cI (mi_get_ok (by decide +kernel) fl_X2_14 rfl) <|
  mi_cI (mi_get_ok (by decide +kernel) fl_X2_128 rfl) <|
  mi_cC ⟨m_X0_wrong, rfl, okM_X0_wrong, 131, 2, by decide +kernel, Or.inl ⟨(by decide +kernel), rfl, (mi_gd2 109 rfl rfl), (mi_gd2 110 rfl rfl), (mi_gd2 111 rfl rfl), 0, _, _, rfl, rfl⟩⟩ <|
  mi_cR (Or.inr (Or.inr (Or.inl ⟨rfl, (by decide +kernel), rfl⟩))) <|
  mi_cI (mi_iload_n_ok (k := 1) (by decide +kernel) rfl rfl) <|
  mi_cI (mi_iconst_ok (n := 2) (by decide) (by decide +kernel) rfl) <|
  mi_cI (mi_icmp_eq_ok (off := 16) (by decide +kernel) (by decide) rfl) <|
  mi_cI (mi_aload_n_ok (k := 0) (by decide +kernel) rfl rfl) <|
  mi_cI (mi_get_ok (by decide +kernel) fl_X2_14 rfl) <|
  mi_cI (mi_get_ok (by decide +kernel) fl_X2_91 rfl) <|
  mi_cC ⟨m_X6_isFigure, rfl, okM_X6_isFigure, 167, 1, by decide +kernel, Or.inr (Or.inr ⟨(by decide +kernel), rfl, (mi_gd2 136 rfl rfl), Or.inr ⟨"GraphTexts", (mi_nd2 135 rfl rfl)⟩⟩)⟩ <|
  mi_cI (mi_if_ne_ok (off := 19) (by decide +kernel) (by decide) rfl) <|
  mi_cI (mi_aload_n_ok (k := 0) (by decide +kernel) rfl rfl) <|
  mi_cI (mi_get_ok (by decide +kernel) fl_X2_14 rfl) <|
  mi_cI (mi_iconst_ok (n := 1) (by decide) (by decide +kernel) rfl) <|
  mi_cI (mi_aload_n_ok (k := 0) (by decide +kernel) rfl rfl) <|
  mi_cI (mi_get_ok (by decide +kernel) fl_X2_14 rfl) <|
  mi_cI (mi_get_ok (by decide +kernel) fl_X2_128 rfl) <|
  mi_cC ⟨m_X0_wrong, rfl, okM_X0_wrong, 131, 2, by decide +kernel, Or.inl ⟨(by decide +kernel), rfl, (mi_gd2 109 rfl rfl), (mi_gd2 110 rfl rfl), (mi_gd2 111 rfl rfl), 0, _, _, rfl, rfl⟩⟩ <|
  mi_cR (Or.inr (Or.inr (Or.inl ⟨rfl, (by decide +kernel), rfl⟩))) <|
  mi_cI (mi_aload_n_ok (k := 0) (by decide +kernel) rfl rfl) <|
  mi_cI (mi_iload_n_ok (k := 1) (by decide +kernel) rfl rfl) <|
  mi_cI (mi_iload_n_ok (k := 2) (by decide +kernel) rfl rfl) <|
  mi_cC ⟨m_X2_readFigures, rfl, okM_X2_readFigures, 243, 2, by decide +kernel, Or.inl ⟨(by decide +kernel), rfl, (mi_gd2 214 rfl rfl), (mi_gd2 216 rfl rfl), (mi_gd0 18 rfl rfl), 2, _, _, rfl, rfl⟩⟩ <|
  mi_cR (Or.inr (Or.inr (Or.inl ⟨rfl, (by decide +kernel), rfl⟩))) <| mi_cN
set_option maxRecDepth 100000 in
set_option maxHeartbeats 4000000 in
theorem ok_X2_readFigures : ∀ q ∈ t_X2_readFigures, mi_OkE mi_ms RX2 cX2_readFigures 6 false (some .boolean) q :=
  mi_cI (mi_aload_n_ok (k := 0) (by decide +kernel) rfl rfl) <|
  mi_cI (mi_get_ok (by decide +kernel) fl_X2_14 rfl) <|
  mi_cI (mi_get_ok (by decide +kernel) fl_X2_128 rfl) <|
  mi_cI (mi_istore_n_ok (k := 3) (by decide +kernel) rfl (by decide) rfl) <|
  mi_cI (mi_aload_n_ok (k := 0) (by decide +kernel) rfl rfl) <|
  mi_cI (mi_get_ok (by decide +kernel) fl_X2_14 rfl) <|
  mi_cI (mi_get_ok (by decide +kernel) fl_X2_91 rfl) <|
  mi_cI (mi_bipush_ok (n := 48) (by decide) (by decide +kernel) rfl) <|
  mi_cI (mi_icmp_ne_ok (off := 7) (by decide +kernel) (by decide) rfl) <|
  mi_cI (mi_iconst_ok (n := 1) (by decide) (by decide +kernel) rfl) <|
  mi_cI (mi_goto_ok (off := 4) (by decide +kernel) (by decide)) <|
  mi_cI (mi_iconst_ok (n := 0) (by decide) (by decide +kernel) rfl) <|
  mi_cI (mi_istore_ok (by decide +kernel) (by decide) rfl) <|
  mi_cI (mi_iload_ok (by decide +kernel) rfl) <|
  mi_cI (mi_if_eq_ok (off := 27) (by decide +kernel) (by decide) rfl) <|
  mi_cI (mi_iload_n_ok (k := 2) (by decide +kernel) rfl rfl) <|
  mi_cI (mi_if_eq_ok (off := 23) (by decide +kernel) (by decide) rfl) <|
  mi_cI (mi_iload_n_ok (k := 1) (by decide +kernel) rfl rfl) <|
  mi_cI (mi_if_ne_ok (off := 19) (by decide +kernel) (by decide) rfl) <|
  mi_cI (mi_aload_n_ok (k := 0) (by decide +kernel) rfl rfl) <|
  mi_cI (mi_get_ok (by decide +kernel) fl_X2_14 rfl) <|
  mi_cI (mi_iconst_ok (n := 1) (by decide) (by decide +kernel) rfl) <|
  mi_cI (mi_aload_n_ok (k := 0) (by decide +kernel) rfl rfl) <|
  mi_cI (mi_get_ok (by decide +kernel) fl_X2_14 rfl) <|
  mi_cI (mi_get_ok (by decide +kernel) fl_X2_128 rfl) <|
  mi_cC ⟨m_X0_wrong, rfl, okM_X0_wrong, 131, 2, by decide +kernel, Or.inl ⟨(by decide +kernel), rfl, (mi_gd2 109 rfl rfl), (mi_gd2 110 rfl rfl), (mi_gd2 111 rfl rfl), 0, _, _, rfl, rfl⟩⟩ <|
  mi_cR (Or.inr (Or.inr (Or.inl ⟨rfl, (by decide +kernel), rfl⟩))) <|
  mi_cI (mi_iconst_ok (n := 0) (by decide) (by decide +kernel) rfl) <|
  mi_cI (mi_istore_ok (by decide +kernel) (by decide) rfl) <|
  mi_cI (mi_iload_ok (by decide +kernel) rfl) <|
  mi_cI (mi_bipush_ok (n := 6) (by decide) (by decide +kernel) rfl) <|
  mi_cI (mi_icmp_gt_ok (off := 95) (by decide +kernel) (by decide) rfl) <|
  mi_cI (mi_aload_n_ok (k := 0) (by decide +kernel) rfl rfl) <|
  mi_cI (mi_get_ok (by decide +kernel) fl_X2_14 rfl) <|
  mi_cI (mi_get_ok (by decide +kernel) fl_X2_91 rfl) <|
  mi_cC ⟨m_X6_isFigure, rfl, okM_X6_isFigure, 167, 1, by decide +kernel, Or.inr (Or.inr ⟨(by decide +kernel), rfl, (mi_gd2 136 rfl rfl), Or.inr ⟨"GraphTexts", (mi_nd2 135 rfl rfl)⟩⟩)⟩ <|
  mi_cI (mi_if_eq_ok (off := 82) (by decide +kernel) (by decide) rfl) <|
  mi_cI (mi_iload_ok (by decide +kernel) rfl) <|
  mi_cI (mi_if_eq_ok (off := 24) (by decide +kernel) (by decide) rfl) <|
  mi_cI (mi_iload_ok (by decide +kernel) rfl) <|
  mi_cI (mi_if_le_ok (off := 19) (by decide +kernel) (by decide) rfl) <|
  mi_cI (mi_aload_n_ok (k := 0) (by decide +kernel) rfl rfl) <|
  mi_cI (mi_get_ok (by decide +kernel) fl_X2_14 rfl) <|
  mi_cI (mi_iconst_ok (n := 1) (by decide) (by decide +kernel) rfl) <|
  mi_cI (mi_aload_n_ok (k := 0) (by decide +kernel) rfl rfl) <|
  mi_cI (mi_get_ok (by decide +kernel) fl_X2_14 rfl) <|
  mi_cI (mi_get_ok (by decide +kernel) fl_X2_128 rfl) <|
  mi_cC ⟨m_X0_wrong, rfl, okM_X0_wrong, 131, 2, by decide +kernel, Or.inl ⟨(by decide +kernel), rfl, (mi_gd2 109 rfl rfl), (mi_gd2 110 rfl rfl), (mi_gd2 111 rfl rfl), 0, _, _, rfl, rfl⟩⟩ <|
  mi_cR (Or.inr (Or.inr (Or.inl ⟨rfl, (by decide +kernel), rfl⟩))) <|
  mi_cI (mi_iload_ok (by decide +kernel) rfl) <|
  mi_cI (mi_bipush_ok (n := 6) (by decide) (by decide +kernel) rfl) <|
  mi_cI (mi_icmp_ne_ok (off := 19) (by decide +kernel) (by decide) rfl) <|
  mi_cI (mi_aload_n_ok (k := 0) (by decide +kernel) rfl rfl) <|
  mi_cI (mi_get_ok (by decide +kernel) fl_X2_14 rfl) <|
  mi_cI (mi_iconst_ok (n := 2) (by decide) (by decide +kernel) rfl) <|
  mi_cI (mi_aload_n_ok (k := 0) (by decide +kernel) rfl rfl) <|
  mi_cI (mi_get_ok (by decide +kernel) fl_X2_14 rfl) <|
  mi_cI (mi_get_ok (by decide +kernel) fl_X2_128 rfl) <|
  mi_cC ⟨m_X0_wrong, rfl, okM_X0_wrong, 131, 2, by decide +kernel, Or.inl ⟨(by decide +kernel), rfl, (mi_gd2 109 rfl rfl), (mi_gd2 110 rfl rfl), (mi_gd2 111 rfl rfl), 0, _, _, rfl, rfl⟩⟩ <|
  mi_cR (Or.inr (Or.inr (Or.inl ⟨rfl, (by decide +kernel), rfl⟩))) <|
  mi_cI (mi_aload_n_ok (k := 0) (by decide +kernel) rfl rfl) <|
  mi_cI (mi_get_ok (by decide +kernel) fl_X2_20 rfl) <|
  mi_cI (mi_get_ok (by decide +kernel) fl_X2_115 rfl) <|
  mi_cI (mi_aload_n_ok (k := 0) (by decide +kernel) rfl rfl) <|
  mi_cI (mi_get_ok (by decide +kernel) fl_X2_14 rfl) <|
  mi_cI (mi_get_ok (by decide +kernel) fl_X2_91 rfl) <|
  mi_cC ⟨m_X3_add, rfl, okM_X3_add, 135, 1, by decide +kernel, Or.inl ⟨(by decide +kernel), rfl, (mi_gd2 113 rfl rfl), (mi_gd2 53 rfl rfl), (mi_gd2 54 rfl rfl), 3, _, _, rfl, rfl⟩⟩ <|
  mi_cI (mi_aload_n_ok (k := 0) (by decide +kernel) rfl rfl) <|
  mi_cI (mi_get_ok (by decide +kernel) fl_X2_14 rfl) <|
  mi_cC ⟨m_X0_step, rfl, okM_X0_step, 112, 0, by decide +kernel, Or.inl ⟨(by decide +kernel), rfl, (mi_gd2 105 rfl rfl), (mi_gd2 73 rfl rfl), (mi_gd2 74 rfl rfl), 0, _, _, rfl, rfl⟩⟩ <|
  mi_cI (mi_inc_ok (by decide +kernel) (by decide) rfl) <|
  mi_cI (mi_goto_ok (off := (-96)) (by decide +kernel) (by decide)) <|
  mi_cI (mi_aload_n_ok (k := 0) (by decide +kernel) rfl rfl) <|
  mi_cI (mi_get_ok (by decide +kernel) fl_X2_14 rfl) <|
  mi_cI (mi_get_ok (by decide +kernel) fl_X2_91 rfl) <|
  mi_cI (mi_bipush_ok (n := 46) (by decide) (by decide +kernel) rfl) <|
  mi_cI (mi_icmp_ne_ok (off := 13) (by decide +kernel) (by decide) rfl) <|
  mi_cI (mi_iload_n_ok (k := 1) (by decide +kernel) rfl rfl) <|
  mi_cI (mi_if_eq_ok (off := 9) (by decide +kernel) (by decide) rfl) <|
  mi_cI (mi_aload_n_ok (k := 0) (by decide +kernel) rfl rfl) <|
  mi_cI (mi_iload_n_ok (k := 3) (by decide +kernel) rfl rfl) <|
  mi_cC ⟨m_X2_readFraction, rfl, okM_X2_readFraction, 247, 1, by decide +kernel, Or.inl ⟨(by decide +kernel), rfl, (mi_gd2 210 rfl rfl), (mi_gd2 212 rfl rfl), (mi_gd0 17 rfl rfl), 2, _, _, rfl, rfl⟩⟩ <|
  mi_cR (Or.inr (Or.inr (Or.inl ⟨rfl, (by decide +kernel), rfl⟩))) <|
  mi_cI (mi_iload_ok (by decide +kernel) rfl) <|
  mi_cI (mi_if_eq_ok (off := 17) (by decide +kernel) (by decide) rfl) <|
  mi_cI (mi_iload_n_ok (k := 2) (by decide +kernel) rfl rfl) <|
  mi_cI (mi_if_eq_ok (off := 13) (by decide +kernel) (by decide) rfl) <|
  mi_cI (mi_aload_n_ok (k := 0) (by decide +kernel) rfl rfl) <|
  mi_cI (mi_get_ok (by decide +kernel) fl_X2_14 rfl) <|
  mi_cI (mi_iconst_ok (n := 1) (by decide) (by decide +kernel) rfl) <|
  mi_cI (mi_iload_n_ok (k := 3) (by decide +kernel) rfl rfl) <|
  mi_cC ⟨m_X0_wrong, rfl, okM_X0_wrong, 131, 2, by decide +kernel, Or.inl ⟨(by decide +kernel), rfl, (mi_gd2 109 rfl rfl), (mi_gd2 110 rfl rfl), (mi_gd2 111 rfl rfl), 0, _, _, rfl, rfl⟩⟩ <|
  mi_cR (Or.inr (Or.inr (Or.inl ⟨rfl, (by decide +kernel), rfl⟩))) <|
  mi_cI (mi_aload_n_ok (k := 0) (by decide +kernel) rfl rfl) <|
  mi_cI (mi_iconst_ok (n := 1) (by decide) (by decide +kernel) rfl) <|
  mi_cI (mi_put_ok (by decide +kernel) fl_X2_222 rfl rfl) <|
  mi_cI (mi_iconst_ok (n := 1) (by decide) (by decide +kernel) rfl) <|
  mi_cR (Or.inr (Or.inr (Or.inl ⟨rfl, (by decide +kernel), rfl⟩))) <| mi_cN
set_option maxRecDepth 100000 in
set_option maxHeartbeats 4000000 in
theorem ok_X2_readFraction : ∀ q ∈ t_X2_readFraction, mi_OkE mi_ms RX2 cX2_readFraction 3 false (some .boolean) q :=
  mi_cI (mi_aload_n_ok (k := 0) (by decide +kernel) rfl rfl) <|
  mi_cI (mi_get_ok (by decide +kernel) fl_X2_14 rfl) <|
  mi_cI (mi_get_ok (by decide +kernel) fl_X2_128 rfl) <|
  mi_cI (mi_iload_n_ok (k := 1) (by decide +kernel) rfl rfl) <|
  mi_cI (mi_isub_ok (by decide +kernel) rfl) <|
  mi_cI (mi_iconst_ok (n := 3) (by decide) (by decide +kernel) rfl) <|
  mi_cI (mi_icmp_le_ok (off := 15) (by decide +kernel) (by decide) rfl) <|
  mi_cI (mi_aload_n_ok (k := 0) (by decide +kernel) rfl rfl) <|
  mi_cI (mi_get_ok (by decide +kernel) fl_X2_14 rfl) <|
  mi_cI (mi_iconst_ok (n := 2) (by decide) (by decide +kernel) rfl) <|
  mi_cI (mi_iload_n_ok (k := 1) (by decide +kernel) rfl rfl) <|
  mi_cI (mi_iconst_ok (n := 3) (by decide) (by decide +kernel) rfl) <|
  mi_cI (mi_iadd_ok (by decide +kernel) rfl) <|
  mi_cC ⟨m_X0_wrong, rfl, okM_X0_wrong, 131, 2, by decide +kernel, Or.inl ⟨(by decide +kernel), rfl, (mi_gd2 109 rfl rfl), (mi_gd2 110 rfl rfl), (mi_gd2 111 rfl rfl), 0, _, _, rfl, rfl⟩⟩ <|
  mi_cR (Or.inr (Or.inr (Or.inl ⟨rfl, (by decide +kernel), rfl⟩))) <|
  mi_cI (mi_aload_n_ok (k := 0) (by decide +kernel) rfl rfl) <|
  mi_cI (mi_iconst_ok (n := 2) (by decide) (by decide +kernel) rfl) <|
  mi_cI (mi_put_ok (by decide +kernel) fl_X2_222 rfl rfl) <|
  mi_cI (mi_aload_n_ok (k := 0) (by decide +kernel) rfl rfl) <|
  mi_cI (mi_get_ok (by decide +kernel) fl_X2_20 rfl) <|
  mi_cI (mi_get_ok (by decide +kernel) fl_X2_115 rfl) <|
  mi_cI (mi_aload_n_ok (k := 0) (by decide +kernel) rfl rfl) <|
  mi_cI (mi_get_ok (by decide +kernel) fl_X2_14 rfl) <|
  mi_cI (mi_get_ok (by decide +kernel) fl_X2_91 rfl) <|
  mi_cC ⟨m_X3_add, rfl, okM_X3_add, 135, 1, by decide +kernel, Or.inl ⟨(by decide +kernel), rfl, (mi_gd2 113 rfl rfl), (mi_gd2 53 rfl rfl), (mi_gd2 54 rfl rfl), 3, _, _, rfl, rfl⟩⟩ <|
  mi_cI (mi_aload_n_ok (k := 0) (by decide +kernel) rfl rfl) <|
  mi_cI (mi_get_ok (by decide +kernel) fl_X2_14 rfl) <|
  mi_cC ⟨m_X0_step, rfl, okM_X0_step, 112, 0, by decide +kernel, Or.inl ⟨(by decide +kernel), rfl, (mi_gd2 105 rfl rfl), (mi_gd2 73 rfl rfl), (mi_gd2 74 rfl rfl), 0, _, _, rfl, rfl⟩⟩ <|
  mi_cI (mi_aload_n_ok (k := 0) (by decide +kernel) rfl rfl) <|
  mi_cI (mi_get_ok (by decide +kernel) fl_X2_14 rfl) <|
  mi_cI (mi_get_ok (by decide +kernel) fl_X2_91 rfl) <|
  mi_cC ⟨m_X6_isFigure, rfl, okM_X6_isFigure, 167, 1, by decide +kernel, Or.inr (Or.inr ⟨(by decide +kernel), rfl, (mi_gd2 136 rfl rfl), Or.inr ⟨"GraphTexts", (mi_nd2 135 rfl rfl)⟩⟩)⟩ <|
  mi_cI (mi_if_ne_ok (off := 19) (by decide +kernel) (by decide) rfl) <|
  mi_cI (mi_aload_n_ok (k := 0) (by decide +kernel) rfl rfl) <|
  mi_cI (mi_get_ok (by decide +kernel) fl_X2_14 rfl) <|
  mi_cI (mi_iconst_ok (n := 1) (by decide) (by decide +kernel) rfl) <|
  mi_cI (mi_aload_n_ok (k := 0) (by decide +kernel) rfl rfl) <|
  mi_cI (mi_get_ok (by decide +kernel) fl_X2_14 rfl) <|
  mi_cI (mi_get_ok (by decide +kernel) fl_X2_128 rfl) <|
  mi_cC ⟨m_X0_wrong, rfl, okM_X0_wrong, 131, 2, by decide +kernel, Or.inl ⟨(by decide +kernel), rfl, (mi_gd2 109 rfl rfl), (mi_gd2 110 rfl rfl), (mi_gd2 111 rfl rfl), 0, _, _, rfl, rfl⟩⟩ <|
  mi_cR (Or.inr (Or.inr (Or.inl ⟨rfl, (by decide +kernel), rfl⟩))) <|
  mi_cI (mi_iconst_ok (n := 0) (by decide) (by decide +kernel) rfl) <|
  mi_cI (mi_istore_n_ok (k := 2) (by decide +kernel) rfl (by decide) rfl) <|
  mi_cI (mi_iload_n_ok (k := 2) (by decide +kernel) rfl rfl) <|
  mi_cI (mi_iconst_ok (n := 3) (by decide) (by decide +kernel) rfl) <|
  mi_cI (mi_icmp_gt_ok (off := 67) (by decide +kernel) (by decide) rfl) <|
  mi_cI (mi_aload_n_ok (k := 0) (by decide +kernel) rfl rfl) <|
  mi_cI (mi_get_ok (by decide +kernel) fl_X2_14 rfl) <|
  mi_cI (mi_get_ok (by decide +kernel) fl_X2_91 rfl) <|
  mi_cC ⟨m_X6_isFigure, rfl, okM_X6_isFigure, 167, 1, by decide +kernel, Or.inr (Or.inr ⟨(by decide +kernel), rfl, (mi_gd2 136 rfl rfl), Or.inr ⟨"GraphTexts", (mi_nd2 135 rfl rfl)⟩⟩)⟩ <|
  mi_cI (mi_if_eq_ok (off := 54) (by decide +kernel) (by decide) rfl) <|
  mi_cI (mi_iload_n_ok (k := 2) (by decide +kernel) rfl rfl) <|
  mi_cI (mi_iconst_ok (n := 3) (by decide) (by decide +kernel) rfl) <|
  mi_cI (mi_icmp_ne_ok (off := 19) (by decide +kernel) (by decide) rfl) <|
  mi_cI (mi_aload_n_ok (k := 0) (by decide +kernel) rfl rfl) <|
  mi_cI (mi_get_ok (by decide +kernel) fl_X2_14 rfl) <|
  mi_cI (mi_iconst_ok (n := 2) (by decide) (by decide +kernel) rfl) <|
  mi_cI (mi_aload_n_ok (k := 0) (by decide +kernel) rfl rfl) <|
  mi_cI (mi_get_ok (by decide +kernel) fl_X2_14 rfl) <|
  mi_cI (mi_get_ok (by decide +kernel) fl_X2_128 rfl) <|
  mi_cC ⟨m_X0_wrong, rfl, okM_X0_wrong, 131, 2, by decide +kernel, Or.inl ⟨(by decide +kernel), rfl, (mi_gd2 109 rfl rfl), (mi_gd2 110 rfl rfl), (mi_gd2 111 rfl rfl), 0, _, _, rfl, rfl⟩⟩ <|
  mi_cR (Or.inr (Or.inr (Or.inl ⟨rfl, (by decide +kernel), rfl⟩))) <|
  mi_cI (mi_aload_n_ok (k := 0) (by decide +kernel) rfl rfl) <|
  mi_cI (mi_get_ok (by decide +kernel) fl_X2_20 rfl) <|
  mi_cI (mi_get_ok (by decide +kernel) fl_X2_115 rfl) <|
  mi_cI (mi_aload_n_ok (k := 0) (by decide +kernel) rfl rfl) <|
  mi_cI (mi_get_ok (by decide +kernel) fl_X2_14 rfl) <|
  mi_cI (mi_get_ok (by decide +kernel) fl_X2_91 rfl) <|
  mi_cC ⟨m_X3_add, rfl, okM_X3_add, 135, 1, by decide +kernel, Or.inl ⟨(by decide +kernel), rfl, (mi_gd2 113 rfl rfl), (mi_gd2 53 rfl rfl), (mi_gd2 54 rfl rfl), 3, _, _, rfl, rfl⟩⟩ <|
  mi_cI (mi_aload_n_ok (k := 0) (by decide +kernel) rfl rfl) <|
  mi_cI (mi_get_ok (by decide +kernel) fl_X2_14 rfl) <|
  mi_cC ⟨m_X0_step, rfl, okM_X0_step, 112, 0, by decide +kernel, Or.inl ⟨(by decide +kernel), rfl, (mi_gd2 105 rfl rfl), (mi_gd2 73 rfl rfl), (mi_gd2 74 rfl rfl), 0, _, _, rfl, rfl⟩⟩ <|
  mi_cI (mi_inc_ok (by decide +kernel) (by decide) rfl) <|
  mi_cI (mi_goto_ok (off := (-66)) (by decide +kernel) (by decide)) <|
  mi_cI (mi_iconst_ok (n := 1) (by decide) (by decide +kernel) rfl) <|
  mi_cR (Or.inr (Or.inr (Or.inl ⟨rfl, (by decide +kernel), rfl⟩))) <| mi_cN
set_option maxRecDepth 100000 in
set_option maxHeartbeats 4000000 in
theorem ok_X2_readGuessed : ∀ q ∈ t_X2_readGuessed, mi_OkE mi_ms RX2 cX2_readGuessed 5 false (some .boolean) q :=
  mi_cI (mi_aload_n_ok (k := 0) (by decide +kernel) rfl rfl) <|
  mi_cI (mi_get_ok (by decide +kernel) fl_X2_14 rfl) <|
  mi_cI (mi_get_ok (by decide +kernel) fl_X2_128 rfl) <|
  mi_cI (mi_istore_n_ok (k := 1) (by decide +kernel) rfl (by decide) rfl) <|
  mi_cI (mi_aload_n_ok (k := 0) (by decide +kernel) rfl rfl) <|
  mi_cC ⟨m_X2_readPlain, rfl, okM_X2_readPlain, 250, 0, by decide +kernel, Or.inl ⟨(by decide +kernel), rfl, (mi_gd2 154 rfl rfl), (mi_gd2 156 rfl rfl), (mi_gd0 9 rfl rfl), 2, _, _, rfl, rfl⟩⟩ <|
  mi_cI (mi_if_ne_ok (off := 5) (by decide +kernel) (by decide) rfl) <|
  mi_cI (mi_iconst_ok (n := 0) (by decide) (by decide +kernel) rfl) <|
  mi_cR (Or.inr (Or.inr (Or.inl ⟨rfl, (by decide +kernel), rfl⟩))) <|
  mi_cI (mi_aload_n_ok (k := 0) (by decide +kernel) rfl rfl) <|
  mi_cI (mi_get_ok (by decide +kernel) fl_X2_20 rfl) <|
  mi_cI (mi_get_ok (by decide +kernel) fl_X2_115 rfl) <|
  mi_cI (mi_get_ok (by decide +kernel) fl_X2_119 rfl) <|
  mi_cI (mi_aload_n_ok (k := 0) (by decide +kernel) rfl rfl) <|
  mi_cI (mi_get_ok (by decide +kernel) fl_X2_228 rfl) <|
  mi_cI (mi_isub_ok (by decide +kernel) rfl) <|
  mi_cI (mi_istore_n_ok (k := 2) (by decide +kernel) rfl (by decide) rfl) <|
  mi_cI (mi_iload_n_ok (k := 2) (by decide +kernel) rfl rfl) <|
  mi_cI (mi_iconst_ok (n := 1) (by decide) (by decide +kernel) rfl) <|
  mi_cI (mi_icmp_le_ok (off := 26) (by decide +kernel) (by decide) rfl) <|
  mi_cI (mi_aload_n_ok (k := 0) (by decide +kernel) rfl rfl) <|
  mi_cI (mi_get_ok (by decide +kernel) fl_X2_20 rfl) <|
  mi_cI (mi_get_ok (by decide +kernel) fl_X2_115 rfl) <|
  mi_cI (mi_aload_n_ok (k := 0) (by decide +kernel) rfl rfl) <|
  mi_cI (mi_get_ok (by decide +kernel) fl_X2_228 rfl) <|
  mi_cC ⟨m_X3_at, rfl, okM_X3_at, 217, 1, by decide +kernel, Or.inl ⟨(by decide +kernel), rfl, (mi_gd2 193 rfl rfl), (mi_gd2 170 rfl rfl), (mi_gd2 171 rfl rfl), 3, _, _, rfl, rfl⟩⟩ <|
  mi_cI (mi_bipush_ok (n := 48) (by decide) (by decide +kernel) rfl) <|
  mi_cI (mi_icmp_ne_ok (off := 7) (by decide +kernel) (by decide) rfl) <|
  mi_cI (mi_iconst_ok (n := 1) (by decide) (by decide +kernel) rfl) <|
  mi_cI (mi_goto_ok (off := 4) (by decide +kernel) (by decide)) <|
  mi_cI (mi_iconst_ok (n := 0) (by decide) (by decide +kernel) rfl) <|
  mi_cI (mi_istore_n_ok (k := 3) (by decide +kernel) rfl (by decide) rfl) <|
  mi_cI (mi_aload_n_ok (k := 0) (by decide +kernel) rfl rfl) <|
  mi_cI (mi_aload_n_ok (k := 0) (by decide +kernel) rfl rfl) <|
  mi_cI (mi_get_ok (by decide +kernel) fl_X2_228 rfl) <|
  mi_cC ⟨m_X2_figuresOnly, rfl, okM_X2_figuresOnly, 253, 1, by decide +kernel, Or.inl ⟨(by decide +kernel), rfl, (mi_gd2 206 rfl rfl), (mi_gd2 208 rfl rfl), (mi_gd0 16 rfl rfl), 2, _, _, rfl, rfl⟩⟩ <|
  mi_cI (mi_istore_ok (by decide +kernel) (by decide) rfl) <|
  mi_cI (mi_iload_ok (by decide +kernel) rfl) <|
  mi_cI (mi_if_eq_ok (off := 39) (by decide +kernel) (by decide) rfl) <|
  mi_cI (mi_aload_n_ok (k := 0) (by decide +kernel) rfl rfl) <|
  mi_cI (mi_get_ok (by decide +kernel) fl_X2_14 rfl) <|
  mi_cI (mi_get_ok (by decide +kernel) fl_X2_91 rfl) <|
  mi_cI (mi_bipush_ok (n := 46) (by decide) (by decide +kernel) rfl) <|
  mi_cI (mi_icmp_ne_ok (off := 27) (by decide +kernel) (by decide) rfl) <|
  mi_cI (mi_iload_n_ok (k := 3) (by decide +kernel) rfl rfl) <|
  mi_cI (mi_if_eq_ok (off := 17) (by decide +kernel) (by decide) rfl) <|
  mi_cI (mi_aload_n_ok (k := 0) (by decide +kernel) rfl rfl) <|
  mi_cI (mi_get_ok (by decide +kernel) fl_X2_14 rfl) <|
  mi_cI (mi_iconst_ok (n := 1) (by decide) (by decide +kernel) rfl) <|
  mi_cI (mi_iload_n_ok (k := 1) (by decide +kernel) rfl rfl) <|
  mi_cI (mi_iconst_ok (n := 1) (by decide) (by decide +kernel) rfl) <|
  mi_cI (mi_iadd_ok (by decide +kernel) rfl) <|
  mi_cC ⟨m_X0_wrong, rfl, okM_X0_wrong, 131, 2, by decide +kernel, Or.inl ⟨(by decide +kernel), rfl, (mi_gd2 109 rfl rfl), (mi_gd2 110 rfl rfl), (mi_gd2 111 rfl rfl), 0, _, _, rfl, rfl⟩⟩ <|
  mi_cI (mi_goto_ok (off := 8) (by decide +kernel) (by decide)) <|
  mi_cI (mi_aload_n_ok (k := 0) (by decide +kernel) rfl rfl) <|
  mi_cI (mi_iload_n_ok (k := 1) (by decide +kernel) rfl rfl) <|
  mi_cC ⟨m_X2_readFraction, rfl, okM_X2_readFraction, 247, 1, by decide +kernel, Or.inl ⟨(by decide +kernel), rfl, (mi_gd2 210 rfl rfl), (mi_gd2 212 rfl rfl), (mi_gd0 17 rfl rfl), 2, _, _, rfl, rfl⟩⟩ <|
  mi_cR (Or.inr (Or.inr (Or.inl ⟨rfl, (by decide +kernel), rfl⟩))) <|
  mi_cI (mi_aload_n_ok (k := 0) (by decide +kernel) rfl rfl) <|
  mi_cI (mi_iload_ok (by decide +kernel) rfl) <|
  mi_cI (mi_if_eq_ok (off := 17) (by decide +kernel) (by decide) rfl) <|
  mi_cI (mi_iload_n_ok (k := 3) (by decide +kernel) rfl rfl) <|
  mi_cI (mi_if_ne_ok (off := 13) (by decide +kernel) (by decide) rfl) <|
  mi_cI (mi_iload_n_ok (k := 2) (by decide +kernel) rfl rfl) <|
  mi_cI (mi_bipush_ok (n := 6) (by decide) (by decide +kernel) rfl) <|
  mi_cI (mi_icmp_gt_ok (off := 7) (by decide +kernel) (by decide) rfl) <|
  mi_cI (mi_iconst_ok (n := 1) (by decide) (by decide +kernel) rfl) <|
  mi_cI (mi_goto_ok (off := 4) (by decide +kernel) (by decide)) <|
  mi_cI (mi_iconst_ok (n := 3) (by decide) (by decide +kernel) rfl) <|
  mi_cI (mi_put_ok (by decide +kernel) fl_X2_222 rfl rfl) <|
  mi_cI (mi_iconst_ok (n := 1) (by decide) (by decide +kernel) rfl) <|
  mi_cR (Or.inr (Or.inr (Or.inl ⟨rfl, (by decide +kernel), rfl⟩))) <| mi_cN
end MJ1
