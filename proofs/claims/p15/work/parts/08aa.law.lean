section MJC
set_option maxRecDepth 100000 in
theorem okI_X0 : Cond.instantiable RX0 8 ∈ mi_good := (mi_gd1 176 rfl rfl)
set_option maxRecDepth 100000 in
theorem okI_X1 : Cond.instantiable RX1 15 ∈ mi_good := (mi_gd1 61 rfl rfl)
set_option maxRecDepth 100000 in
theorem okI_X2 : Cond.instantiable RX2 16 ∈ mi_good := (mi_gd1 170 rfl rfl)
set_option maxRecDepth 100000 in
theorem okI_X3 : Cond.instantiable RX3 2 ∈ mi_good := (mi_gd1 27 rfl rfl)
set_option maxRecDepth 100000 in
theorem okI_X4 : Cond.instantiable RX4 4 ∈ mi_good := (mi_gd1 69 rfl rfl)
set_option maxRecDepth 100000 in
theorem okI_X5 : Cond.instantiable RX5 1 ∈ mi_good := (mi_gd1 51 rfl rfl)
set_option maxRecDepth 100000 in
theorem okI_X6 : Cond.instantiable RX6 8 ∈ mi_good := (mi_gd1 19 rfl rfl)
set_option maxRecDepth 100000 in
theorem okI_X7 : Cond.instantiable RX7 42 ∈ mi_good := (mi_gd4 99 rfl rfl)
set_option maxRecDepth 100000 in
theorem okA_int : Cond.arrayClass .int ∈ mi_good := (mi_gd1 49 rfl rfl)
set_option maxRecDepth 100000 in
theorem okA_long : Cond.arrayClass .long ∈ mi_good := (mi_gd5 200 rfl rfl)
theorem okS_0 : Cond.initialized Bundle.tN ∈ lw_tbl := by decide +kernel
theorem okS_1 : Cond.laysStatic Bundle.tN "UNASSIGNED_STACK" Bundle.steD ∈ lw_tbl := by decide +kernel
theorem okS_2 : Cond.laysStatic Bundle.tN "SUPPRESSED_SENTINEL" Bundle.listD ∈ lw_tbl := by decide +kernel
theorem okS_str : ∀ q ∈ mi_str, Cond.stringRef q.1 q.2.1 q.2.2 ∈ lw_tbl := by decide +kernel
theorem okS_ex : ∀ q ∈ mi_str, Cond.exactly (.string q.1 q.2.1) "java/lang/String" ∈ flatC (Jvm.Cond.and given_1 narrow_1) := by decide +kernel
theorem okS_nc : ∀ q ∈ mi_ncs, Cond.not (.castable q.1 q.2) ∈ flatC (Jvm.Cond.and given_1 narrow_1) := by decide +kernel
/-- one of the law's own six methods -/
def mi_wok (M : mD) : Prop := mi_OkMW M ∧ (∀ q ∈ M.2.2.2.2.2, mi_OkE mi_ms M.1.cls M.2.1 M.2.2.1 false M.2.2.2.1 q) ∧ M.2.2.2.1 = some .int ∧ ∀ pc ca, (pc, .inr (.inr (.inl ca))) ∈ M.2.2.2.2.2 → mi_OkH M.1.cls M.2.1 M.2.2.1 M.2.2.2.2.1 pc ca.2.2.2
theorem wok_L_node : mi_wok m_L_node := ⟨okW_L_node, ok_L_node, rfl, okH_L_node⟩
theorem wok_L_head : mi_wok m_L_head := ⟨okW_L_head, ok_L_head, rfl, okH_L_head⟩
theorem wok_L_value : mi_wok m_L_value := ⟨okW_L_value, ok_L_value, rfl, okH_L_value⟩
theorem wok_L_sign : mi_wok m_L_sign := ⟨okW_L_sign, ok_L_sign, rfl, okH_L_sign⟩
theorem wok_L_comment : mi_wok m_L_comment := ⟨okW_L_comment, ok_L_comment, rfl, okH_L_comment⟩
theorem wok_L_out : mi_wok m_L_out := ⟨okW_L_out, ok_L_out, rfl, okH_L_out⟩
end MJC
