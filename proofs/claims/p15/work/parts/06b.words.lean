section MI9
theorem mi_gd0 {w : Cond} (N : Nat) (h : (k2_sels lw_privs)[N]? = some w) (hg : goodWord w = true) : w ∈ mi_good := List.mem_filter.mpr ⟨List.mem_append_left _ (List.mem_of_getElem? h), hg⟩
theorem mi_in1 {w : Cond} (h : w ∈ tables_1_1) : w ∈ lw_tbl := List.mem_append_right _ (List.mem_append_left _ h)
theorem mi_gd1 {w : Cond} (N : Nat) (h : tables_1_1[N]? = some w) (hg : goodWord w = true) : w ∈ mi_good := List.mem_filter.mpr ⟨mi_in1 (List.mem_of_getElem? h), hg⟩
theorem mi_nd1 {w : Cond} (N : Nat) (h : tables_1_1[N]? = some w) (hg : mi_isNest w = true) : w ∈ mi_nw := List.mem_filter.mpr ⟨mi_in1 (List.mem_of_getElem? h), hg⟩
theorem mi_in2 {w : Cond} (h : w ∈ tables_1_2) : w ∈ lw_tbl := List.mem_append_right _ (List.mem_append_right _ (List.mem_append_left _ h))
theorem mi_gd2 {w : Cond} (N : Nat) (h : tables_1_2[N]? = some w) (hg : goodWord w = true) : w ∈ mi_good := List.mem_filter.mpr ⟨mi_in2 (List.mem_of_getElem? h), hg⟩
theorem mi_nd2 {w : Cond} (N : Nat) (h : tables_1_2[N]? = some w) (hg : mi_isNest w = true) : w ∈ mi_nw := List.mem_filter.mpr ⟨mi_in2 (List.mem_of_getElem? h), hg⟩
theorem mi_in3 {w : Cond} (h : w ∈ tables_1_3) : w ∈ lw_tbl := List.mem_append_right _ (List.mem_append_right _ (List.mem_append_right _ (List.mem_append_left _ h)))
theorem mi_gd3 {w : Cond} (N : Nat) (h : tables_1_3[N]? = some w) (hg : goodWord w = true) : w ∈ mi_good := List.mem_filter.mpr ⟨mi_in3 (List.mem_of_getElem? h), hg⟩
theorem mi_nd3 {w : Cond} (N : Nat) (h : tables_1_3[N]? = some w) (hg : mi_isNest w = true) : w ∈ mi_nw := List.mem_filter.mpr ⟨mi_in3 (List.mem_of_getElem? h), hg⟩
theorem mi_in4 {w : Cond} (h : w ∈ tables_1_4) : w ∈ lw_tbl := List.mem_append_right _ (List.mem_append_right _ (List.mem_append_right _ (List.mem_append_right _ (List.mem_append_left _ h))))
theorem mi_gd4 {w : Cond} (N : Nat) (h : tables_1_4[N]? = some w) (hg : goodWord w = true) : w ∈ mi_good := List.mem_filter.mpr ⟨mi_in4 (List.mem_of_getElem? h), hg⟩
theorem mi_nd4 {w : Cond} (N : Nat) (h : tables_1_4[N]? = some w) (hg : mi_isNest w = true) : w ∈ mi_nw := List.mem_filter.mpr ⟨mi_in4 (List.mem_of_getElem? h), hg⟩
theorem mi_in5 {w : Cond} (h : w ∈ tables_1_5) : w ∈ lw_tbl := List.mem_append_right _ (List.mem_append_right _ (List.mem_append_right _ (List.mem_append_right _ (List.mem_append_right _ (h)))))
theorem mi_gd5 {w : Cond} (N : Nat) (h : tables_1_5[N]? = some w) (hg : goodWord w = true) : w ∈ mi_good := List.mem_filter.mpr ⟨mi_in5 (List.mem_of_getElem? h), hg⟩
theorem mi_nd5 {w : Cond} (N : Nat) (h : tables_1_5[N]? = some w) (hg : mi_isNest w = true) : w ∈ mi_nw := List.mem_filter.mpr ⟨mi_in5 (List.mem_of_getElem? h), hg⟩
theorem mi_lookx (pc : Nat) (d0 : Int) (dt : Nat) (x : Int32) (hd : (pc : Int) + d0 = dt) : ∀ (ps : List (Int × Int)) (ts : List (Int × Nat)), ps.map (fun q => (q.1, (pc : Int) + q.2)) = ts.map (fun q => (q.1, (q.2 : Int))) → (pc : Int) + Op.lookupswitch.offset ps d0 x.toInt = (mi_look ts dt x : Int)
  | [], [], _ => hd
  | [], _ :: _, h => by simp at h
  | _ :: _, [], h => by simp at h
  | (a, o) :: ps, (a2, o2) :: ts, h => by
    simp only [List.map_cons, List.cons.injEq, Prod.mk.injEq] at h
    obtain ⟨⟨h1, h2⟩, h3⟩ := h
    subst h1
    rw [Op.lookupswitch.offset_cons]
    unfold mi_look
    by_cases hc : a = x.toInt
    · rw [if_pos hc, if_pos hc.symm]; exact h2
    · rw [if_neg hc, if_neg (fun q => hc q.symm)]
      exact mi_lookx pc d0 dt x hd ps ts h3
theorem cf_X0 : mi_CF 0 RX0 TX0 8 tyX0 := ⟨rfl, by decide +kernel, tyX0_ok, nmX0⟩
theorem cf_X1 : mi_CF 1 RX1 TX1 15 tyX1 := ⟨rfl, by decide +kernel, tyX1_ok, nmX1⟩
theorem cf_X2 : mi_CF 2 RX2 TX2 16 tyX2 := ⟨rfl, by decide +kernel, tyX2_ok, nmX2⟩
theorem cf_X3 : mi_CF 3 RX3 TX3 2 tyX3 := ⟨rfl, by decide +kernel, tyX3_ok, nmX3⟩
theorem cf_X4 : mi_CF 4 RX4 TX4 4 tyX4 := ⟨rfl, by decide +kernel, tyX4_ok, nmX4⟩
theorem cf_X5 : mi_CF 5 RX5 TX5 1 tyX5 := ⟨rfl, by decide +kernel, tyX5_ok, nmX5⟩
theorem cf_X6 : mi_CF 6 RX6 TX6 8 tyX6 := ⟨rfl, by decide +kernel, tyX6_ok, nmX6⟩
theorem cf_X7 : mi_CF 7 RX7 TX7 42 tyX7 := ⟨rfl, by decide +kernel, tyX7_ok, nmX7⟩
set_option maxRecDepth 100000 in
theorem fl_X0_9 : mi_FL RX0 9 0 0 (.object "GraphTexts$Row") false := ⟨_, _, _, _, cf_X0, by decide, rfl, rfl, rfl, Or.inl (mi_gd1 181 rfl rfl)⟩
set_option maxRecDepth 100000 in
theorem fl_X0_15 : mi_FL RX0 15 0 1 .int false := ⟨_, _, _, _, cf_X0, by decide, rfl, rfl, rfl, Or.inl (mi_gd1 182 rfl rfl)⟩
set_option maxRecDepth 100000 in
theorem fl_X0_19 : mi_FL RX0 19 0 2 .int false := ⟨_, _, _, _, cf_X0, by decide, rfl, rfl, rfl, Or.inl (mi_gd1 184 rfl rfl)⟩
set_option maxRecDepth 100000 in
theorem fl_X0_22 : mi_FL RX0 22 0 3 .int false := ⟨_, _, _, _, cf_X0, by decide, rfl, rfl, rfl, Or.inl (mi_gd1 186 rfl rfl)⟩
set_option maxRecDepth 100000 in
theorem fl_X0_25 : mi_FL RX0 25 0 4 .int false := ⟨_, _, _, _, cf_X0, by decide, rfl, rfl, rfl, Or.inl (mi_gd1 188 rfl rfl)⟩
set_option maxRecDepth 100000 in
theorem fl_X0_28 : mi_FL RX0 28 0 5 .int false := ⟨_, _, _, _, cf_X0, by decide, rfl, rfl, rfl, Or.inl (mi_gd1 189 rfl rfl)⟩
set_option maxRecDepth 100000 in
theorem fl_X0_31 : mi_FL RX0 31 0 6 .int false := ⟨_, _, _, _, cf_X0, by decide, rfl, rfl, rfl, Or.inl (mi_gd1 191 rfl rfl)⟩
set_option maxRecDepth 100000 in
theorem fl_X0_34 : mi_FL RX0 34 0 7 .int false := ⟨_, _, _, _, cf_X0, by decide, rfl, rfl, rfl, Or.inl (mi_gd1 193 rfl rfl)⟩
set_option maxRecDepth 100000 in
theorem fl_X0_40 : mi_FL RX0 40 3 1 .int false := ⟨_, _, _, _, cf_X3, by decide, rfl, rfl, rfl, Or.inr ⟨"GraphTexts", (mi_nd1 41 rfl rfl)⟩⟩
set_option maxRecDepth 100000 in
theorem fl_X0_48 : mi_FL RX0 48 3 0 (.array .int) true := ⟨_, _, _, _, cf_X3, by decide, rfl, rfl, rfl, Or.inr ⟨"GraphTexts", (mi_nd1 36 rfl rfl)⟩⟩
set_option maxRecDepth 100000 in
theorem fl_X1_14 : mi_FL RX1 14 1 0 (.object "GraphTexts$Row") true := ⟨_, _, _, _, cf_X1, by decide, rfl, rfl, rfl, Or.inl (mi_gd1 92 rfl rfl)⟩
set_option maxRecDepth 100000 in
theorem fl_X1_25 : mi_FL RX1 25 1 1 (.object "GraphTexts$Spans") true := ⟨_, _, _, _, cf_X1, by decide, rfl, rfl, rfl, Or.inl (mi_gd1 94 rfl rfl)⟩
set_option maxRecDepth 100000 in
theorem fl_X1_29 : mi_FL RX1 29 1 2 (.object "GraphTexts$Spans") true := ⟨_, _, _, _, cf_X1, by decide, rfl, rfl, rfl, Or.inl (mi_gd1 98 rfl rfl)⟩
set_option maxRecDepth 100000 in
theorem fl_X1_32 : mi_FL RX1 32 1 3 (.object "GraphTexts$Spans") true := ⟨_, _, _, _, cf_X1, by decide, rfl, rfl, rfl, Or.inl (mi_gd1 102 rfl rfl)⟩
set_option maxRecDepth 100000 in
theorem fl_X1_35 : mi_FL RX1 35 1 4 (.object "GraphTexts$Row") true := ⟨_, _, _, _, cf_X1, by decide, rfl, rfl, rfl, Or.inl (mi_gd1 106 rfl rfl)⟩
set_option maxRecDepth 100000 in
theorem fl_X1_38 : mi_FL RX1 38 1 5 (.object "GraphTexts$Row") true := ⟨_, _, _, _, cf_X1, by decide, rfl, rfl, rfl, Or.inl (mi_gd1 110 rfl rfl)⟩
set_option maxRecDepth 100000 in
theorem fl_X1_41 : mi_FL RX1 41 1 6 (.object "GraphTexts$Row") true := ⟨_, _, _, _, cf_X1, by decide, rfl, rfl, rfl, Or.inl (mi_gd1 113 rfl rfl)⟩
set_option maxRecDepth 100000 in
theorem fl_X1_44 : mi_FL RX1 44 1 7 (.object "GraphTexts$Row") true := ⟨_, _, _, _, cf_X1, by decide, rfl, rfl, rfl, Or.inl (mi_gd1 116 rfl rfl)⟩
set_option maxRecDepth 100000 in
theorem fl_X1_47 : mi_FL RX1 47 1 8 (.object "GraphTexts$Spans") true := ⟨_, _, _, _, cf_X1, by decide, rfl, rfl, rfl, Or.inl (mi_gd1 118 rfl rfl)⟩
set_option maxRecDepth 100000 in
theorem fl_X1_50 : mi_FL RX1 50 1 9 (.object "GraphTexts$Row") true := ⟨_, _, _, _, cf_X1, by decide, rfl, rfl, rfl, Or.inl (mi_gd1 121 rfl rfl)⟩
set_option maxRecDepth 100000 in
theorem fl_X1_53 : mi_FL RX1 53 1 10 (.object "GraphTexts$Row") true := ⟨_, _, _, _, cf_X1, by decide, rfl, rfl, rfl, Or.inl (mi_gd1 124 rfl rfl)⟩
set_option maxRecDepth 100000 in
theorem fl_X1_56 : mi_FL RX1 56 1 11 (.object "GraphTexts$Row") true := ⟨_, _, _, _, cf_X1, by decide, rfl, rfl, rfl, Or.inl (mi_gd1 127 rfl rfl)⟩
set_option maxRecDepth 100000 in
theorem fl_X1_59 : mi_FL RX1 59 1 12 .int false := ⟨_, _, _, _, cf_X1, by decide, rfl, rfl, rfl, Or.inl (mi_gd1 130 rfl rfl)⟩
set_option maxRecDepth 100000 in
theorem fl_X1_63 : mi_FL RX1 63 1 13 .int false := ⟨_, _, _, _, cf_X1, by decide, rfl, rfl, rfl, Or.inl (mi_gd1 132 rfl rfl)⟩
set_option maxRecDepth 100000 in
theorem fl_X1_66 : mi_FL RX1 66 1 14 .int false := ⟨_, _, _, _, cf_X1, by decide, rfl, rfl, rfl, Or.inl (mi_gd1 135 rfl rfl)⟩
set_option maxRecDepth 100000 in
theorem fl_X1_73 : mi_FL RX1 73 3 1 .int false := ⟨_, _, _, _, cf_X3, by decide, rfl, rfl, rfl, Or.inr ⟨"GraphTexts", (mi_nd1 40 rfl rfl)⟩⟩
set_option maxRecDepth 100000 in
theorem fl_X1_81 : mi_FL RX1 81 4 3 .int false := ⟨_, _, _, _, cf_X4, by decide, rfl, rfl, rfl, Or.inr ⟨"GraphTexts", (mi_nd1 81 rfl rfl)⟩⟩
set_option maxRecDepth 100000 in
theorem fl_X2_14 : mi_FL RX2 14 2 0 (.object "GraphTexts$Cursor") true := ⟨_, _, _, _, cf_X2, by decide, rfl, rfl, rfl, Or.inl (mi_gd1 212 rfl rfl)⟩
set_option maxRecDepth 100000 in
theorem fl_X2_20 : mi_FL RX2 20 2 1 (.object "GraphTexts$Graph") false := ⟨_, _, _, _, cf_X2, by decide, rfl, rfl, rfl, Or.inl (mi_gd1 214 rfl rfl)⟩
set_option maxRecDepth 100000 in
theorem fl_X2_32 : mi_FL RX2 32 2 2 .int false := ⟨_, _, _, _, cf_X2, by decide, rfl, rfl, rfl, Or.inl (mi_gd1 215 rfl rfl)⟩
set_option maxRecDepth 100000 in
theorem fl_X2_36 : mi_FL RX2 36 2 3 .boolean false := ⟨_, _, _, _, cf_X2, by decide, rfl, rfl, rfl, Or.inl (mi_gd1 216 rfl rfl)⟩
set_option maxRecDepth 100000 in
theorem fl_X2_40 : mi_FL RX2 40 2 4 .int false := ⟨_, _, _, _, cf_X2, by decide, rfl, rfl, rfl, Or.inl (mi_gd1 217 rfl rfl)⟩
set_option maxRecDepth 100000 in
theorem fl_X2_59 : mi_FL RX2 59 1 13 .int false := ⟨_, _, _, _, cf_X1, by decide, rfl, rfl, rfl, Or.inr ⟨"GraphTexts", (mi_nd1 133 rfl rfl)⟩⟩
set_option maxRecDepth 100000 in
theorem fl_X2_62 : mi_FL RX2 62 1 1 (.object "GraphTexts$Spans") true := ⟨_, _, _, _, cf_X1, by decide, rfl, rfl, rfl, Or.inr ⟨"GraphTexts", (mi_nd1 95 rfl rfl)⟩⟩
set_option maxRecDepth 100000 in
theorem fl_X2_66 : mi_FL RX2 66 4 3 .int false := ⟨_, _, _, _, cf_X4, by decide, rfl, rfl, rfl, Or.inr ⟨"GraphTexts", (mi_nd1 80 rfl rfl)⟩⟩
set_option maxRecDepth 100000 in
theorem fl_X2_71 : mi_FL RX2 71 2 5 .int false := ⟨_, _, _, _, cf_X2, by decide, rfl, rfl, rfl, Or.inl (mi_gd1 218 rfl rfl)⟩
set_option maxRecDepth 100000 in
theorem fl_X2_78 : mi_FL RX2 78 1 14 .int false := ⟨_, _, _, _, cf_X1, by decide, rfl, rfl, rfl, Or.inr ⟨"GraphTexts", (mi_nd1 136 rfl rfl)⟩⟩
set_option maxRecDepth 100000 in
theorem fl_X2_85 : mi_FL RX2 85 2 6 .int false := ⟨_, _, _, _, cf_X2, by decide, rfl, rfl, rfl, Or.inl (mi_gd1 219 rfl rfl)⟩
set_option maxRecDepth 100000 in
theorem fl_X2_91 : mi_FL RX2 91 0 2 .int false := ⟨_, _, _, _, cf_X0, by decide, rfl, rfl, rfl, Or.inr ⟨"GraphTexts", (mi_nd1 185 rfl rfl)⟩⟩
set_option maxRecDepth 100000 in
theorem fl_X2_115 : mi_FL RX2 115 1 0 (.object "GraphTexts$Row") true := ⟨_, _, _, _, cf_X1, by decide, rfl, rfl, rfl, Or.inr ⟨"GraphTexts", (mi_nd1 93 rfl rfl)⟩⟩
set_option maxRecDepth 100000 in
theorem fl_X2_119 : mi_FL RX2 119 3 1 .int false := ⟨_, _, _, _, cf_X3, by decide, rfl, rfl, rfl, Or.inr ⟨"GraphTexts", (mi_nd1 43 rfl rfl)⟩⟩
set_option maxRecDepth 100000 in
theorem fl_X2_128 : mi_FL RX2 128 0 1 .int false := ⟨_, _, _, _, cf_X0, by decide, rfl, rfl, rfl, Or.inr ⟨"GraphTexts", (mi_nd1 183 rfl rfl)⟩⟩
set_option maxRecDepth 100000 in
theorem fl_X2_139 : mi_FL RX2 139 1 3 (.object "GraphTexts$Spans") true := ⟨_, _, _, _, cf_X1, by decide, rfl, rfl, rfl, Or.inr ⟨"GraphTexts", (mi_nd1 104 rfl rfl)⟩⟩
set_option maxRecDepth 100000 in
theorem fl_X2_145 : mi_FL RX2 145 1 11 (.object "GraphTexts$Row") true := ⟨_, _, _, _, cf_X1, by decide, rfl, rfl, rfl, Or.inr ⟨"GraphTexts", (mi_nd1 129 rfl rfl)⟩⟩
set_option maxRecDepth 100000 in
theorem fl_X2_148 : mi_FL RX2 148 0 3 .int false := ⟨_, _, _, _, cf_X0, by decide, rfl, rfl, rfl, Or.inr ⟨"GraphTexts", (mi_nd1 187 rfl rfl)⟩⟩
set_option maxRecDepth 100000 in
theorem fl_X2_161 : mi_FL RX2 161 2 7 .int false := ⟨_, _, _, _, cf_X2, by decide, rfl, rfl, rfl, Or.inl (mi_gd1 220 rfl rfl)⟩
set_option maxRecDepth 100000 in
theorem fl_X2_170 : mi_FL RX2 170 1 2 (.object "GraphTexts$Spans") true := ⟨_, _, _, _, cf_X1, by decide, rfl, rfl, rfl, Or.inr ⟨"GraphTexts", (mi_nd1 100 rfl rfl)⟩⟩
set_option maxRecDepth 100000 in
theorem fl_X2_176 : mi_FL RX2 176 2 9 .int false := ⟨_, _, _, _, cf_X2, by decide, rfl, rfl, rfl, Or.inl (mi_gd1 222 rfl rfl)⟩
set_option maxRecDepth 100000 in
theorem fl_X2_183 : mi_FL RX2 183 2 8 .int false := ⟨_, _, _, _, cf_X2, by decide, rfl, rfl, rfl, Or.inl (mi_gd1 221 rfl rfl)⟩
set_option maxRecDepth 100000 in
theorem fl_X2_189 : mi_FL RX2 189 1 4 (.object "GraphTexts$Row") true := ⟨_, _, _, _, cf_X1, by decide, rfl, rfl, rfl, Or.inr ⟨"GraphTexts", (mi_nd1 108 rfl rfl)⟩⟩
set_option maxRecDepth 100000 in
theorem fl_X2_192 : mi_FL RX2 192 2 12 .int false := ⟨_, _, _, _, cf_X2, by decide, rfl, rfl, rfl, Or.inl (mi_gd1 225 rfl rfl)⟩
set_option maxRecDepth 100000 in
theorem fl_X2_198 : mi_FL RX2 198 2 13 .int false := ⟨_, _, _, _, cf_X2, by decide, rfl, rfl, rfl, Or.inl (mi_gd1 226 rfl rfl)⟩
set_option maxRecDepth 100000 in
theorem fl_X2_201 : mi_FL RX2 201 2 14 .int false := ⟨_, _, _, _, cf_X2, by decide, rfl, rfl, rfl, Or.inl (mi_gd1 227 rfl rfl)⟩
set_option maxRecDepth 100000 in
theorem fl_X2_207 : mi_FL RX2 207 2 15 .boolean false := ⟨_, _, _, _, cf_X2, by decide, rfl, rfl, rfl, Or.inl (mi_gd1 228 rfl rfl)⟩
set_option maxRecDepth 100000 in
theorem fl_X2_222 : mi_FL RX2 222 2 10 .int false := ⟨_, _, _, _, cf_X2, by decide, rfl, rfl, rfl, Or.inl (mi_gd1 223 rfl rfl)⟩
set_option maxRecDepth 100000 in
theorem fl_X2_228 : mi_FL RX2 228 2 11 .int false := ⟨_, _, _, _, cf_X2, by decide, rfl, rfl, rfl, Or.inl (mi_gd1 224 rfl rfl)⟩
set_option maxRecDepth 100000 in
theorem fl_X3_15 : mi_FL RX3 15 3 0 (.array .int) true := ⟨_, _, _, _, cf_X3, by decide, rfl, rfl, rfl, Or.inl (mi_gd1 35 rfl rfl)⟩
set_option maxRecDepth 100000 in
theorem fl_X3_21 : mi_FL RX3 21 3 1 .int false := ⟨_, _, _, _, cf_X3, by decide, rfl, rfl, rfl, Or.inl (mi_gd1 37 rfl rfl)⟩
set_option maxRecDepth 100000 in
theorem fl_X4_9 : mi_FL RX4 9 4 0 (.object "GraphTexts$Row") true := ⟨_, _, _, _, cf_X4, by decide, rfl, rfl, rfl, Or.inl (mi_gd1 76 rfl rfl)⟩
set_option maxRecDepth 100000 in
theorem fl_X4_20 : mi_FL RX4 20 4 1 (.object "GraphTexts$Row") true := ⟨_, _, _, _, cf_X4, by decide, rfl, rfl, rfl, Or.inl (mi_gd1 77 rfl rfl)⟩
set_option maxRecDepth 100000 in
theorem fl_X4_23 : mi_FL RX4 23 4 2 (.object "GraphTexts$Row") true := ⟨_, _, _, _, cf_X4, by decide, rfl, rfl, rfl, Or.inl (mi_gd1 78 rfl rfl)⟩
set_option maxRecDepth 100000 in
theorem fl_X4_26 : mi_FL RX4 26 4 3 .int false := ⟨_, _, _, _, cf_X4, by decide, rfl, rfl, rfl, Or.inl (mi_gd1 79 rfl rfl)⟩
set_option maxRecDepth 100000 in
theorem fl_X4_36 : mi_FL RX4 36 3 1 .int false := ⟨_, _, _, _, cf_X3, by decide, rfl, rfl, rfl, Or.inr ⟨"GraphTexts", (mi_nd1 42 rfl rfl)⟩⟩
set_option maxRecDepth 100000 in
theorem fl_X5_9 : mi_FL RX5 9 5 0 (.object "GraphTexts$Row") true := ⟨_, _, _, _, cf_X5, by decide, rfl, rfl, rfl, Or.inl (mi_gd1 56 rfl rfl)⟩
set_option maxRecDepth 100000 in
theorem fl_X5_20 : mi_FL RX5 20 1 11 (.object "GraphTexts$Row") true := ⟨_, _, _, _, cf_X1, by decide, rfl, rfl, rfl, Or.inr ⟨"GraphTexts", (mi_nd1 128 rfl rfl)⟩⟩
set_option maxRecDepth 100000 in
theorem fl_X5_25 : mi_FL RX5 25 3 1 .int false := ⟨_, _, _, _, cf_X3, by decide, rfl, rfl, rfl, Or.inr ⟨"GraphTexts", (mi_nd1 39 rfl rfl)⟩⟩
set_option maxRecDepth 100000 in
theorem fl_X5_51 : mi_FL RX5 51 1 3 (.object "GraphTexts$Spans") true := ⟨_, _, _, _, cf_X1, by decide, rfl, rfl, rfl, Or.inr ⟨"GraphTexts", (mi_nd1 103 rfl rfl)⟩⟩
set_option maxRecDepth 100000 in
theorem fl_X5_64 : mi_FL RX5 64 1 13 .int false := ⟨_, _, _, _, cf_X1, by decide, rfl, rfl, rfl, Or.inr ⟨"GraphTexts", (mi_nd1 134 rfl rfl)⟩⟩
set_option maxRecDepth 100000 in
theorem fl_X5_70 : mi_FL RX5 70 1 14 .int false := ⟨_, _, _, _, cf_X1, by decide, rfl, rfl, rfl, Or.inr ⟨"GraphTexts", (mi_nd1 137 rfl rfl)⟩⟩
set_option maxRecDepth 100000 in
theorem fl_X5_73 : mi_FL RX5 73 1 2 (.object "GraphTexts$Spans") true := ⟨_, _, _, _, cf_X1, by decide, rfl, rfl, rfl, Or.inr ⟨"GraphTexts", (mi_nd1 99 rfl rfl)⟩⟩
set_option maxRecDepth 100000 in
theorem fl_X5_80 : mi_FL RX5 80 1 4 (.object "GraphTexts$Row") true := ⟨_, _, _, _, cf_X1, by decide, rfl, rfl, rfl, Or.inr ⟨"GraphTexts", (mi_nd1 107 rfl rfl)⟩⟩
set_option maxRecDepth 100000 in
theorem fl_X5_86 : mi_FL RX5 86 1 1 (.object "GraphTexts$Spans") true := ⟨_, _, _, _, cf_X1, by decide, rfl, rfl, rfl, Or.inr ⟨"GraphTexts", (mi_nd1 97 rfl rfl)⟩⟩
set_option maxRecDepth 100000 in
theorem fl_X5_89 : mi_FL RX5 89 1 5 (.object "GraphTexts$Row") true := ⟨_, _, _, _, cf_X1, by decide, rfl, rfl, rfl, Or.inr ⟨"GraphTexts", (mi_nd1 111 rfl rfl)⟩⟩
set_option maxRecDepth 100000 in
theorem fl_X5_92 : mi_FL RX5 92 1 6 (.object "GraphTexts$Row") true := ⟨_, _, _, _, cf_X1, by decide, rfl, rfl, rfl, Or.inr ⟨"GraphTexts", (mi_nd1 114 rfl rfl)⟩⟩
set_option maxRecDepth 100000 in
theorem fl_X5_102 : mi_FL RX5 102 1 9 (.object "GraphTexts$Row") true := ⟨_, _, _, _, cf_X1, by decide, rfl, rfl, rfl, Or.inr ⟨"GraphTexts", (mi_nd1 122 rfl rfl)⟩⟩
set_option maxRecDepth 100000 in
theorem fl_X5_105 : mi_FL RX5 105 1 8 (.object "GraphTexts$Spans") true := ⟨_, _, _, _, cf_X1, by decide, rfl, rfl, rfl, Or.inr ⟨"GraphTexts", (mi_nd1 119 rfl rfl)⟩⟩
set_option maxRecDepth 100000 in
theorem fl_X5_108 : mi_FL RX5 108 1 10 (.object "GraphTexts$Row") true := ⟨_, _, _, _, cf_X1, by decide, rfl, rfl, rfl, Or.inr ⟨"GraphTexts", (mi_nd1 125 rfl rfl)⟩⟩
set_option maxRecDepth 100000 in
theorem fl_X6_14 : mi_FL RX6 14 6 0 (.object "GraphTexts$Row") true := ⟨_, _, _, _, cf_X6, by decide, rfl, rfl, rfl, Or.inl (mi_gd2 22 rfl rfl)⟩
set_option maxRecDepth 100000 in
theorem fl_X6_18 : mi_FL RX6 18 6 1 (.object "GraphTexts$Row") true := ⟨_, _, _, _, cf_X6, by decide, rfl, rfl, rfl, Or.inl (mi_gd2 23 rfl rfl)⟩
set_option maxRecDepth 100000 in
theorem fl_X6_26 : mi_FL RX6 26 6 3 (.object "GraphTexts$Writer") true := ⟨_, _, _, _, cf_X6, by decide, rfl, rfl, rfl, Or.inl (mi_gd2 25 rfl rfl)⟩
set_option maxRecDepth 100000 in
theorem fl_X6_33 : mi_FL RX6 33 6 4 (.object "GraphTexts$Graph") false := ⟨_, _, _, _, cf_X6, by decide, rfl, rfl, rfl, Or.inl (mi_gd2 26 rfl rfl)⟩
set_option maxRecDepth 100000 in
theorem fl_X6_37 : mi_FL RX6 37 6 5 (.object "GraphTexts$Graph") false := ⟨_, _, _, _, cf_X6, by decide, rfl, rfl, rfl, Or.inl (mi_gd2 27 rfl rfl)⟩
set_option maxRecDepth 100000 in
theorem fl_X6_45 : mi_FL RX6 45 6 2 (.object "GraphTexts$Reader") true := ⟨_, _, _, _, cf_X6, by decide, rfl, rfl, rfl, Or.inl (mi_gd2 24 rfl rfl)⟩
set_option maxRecDepth 100000 in
theorem fl_X6_49 : mi_FL RX6 49 6 6 .boolean false := ⟨_, _, _, _, cf_X6, by decide, rfl, rfl, rfl, Or.inl (mi_gd2 28 rfl rfl)⟩
set_option maxRecDepth 100000 in
theorem fl_X6_53 : mi_FL RX6 53 6 7 .int false := ⟨_, _, _, _, cf_X6, by decide, rfl, rfl, rfl, Or.inl (mi_gd2 29 rfl rfl)⟩
set_option maxRecDepth 100000 in
theorem fl_X6_57 : mi_FL RX6 57 3 1 .int false := ⟨_, _, _, _, cf_X3, by decide, rfl, rfl, rfl, Or.inr ⟨"GraphTexts", (mi_nd1 38 rfl rfl)⟩⟩
set_option maxRecDepth 100000 in
theorem fl_X6_72 : mi_FL RX6 72 2 0 (.object "GraphTexts$Cursor") true := ⟨_, _, _, _, cf_X2, by decide, rfl, rfl, rfl, Or.inr ⟨"GraphTexts", (mi_nd1 213 rfl rfl)⟩⟩
set_option maxRecDepth 100000 in
theorem fl_X6_76 : mi_FL RX6 76 0 5 .int false := ⟨_, _, _, _, cf_X0, by decide, rfl, rfl, rfl, Or.inr ⟨"GraphTexts", (mi_nd1 190 rfl rfl)⟩⟩
set_option maxRecDepth 100000 in
theorem fl_X6_85 : mi_FL RX6 85 0 6 .int false := ⟨_, _, _, _, cf_X0, by decide, rfl, rfl, rfl, Or.inr ⟨"GraphTexts", (mi_nd1 192 rfl rfl)⟩⟩
set_option maxRecDepth 100000 in
theorem fl_X6_88 : mi_FL RX6 88 0 7 .int false := ⟨_, _, _, _, cf_X0, by decide, rfl, rfl, rfl, Or.inr ⟨"GraphTexts", (mi_nd1 194 rfl rfl)⟩⟩
set_option maxRecDepth 100000 in
theorem fl_X6_91 : mi_FL RX6 91 1 1 (.object "GraphTexts$Spans") true := ⟨_, _, _, _, cf_X1, by decide, rfl, rfl, rfl, Or.inr ⟨"GraphTexts", (mi_nd1 96 rfl rfl)⟩⟩
set_option maxRecDepth 100000 in
theorem fl_X6_105 : mi_FL RX6 105 1 5 (.object "GraphTexts$Row") true := ⟨_, _, _, _, cf_X1, by decide, rfl, rfl, rfl, Or.inr ⟨"GraphTexts", (mi_nd1 112 rfl rfl)⟩⟩
set_option maxRecDepth 100000 in
theorem fl_X6_116 : mi_FL RX6 116 1 6 (.object "GraphTexts$Row") true := ⟨_, _, _, _, cf_X1, by decide, rfl, rfl, rfl, Or.inr ⟨"GraphTexts", (mi_nd1 115 rfl rfl)⟩⟩
set_option maxRecDepth 100000 in
theorem fl_X6_119 : mi_FL RX6 119 1 7 (.object "GraphTexts$Row") true := ⟨_, _, _, _, cf_X1, by decide, rfl, rfl, rfl, Or.inr ⟨"GraphTexts", (mi_nd1 117 rfl rfl)⟩⟩
set_option maxRecDepth 100000 in
theorem fl_X6_125 : mi_FL RX6 125 1 4 (.object "GraphTexts$Row") true := ⟨_, _, _, _, cf_X1, by decide, rfl, rfl, rfl, Or.inr ⟨"GraphTexts", (mi_nd1 109 rfl rfl)⟩⟩
set_option maxRecDepth 100000 in
theorem fl_X6_128 : mi_FL RX6 128 1 2 (.object "GraphTexts$Spans") true := ⟨_, _, _, _, cf_X1, by decide, rfl, rfl, rfl, Or.inr ⟨"GraphTexts", (mi_nd1 101 rfl rfl)⟩⟩
set_option maxRecDepth 100000 in
theorem fl_X6_139 : mi_FL RX6 139 1 9 (.object "GraphTexts$Row") true := ⟨_, _, _, _, cf_X1, by decide, rfl, rfl, rfl, Or.inr ⟨"GraphTexts", (mi_nd1 123 rfl rfl)⟩⟩
set_option maxRecDepth 100000 in
theorem fl_X6_154 : mi_FL RX6 154 1 10 (.object "GraphTexts$Row") true := ⟨_, _, _, _, cf_X1, by decide, rfl, rfl, rfl, Or.inr ⟨"GraphTexts", (mi_nd1 126 rfl rfl)⟩⟩
set_option maxRecDepth 100000 in
theorem fl_X6_159 : mi_FL RX6 159 1 8 (.object "GraphTexts$Spans") true := ⟨_, _, _, _, cf_X1, by decide, rfl, rfl, rfl, Or.inr ⟨"GraphTexts", (mi_nd1 120 rfl rfl)⟩⟩
set_option maxRecDepth 100000 in
theorem fl_X6_162 : mi_FL RX6 162 1 3 (.object "GraphTexts$Spans") true := ⟨_, _, _, _, cf_X1, by decide, rfl, rfl, rfl, Or.inr ⟨"GraphTexts", (mi_nd1 105 rfl rfl)⟩⟩
set_option maxRecDepth 100000 in
theorem fl_X6_174 : mi_FL RX6 174 4 3 .int false := ⟨_, _, _, _, cf_X4, by decide, rfl, rfl, rfl, Or.inr ⟨"GraphTexts", (mi_nd1 82 rfl rfl)⟩⟩
set_option maxRecDepth 100000 in
theorem fl_X6_177 : mi_FL RX6 177 1 12 .int false := ⟨_, _, _, _, cf_X1, by decide, rfl, rfl, rfl, Or.inr ⟨"GraphTexts", (mi_nd1 131 rfl rfl)⟩⟩
set_option maxRecDepth 100000 in
theorem fl_X7_7 : mi_FL RX7 7 7 1 (.array .int) true := ⟨_, _, _, _, cf_X7, by decide, rfl, rfl, rfl, Or.inl (mi_gd4 105 rfl rfl)⟩
set_option maxRecDepth 100000 in
theorem fl_X7_13 : mi_FL RX7 13 7 4 .int false := ⟨_, _, _, _, cf_X7, by decide, rfl, rfl, rfl, Or.inl (mi_gd4 108 rfl rfl)⟩
set_option maxRecDepth 100000 in
theorem fl_X7_17 : mi_FL RX7 17 7 5 .int false := ⟨_, _, _, _, cf_X7, by decide, rfl, rfl, rfl, Or.inl (mi_gd4 109 rfl rfl)⟩
set_option maxRecDepth 100000 in
theorem fl_X7_20 : mi_FL RX7 20 7 7 (.array .int) true := ⟨_, _, _, _, cf_X7, by decide, rfl, rfl, rfl, Or.inl (mi_gd4 111 rfl rfl)⟩
set_option maxRecDepth 100000 in
theorem fl_X7_23 : mi_FL RX7 23 7 8 (.array .int) true := ⟨_, _, _, _, cf_X7, by decide, rfl, rfl, rfl, Or.inl (mi_gd4 112 rfl rfl)⟩
set_option maxRecDepth 100000 in
theorem fl_X7_26 : mi_FL RX7 26 7 9 (.array .int) true := ⟨_, _, _, _, cf_X7, by decide, rfl, rfl, rfl, Or.inl (mi_gd4 113 rfl rfl)⟩
set_option maxRecDepth 100000 in
theorem fl_X7_29 : mi_FL RX7 29 7 10 (.array .int) true := ⟨_, _, _, _, cf_X7, by decide, rfl, rfl, rfl, Or.inl (mi_gd4 114 rfl rfl)⟩
set_option maxRecDepth 100000 in
theorem fl_X7_32 : mi_FL RX7 32 7 11 (.array .int) true := ⟨_, _, _, _, cf_X7, by decide, rfl, rfl, rfl, Or.inl (mi_gd4 115 rfl rfl)⟩
set_option maxRecDepth 100000 in
theorem fl_X7_35 : mi_FL RX7 35 7 12 (.array .int) true := ⟨_, _, _, _, cf_X7, by decide, rfl, rfl, rfl, Or.inl (mi_gd4 116 rfl rfl)⟩
set_option maxRecDepth 100000 in
theorem fl_X7_38 : mi_FL RX7 38 7 13 (.array .int) true := ⟨_, _, _, _, cf_X7, by decide, rfl, rfl, rfl, Or.inl (mi_gd4 117 rfl rfl)⟩
set_option maxRecDepth 100000 in
theorem fl_X7_41 : mi_FL RX7 41 7 14 (.array .int) true := ⟨_, _, _, _, cf_X7, by decide, rfl, rfl, rfl, Or.inl (mi_gd4 118 rfl rfl)⟩
set_option maxRecDepth 100000 in
theorem fl_X7_44 : mi_FL RX7 44 7 15 (.array .int) true := ⟨_, _, _, _, cf_X7, by decide, rfl, rfl, rfl, Or.inl (mi_gd4 119 rfl rfl)⟩
set_option maxRecDepth 100000 in
theorem fl_X7_47 : mi_FL RX7 47 7 16 (.array .int) true := ⟨_, _, _, _, cf_X7, by decide, rfl, rfl, rfl, Or.inl (mi_gd4 120 rfl rfl)⟩
set_option maxRecDepth 100000 in
theorem fl_X7_50 : mi_FL RX7 50 7 17 (.array .int) true := ⟨_, _, _, _, cf_X7, by decide, rfl, rfl, rfl, Or.inl (mi_gd4 121 rfl rfl)⟩
set_option maxRecDepth 100000 in
theorem fl_X7_53 : mi_FL RX7 53 7 18 (.array .int) true := ⟨_, _, _, _, cf_X7, by decide, rfl, rfl, rfl, Or.inl (mi_gd4 122 rfl rfl)⟩
set_option maxRecDepth 100000 in
theorem fl_X7_56 : mi_FL RX7 56 7 19 (.array .int) true := ⟨_, _, _, _, cf_X7, by decide, rfl, rfl, rfl, Or.inl (mi_gd4 123 rfl rfl)⟩
set_option maxRecDepth 100000 in
theorem fl_X7_59 : mi_FL RX7 59 7 20 (.array .int) true := ⟨_, _, _, _, cf_X7, by decide, rfl, rfl, rfl, Or.inl (mi_gd4 124 rfl rfl)⟩
set_option maxRecDepth 100000 in
theorem fl_X7_62 : mi_FL RX7 62 7 21 (.array .int) true := ⟨_, _, _, _, cf_X7, by decide, rfl, rfl, rfl, Or.inl (mi_gd4 125 rfl rfl)⟩
set_option maxRecDepth 100000 in
theorem fl_X7_65 : mi_FL RX7 65 7 22 (.array .int) true := ⟨_, _, _, _, cf_X7, by decide, rfl, rfl, rfl, Or.inl (mi_gd4 126 rfl rfl)⟩
set_option maxRecDepth 100000 in
theorem fl_X7_68 : mi_FL RX7 68 7 23 (.array .int) true := ⟨_, _, _, _, cf_X7, by decide, rfl, rfl, rfl, Or.inl (mi_gd4 127 rfl rfl)⟩
set_option maxRecDepth 100000 in
theorem fl_X7_71 : mi_FL RX7 71 7 24 (.array .int) true := ⟨_, _, _, _, cf_X7, by decide, rfl, rfl, rfl, Or.inl (mi_gd4 128 rfl rfl)⟩
set_option maxRecDepth 100000 in
theorem fl_X7_74 : mi_FL RX7 74 7 25 (.array .int) true := ⟨_, _, _, _, cf_X7, by decide, rfl, rfl, rfl, Or.inl (mi_gd4 129 rfl rfl)⟩
set_option maxRecDepth 100000 in
theorem fl_X7_77 : mi_FL RX7 77 7 32 (.array .int) true := ⟨_, _, _, _, cf_X7, by decide, rfl, rfl, rfl, Or.inl (mi_gd4 136 rfl rfl)⟩
set_option maxRecDepth 100000 in
theorem fl_X7_80 : mi_FL RX7 80 7 36 (.array .int) true := ⟨_, _, _, _, cf_X7, by decide, rfl, rfl, rfl, Or.inl (mi_gd4 140 rfl rfl)⟩
set_option maxRecDepth 100000 in
theorem fl_X7_83 : mi_FL RX7 83 7 37 (.array .int) true := ⟨_, _, _, _, cf_X7, by decide, rfl, rfl, rfl, Or.inl (mi_gd4 141 rfl rfl)⟩
set_option maxRecDepth 100000 in
theorem fl_X7_86 : mi_FL RX7 86 7 39 (.array .int) true := ⟨_, _, _, _, cf_X7, by decide, rfl, rfl, rfl, Or.inl (mi_gd4 143 rfl rfl)⟩
set_option maxRecDepth 100000 in
theorem fl_X7_89 : mi_FL RX7 89 7 40 (.array .int) true := ⟨_, _, _, _, cf_X7, by decide, rfl, rfl, rfl, Or.inl (mi_gd4 144 rfl rfl)⟩
set_option maxRecDepth 100000 in
theorem fl_X7_92 : mi_FL RX7 92 7 41 (.array .int) true := ⟨_, _, _, _, cf_X7, by decide, rfl, rfl, rfl, Or.inl (mi_gd4 145 rfl rfl)⟩
set_option maxRecDepth 100000 in
theorem fl_X7_95 : mi_FL RX7 95 7 2 .int false := ⟨_, _, _, _, cf_X7, by decide, rfl, rfl, rfl, Or.inl (mi_gd4 106 rfl rfl)⟩
set_option maxRecDepth 100000 in
theorem fl_X7_98 : mi_FL RX7 98 7 0 .int false := ⟨_, _, _, _, cf_X7, by decide, rfl, rfl, rfl, Or.inl (mi_gd4 104 rfl rfl)⟩
set_option maxRecDepth 100000 in
theorem fl_X7_105 : mi_FL RX7 105 7 27 .int false := ⟨_, _, _, _, cf_X7, by decide, rfl, rfl, rfl, Or.inl (mi_gd4 131 rfl rfl)⟩
set_option maxRecDepth 100000 in
theorem fl_X7_108 : mi_FL RX7 108 7 30 .int false := ⟨_, _, _, _, cf_X7, by decide, rfl, rfl, rfl, Or.inl (mi_gd4 134 rfl rfl)⟩
set_option maxRecDepth 100000 in
theorem fl_X7_111 : mi_FL RX7 111 7 31 .int false := ⟨_, _, _, _, cf_X7, by decide, rfl, rfl, rfl, Or.inl (mi_gd4 135 rfl rfl)⟩
set_option maxRecDepth 100000 in
theorem fl_X7_138 : mi_FL RX7 138 7 33 .int false := ⟨_, _, _, _, cf_X7, by decide, rfl, rfl, rfl, Or.inl (mi_gd4 137 rfl rfl)⟩
set_option maxRecDepth 100000 in
theorem fl_X7_141 : mi_FL RX7 141 7 34 .int false := ⟨_, _, _, _, cf_X7, by decide, rfl, rfl, rfl, Or.inl (mi_gd4 138 rfl rfl)⟩
set_option maxRecDepth 100000 in
theorem fl_X7_167 : mi_FL RX7 167 7 35 .boolean false := ⟨_, _, _, _, cf_X7, by decide, rfl, rfl, rfl, Or.inl (mi_gd4 139 rfl rfl)⟩
set_option maxRecDepth 100000 in
theorem fl_X7_174 : mi_FL RX7 174 7 28 .int false := ⟨_, _, _, _, cf_X7, by decide, rfl, rfl, rfl, Or.inl (mi_gd4 132 rfl rfl)⟩
set_option maxRecDepth 100000 in
theorem fl_X7_177 : mi_FL RX7 177 7 38 .boolean false := ⟨_, _, _, _, cf_X7, by decide, rfl, rfl, rfl, Or.inl (mi_gd4 142 rfl rfl)⟩
set_option maxRecDepth 100000 in
theorem fl_X7_196 : mi_FL RX7 196 7 3 .int false := ⟨_, _, _, _, cf_X7, by decide, rfl, rfl, rfl, Or.inl (mi_gd4 107 rfl rfl)⟩
set_option maxRecDepth 100000 in
theorem fl_X7_217 : mi_FL RX7 217 7 6 .boolean false := ⟨_, _, _, _, cf_X7, by decide, rfl, rfl, rfl, Or.inl (mi_gd4 110 rfl rfl)⟩
set_option maxRecDepth 100000 in
theorem fl_X7_223 : mi_FL RX7 223 7 29 .int false := ⟨_, _, _, _, cf_X7, by decide, rfl, rfl, rfl, Or.inl (mi_gd4 133 rfl rfl)⟩
set_option maxRecDepth 100000 in
theorem fl_X7_241 : mi_FL RX7 241 7 26 .int false := ⟨_, _, _, _, cf_X7, by decide, rfl, rfl, rfl, Or.inl (mi_gd4 130 rfl rfl)⟩
set_option maxRecDepth 100000 in
theorem okM_X0_init : mi_OkM m_X0_init := ⟨by decide, (mi_gd1 179 rfl rfl), (mi_gd1 8 rfl rfl), by decide, by decide, by decide⟩
set_option maxRecDepth 100000 in
theorem okM_X0_start : mi_OkM m_X0_start := ⟨by decide, (mi_gd2 67 rfl rfl), (mi_gd1 8 rfl rfl), by decide, by decide, by decide⟩
set_option maxRecDepth 100000 in
theorem okM_X0_hasLine : mi_OkM m_X0_hasLine := ⟨by decide, (mi_gd2 92 rfl rfl), (mi_gd1 8 rfl rfl), by decide, by decide, by decide⟩
set_option maxRecDepth 100000 in
theorem okM_X0_nextLine : mi_OkM m_X0_nextLine := ⟨by decide, (mi_gd2 71 rfl rfl), (mi_gd1 8 rfl rfl), by decide, by decide, by decide⟩
set_option maxRecDepth 100000 in
theorem okM_X0_step : mi_OkM m_X0_step := ⟨by decide, (mi_gd2 75 rfl rfl), (mi_gd1 8 rfl rfl), by decide, by decide, by decide⟩
set_option maxRecDepth 100000 in
theorem okM_X0_skipBlanks : mi_OkM m_X0_skipBlanks := ⟨by decide, (mi_gd2 100 rfl rfl), (mi_gd1 8 rfl rfl), by decide, by decide, by decide⟩
set_option maxRecDepth 100000 in
theorem okM_X0_isWordEnd : mi_OkM m_X0_isWordEnd := ⟨by decide, (mi_gd2 201 rfl rfl), (mi_gd1 8 rfl rfl), by decide, by decide, by decide⟩
set_option maxRecDepth 100000 in
theorem okM_X0_placeOf : mi_OkM m_X0_placeOf := ⟨by decide, (mi_gd2 130 rfl rfl), (mi_gd1 8 rfl rfl), by decide, by decide, by decide⟩
set_option maxRecDepth 100000 in
theorem okM_X0_wrong : mi_OkM m_X0_wrong := ⟨by decide, (mi_gd2 112 rfl rfl), (mi_gd1 8 rfl rfl), by decide, by decide, by decide⟩
set_option maxRecDepth 100000 in
theorem okM_X0_wrongElsewhere : mi_OkM m_X0_wrongElsewhere := ⟨by decide, (mi_gd3 40 rfl rfl), (mi_gd1 8 rfl rfl), by decide, by decide, by decide⟩
set_option maxRecDepth 100000 in
theorem okM_X1_init : mi_OkM m_X1_init := ⟨by decide, (mi_gd1 64 rfl rfl), (mi_gd1 5 rfl rfl), by decide, by decide, by decide⟩
set_option maxRecDepth 100000 in
theorem okM_X1_clear : mi_OkM m_X1_clear := ⟨by decide, (mi_gd2 79 rfl rfl), (mi_gd1 5 rfl rfl), by decide, by decide, by decide⟩
set_option maxRecDepth 100000 in
theorem okM_X1_arcCount : mi_OkM m_X1_arcCount := ⟨by decide, (mi_gd3 15 rfl rfl), (mi_gd1 5 rfl rfl), by decide, by decide, by decide⟩
set_option maxRecDepth 100000 in
theorem okM_X1_hasValue : mi_OkM m_X1_hasValue := ⟨by decide, (mi_gd4 62 rfl rfl), (mi_gd1 5 rfl rfl), by decide, by decide, by decide⟩
set_option maxRecDepth 100000 in
theorem okM_X1_roomOf : mi_OkM m_X1_roomOf := ⟨by decide, (mi_gd2 239 rfl rfl), (mi_gd1 5 rfl rfl), by decide, by decide, by decide⟩
set_option maxRecDepth 100000 in
theorem okM_X1_missingOf : mi_OkM m_X1_missingOf := ⟨by decide, (mi_gd3 68 rfl rfl), (mi_gd1 5 rfl rfl), by decide, by decide, by decide⟩
set_option maxRecDepth 100000 in
theorem okM_X1_hasArc : mi_OkM m_X1_hasArc := ⟨by decide, (mi_gd2 187 rfl rfl), (mi_gd1 5 rfl rfl), by decide, by decide, by decide⟩
set_option maxRecDepth 100000 in
theorem okM_X1_addArc : mi_OkM m_X1_addArc := ⟨by decide, (mi_gd3 19 rfl rfl), (mi_gd1 5 rfl rfl), by decide, by decide, by decide⟩
set_option maxRecDepth 100000 in
theorem okM_X1_addValue : mi_OkM m_X1_addValue := ⟨by decide, (mi_gd2 225 rfl rfl), (mi_gd1 5 rfl rfl), by decide, by decide, by decide⟩
set_option maxRecDepth 100000 in
theorem okM_X1_leaveArcOut : mi_OkM m_X1_leaveArcOut := ⟨by decide, (mi_gd2 235 rfl rfl), (mi_gd1 5 rfl rfl), by decide, by decide, by decide⟩
set_option maxRecDepth 100000 in
theorem okM_X1_settleKinds : mi_OkM m_X1_settleKinds := ⟨by decide, (mi_gd3 24 rfl rfl), (mi_gd1 5 rfl rfl), by decide, by decide, by decide⟩
set_option maxRecDepth 100000 in
theorem okM_X1_guessKind : mi_OkM m_X1_guessKind := ⟨by decide, (mi_gd3 28 rfl rfl), (mi_gd1 5 rfl rfl), by decide, by decide, by decide⟩
set_option maxRecDepth 100000 in
theorem okM_X2_init : mi_OkM m_X2_init := ⟨by decide, (mi_gd1 173 rfl rfl), (mi_gd1 7 rfl rfl), by decide, by decide, by decide⟩
set_option maxRecDepth 100000 in
theorem okM_X2_readText : mi_OkM m_X2_readText := ⟨by decide, (mi_gd2 63 rfl rfl), (mi_gd1 7 rfl rfl), by decide, by decide, by decide⟩
set_option maxRecDepth 100000 in
theorem okM_X2_countIsTrue : mi_OkM m_X2_countIsTrue := ⟨by decide, (mi_gd3 36 rfl rfl), (mi_gd1 7 rfl rfl), by decide, by decide, by decide⟩
set_option maxRecDepth 100000 in
theorem okM_X2_readLine : mi_OkM m_X2_readLine := ⟨by decide, (mi_gd2 96 rfl rfl), (mi_gd1 7 rfl rfl), by decide, by decide, by decide⟩
set_option maxRecDepth 100000 in
theorem okM_X2_readComment : mi_OkM m_X2_readComment := ⟨by decide, (mi_gd2 104 rfl rfl), (mi_gd1 7 rfl rfl), by decide, by decide, by decide⟩
set_option maxRecDepth 100000 in
theorem okM_X2_readCount : mi_OkM m_X2_readCount := ⟨by decide, (mi_gd2 122 rfl rfl), (mi_gd1 7 rfl rfl), by decide, by decide, by decide⟩
set_option maxRecDepth 100000 in
theorem okM_X2_readNumber : mi_OkM m_X2_readNumber := ⟨by decide, (mi_gd2 134 rfl rfl), (mi_gd1 7 rfl rfl), by decide, by decide, by decide⟩
set_option maxRecDepth 100000 in
theorem okM_X2_readHead : mi_OkM m_X2_readHead := ⟨by decide, (mi_gd2 145 rfl rfl), (mi_gd1 7 rfl rfl), by decide, by decide, by decide⟩
set_option maxRecDepth 100000 in
theorem okM_X2_kindOfLetter : mi_OkM m_X2_kindOfLetter := ⟨by decide, (mi_gd2 175 rfl rfl), (mi_gd1 7 rfl rfl), by decide, by decide, by decide⟩
set_option maxRecDepth 100000 in
theorem okM_X2_readEnds : mi_OkM m_X2_readEnds := ⟨by decide, (mi_gd2 179 rfl rfl), (mi_gd1 7 rfl rfl), by decide, by decide, by decide⟩
set_option maxRecDepth 100000 in
theorem okM_X2_endArc : mi_OkM m_X2_endArc := ⟨by decide, (mi_gd2 231 rfl rfl), (mi_gd1 7 rfl rfl), by decide, by decide, by decide⟩
set_option maxRecDepth 100000 in
theorem okM_X2_takeNode : mi_OkM m_X2_takeNode := ⟨by decide, (mi_gd2 183 rfl rfl), (mi_gd1 7 rfl rfl), by decide, by decide, by decide⟩
set_option maxRecDepth 100000 in
theorem okM_X2_readValues : mi_OkM m_X2_readValues := ⟨by decide, (mi_gd2 192 rfl rfl), (mi_gd1 7 rfl rfl), by decide, by decide, by decide⟩
set_option maxRecDepth 100000 in
theorem okM_X2_readValue : mi_OkM m_X2_readValue := ⟨by decide, (mi_gd2 197 rfl rfl), (mi_gd1 7 rfl rfl), by decide, by decide, by decide⟩
set_option maxRecDepth 100000 in
theorem okM_X2_readFigures : mi_OkM m_X2_readFigures := ⟨by decide, (mi_gd2 217 rfl rfl), (mi_gd1 7 rfl rfl), by decide, by decide, by decide⟩
set_option maxRecDepth 100000 in
theorem okM_X2_readFraction : mi_OkM m_X2_readFraction := ⟨by decide, (mi_gd2 213 rfl rfl), (mi_gd1 7 rfl rfl), by decide, by decide, by decide⟩
set_option maxRecDepth 100000 in
theorem okM_X2_readGuessed : mi_OkM m_X2_readGuessed := ⟨by decide, (mi_gd2 205 rfl rfl), (mi_gd1 7 rfl rfl), by decide, by decide, by decide⟩
set_option maxRecDepth 100000 in
theorem okM_X2_figuresOnly : mi_OkM m_X2_figuresOnly := ⟨by decide, (mi_gd2 209 rfl rfl), (mi_gd1 7 rfl rfl), by decide, by decide, by decide⟩
set_option maxRecDepth 100000 in
theorem okM_X2_thousandthsRead : mi_OkM m_X2_thousandthsRead := ⟨by decide, (mi_gd2 221 rfl rfl), (mi_gd1 7 rfl rfl), by decide, by decide, by decide⟩
set_option maxRecDepth 100000 in
theorem okM_X2_readName : mi_OkM m_X2_readName := ⟨by decide, (mi_gd2 149 rfl rfl), (mi_gd1 7 rfl rfl), by decide, by decide, by decide⟩
set_option maxRecDepth 100000 in
theorem okM_X2_readPlain : mi_OkM m_X2_readPlain := ⟨by decide, (mi_gd2 157 rfl rfl), (mi_gd1 7 rfl rfl), by decide, by decide, by decide⟩
set_option maxRecDepth 100000 in
theorem okM_X2_readQuoted : mi_OkM m_X2_readQuoted := ⟨by decide, (mi_gd2 153 rfl rfl), (mi_gd1 7 rfl rfl), by decide, by decide, by decide⟩
set_option maxRecDepth 100000 in
theorem okM_X2_readGap : mi_OkM m_X2_readGap := ⟨by decide, (mi_gd2 126 rfl rfl), (mi_gd1 7 rfl rfl), by decide, by decide, by decide⟩
set_option maxRecDepth 100000 in
theorem okM_X2_readLineEnd : mi_OkM m_X2_readLineEnd := ⟨by decide, (mi_gd2 141 rfl rfl), (mi_gd1 7 rfl rfl), by decide, by decide, by decide⟩
set_option maxRecDepth 100000 in
theorem okM_X3_init : mi_OkM m_X3_init := ⟨by decide, (mi_gd1 30 rfl rfl), (mi_gd1 2 rfl rfl), by decide, by decide, by decide⟩
set_option maxRecDepth 100000 in
theorem okM_X3_clear : mi_OkM m_X3_clear := ⟨by decide, (mi_gd2 83 rfl rfl), (mi_gd1 2 rfl rfl), by decide, by decide, by decide⟩
set_option maxRecDepth 100000 in
theorem okM_X3_cut : mi_OkM m_X3_cut := ⟨by decide, (mi_gd3 3 rfl rfl), (mi_gd1 2 rfl rfl), by decide, by decide, by decide⟩
set_option maxRecDepth 100000 in
theorem okM_X3_add : mi_OkM m_X3_add := ⟨by decide, (mi_gd2 55 rfl rfl), (mi_gd1 2 rfl rfl), by decide, by decide, by decide⟩
set_option maxRecDepth 100000 in
theorem okM_X3_put : mi_OkM m_X3_put := ⟨by decide, (mi_gd3 32 rfl rfl), (mi_gd1 2 rfl rfl), by decide, by decide, by decide⟩
set_option maxRecDepth 100000 in
theorem okM_X3_has : mi_OkM m_X3_has := ⟨by decide, (mi_gd3 63 rfl rfl), (mi_gd1 2 rfl rfl), by decide, by decide, by decide⟩
set_option maxRecDepth 100000 in
theorem okM_X3_at : mi_OkM m_X3_at := ⟨by decide, (mi_gd2 172 rfl rfl), (mi_gd1 2 rfl rfl), by decide, by decide, by decide⟩
set_option maxRecDepth 100000 in
theorem okM_X4_init : mi_OkM m_X4_init := ⟨by decide, (mi_gd1 72 rfl rfl), (mi_gd1 6 rfl rfl), by decide, by decide, by decide⟩
set_option maxRecDepth 100000 in
theorem okM_X4_clear : mi_OkM m_X4_clear := ⟨by decide, (mi_gd2 87 rfl rfl), (mi_gd1 6 rfl rfl), by decide, by decide, by decide⟩
set_option maxRecDepth 100000 in
theorem okM_X4_cut : mi_OkM m_X4_cut := ⟨by decide, (mi_gd3 10 rfl rfl), (mi_gd1 6 rfl rfl), by decide, by decide, by decide⟩
set_option maxRecDepth 100000 in
theorem okM_X4_add : mi_OkM m_X4_add := ⟨by decide, (mi_gd2 117 rfl rfl), (mi_gd1 6 rfl rfl), by decide, by decide, by decide⟩
set_option maxRecDepth 100000 in
theorem okM_X4_has : mi_OkM m_X4_has := ⟨by decide, (mi_gd3 239 rfl rfl), (mi_gd1 6 rfl rfl), by decide, by decide, by decide⟩
set_option maxRecDepth 100000 in
theorem okM_X4_lengthOf : mi_OkM m_X4_lengthOf := ⟨by decide, (mi_gd3 91 rfl rfl), (mi_gd1 6 rfl rfl), by decide, by decide, by decide⟩
set_option maxRecDepth 100000 in
theorem okM_X4_signAt : mi_OkM m_X4_signAt := ⟨by decide, (mi_gd3 95 rfl rfl), (mi_gd1 6 rfl rfl), by decide, by decide, by decide⟩
set_option maxRecDepth 100000 in
theorem okM_X4_indexOf : mi_OkM m_X4_indexOf := ⟨by decide, (mi_gd2 164 rfl rfl), (mi_gd1 6 rfl rfl), by decide, by decide, by decide⟩
set_option maxRecDepth 100000 in
theorem okM_X4_isSame : mi_OkM m_X4_isSame := ⟨by decide, (mi_gd2 168 rfl rfl), (mi_gd1 6 rfl rfl), by decide, by decide, by decide⟩
set_option maxRecDepth 100000 in
theorem okM_X4_isPlainName : mi_OkM m_X4_isPlainName := ⟨by decide, (mi_gd3 116 rfl rfl), (mi_gd1 6 rfl rfl), by decide, by decide, by decide⟩
set_option maxRecDepth 100000 in
theorem okM_X5_init : mi_OkM m_X5_init := ⟨by decide, (mi_gd1 54 rfl rfl), (mi_gd1 4 rfl rfl), by decide, by decide, by decide⟩
set_option maxRecDepth 100000 in
theorem okM_X5_writeGraph : mi_OkM m_X5_writeGraph := ⟨by decide, (mi_gd3 80 rfl rfl), (mi_gd1 4 rfl rfl), by decide, by decide, by decide⟩
set_option maxRecDepth 100000 in
theorem okM_X5_writeComment : mi_OkM m_X5_writeComment := ⟨by decide, (mi_gd3 86 rfl rfl), (mi_gd1 4 rfl rfl), by decide, by decide, by decide⟩
set_option maxRecDepth 100000 in
theorem okM_X5_writeCount : mi_OkM m_X5_writeCount := ⟨by decide, (mi_gd3 99 rfl rfl), (mi_gd1 4 rfl rfl), by decide, by decide, by decide⟩
set_option maxRecDepth 100000 in
theorem okM_X5_writeHead : mi_OkM m_X5_writeHead := ⟨by decide, (mi_gd3 108 rfl rfl), (mi_gd1 4 rfl rfl), by decide, by decide, by decide⟩
set_option maxRecDepth 100000 in
theorem okM_X5_letterOfKind : mi_OkM m_X5_letterOfKind := ⟨by decide, (mi_gd3 122 rfl rfl), (mi_gd1 4 rfl rfl), by decide, by decide, by decide⟩
set_option maxRecDepth 100000 in
theorem okM_X5_writeArc : mi_OkM m_X5_writeArc := ⟨by decide, (mi_gd3 126 rfl rfl), (mi_gd1 4 rfl rfl), by decide, by decide, by decide⟩
set_option maxRecDepth 100000 in
theorem okM_X5_writeValue : mi_OkM m_X5_writeValue := ⟨by decide, (mi_gd3 131 rfl rfl), (mi_gd1 4 rfl rfl), by decide, by decide, by decide⟩
set_option maxRecDepth 100000 in
theorem okM_X5_writeName : mi_OkM m_X5_writeName := ⟨by decide, (mi_gd3 112 rfl rfl), (mi_gd1 4 rfl rfl), by decide, by decide, by decide⟩
set_option maxRecDepth 100000 in
theorem okM_X5_writeThousandths : mi_OkM m_X5_writeThousandths := ⟨by decide, (mi_gd3 135 rfl rfl), (mi_gd1 4 rfl rfl), by decide, by decide, by decide⟩
set_option maxRecDepth 100000 in
theorem okM_X5_writeWhole : mi_OkM m_X5_writeWhole := ⟨by decide, (mi_gd3 103 rfl rfl), (mi_gd1 4 rfl rfl), by decide, by decide, by decide⟩
set_option maxRecDepth 100000 in
theorem okM_X6_init : mi_OkM m_X6_init := ⟨by decide, (mi_gd1 22 rfl rfl), (mi_gd1 1 rfl rfl), by decide, by decide, by decide⟩
set_option maxRecDepth 100000 in
theorem okM_X6_feed : mi_OkM m_X6_feed := ⟨by decide, (mi_gd2 50 rfl rfl), (mi_gd1 1 rfl rfl), by decide, by decide, by decide⟩
set_option maxRecDepth 100000 in
theorem okM_X6_read : mi_OkM m_X6_read := ⟨by decide, (mi_gd2 59 rfl rfl), (mi_gd1 1 rfl rfl), by decide, by decide, by decide⟩
set_option maxRecDepth 100000 in
theorem okM_X6_fault : mi_OkM m_X6_fault := ⟨by decide, (mi_gd3 46 rfl rfl), (mi_gd1 1 rfl rfl), by decide, by decide, by decide⟩
set_option maxRecDepth 100000 in
theorem okM_X6_manner : mi_OkM m_X6_manner := ⟨by decide, (mi_gd3 50 rfl rfl), (mi_gd1 1 rfl rfl), by decide, by decide, by decide⟩
set_option maxRecDepth 100000 in
theorem okM_X6_find : mi_OkM m_X6_find := ⟨by decide, (mi_gd3 54 rfl rfl), (mi_gd1 1 rfl rfl), by decide, by decide, by decide⟩
set_option maxRecDepth 100000 in
theorem okM_X6_node : mi_OkM m_X6_node := ⟨by decide, (mi_gd3 232 rfl rfl), (mi_gd1 1 rfl rfl), by decide, by decide, by decide⟩
set_option maxRecDepth 100000 in
theorem okM_X6_arc : mi_OkM m_X6_arc := ⟨by decide, (mi_gd3 59 rfl rfl), (mi_gd1 1 rfl rfl), by decide, by decide, by decide⟩
set_option maxRecDepth 100000 in
theorem okM_X6_kind : mi_OkM m_X6_kind := ⟨by decide, (mi_gd3 72 rfl rfl), (mi_gd1 1 rfl rfl), by decide, by decide, by decide⟩
set_option maxRecDepth 100000 in
theorem okM_X6_head : mi_OkM m_X6_head := ⟨by decide, (mi_gd4 11 rfl rfl), (mi_gd1 1 rfl rfl), by decide, by decide, by decide⟩
set_option maxRecDepth 100000 in
theorem okM_X6_value : mi_OkM m_X6_value := ⟨by decide, (mi_gd4 58 rfl rfl), (mi_gd1 1 rfl rfl), by decide, by decide, by decide⟩
set_option maxRecDepth 100000 in
theorem okM_X6_sign : mi_OkM m_X6_sign := ⟨by decide, (mi_gd4 81 rfl rfl), (mi_gd1 1 rfl rfl), by decide, by decide, by decide⟩
set_option maxRecDepth 100000 in
theorem okM_X6_comment : mi_OkM m_X6_comment := ⟨by decide, (mi_gd4 89 rfl rfl), (mi_gd1 1 rfl rfl), by decide, by decide, by decide⟩
set_option maxRecDepth 100000 in
theorem okM_X6_print : mi_OkM m_X6_print := ⟨by decide, (mi_gd3 76 rfl rfl), (mi_gd1 1 rfl rfl), by decide, by decide, by decide⟩
set_option maxRecDepth 100000 in
theorem okM_X6_out : mi_OkM m_X6_out := ⟨by decide, (mi_gd4 96 rfl rfl), (mi_gd1 1 rfl rfl), by decide, by decide, by decide⟩
set_option maxRecDepth 100000 in
theorem okM_X6_about : mi_OkM m_X6_about := ⟨by decide, (mi_gd3 139 rfl rfl), (mi_gd1 1 rfl rfl), by decide, by decide, by decide⟩
set_option maxRecDepth 100000 in
theorem okM_X6_signOfSpan : mi_OkM m_X6_signOfSpan := ⟨by decide, (mi_gd3 235 rfl rfl), (mi_gd1 1 rfl rfl), by decide, by decide, by decide⟩
set_option maxRecDepth 100000 in
theorem okM_X6_isFigure : mi_OkM m_X6_isFigure := ⟨by decide, (mi_gd2 137 rfl rfl), (mi_gd1 1 rfl rfl), by decide, by decide, by decide⟩
set_option maxRecDepth 100000 in
theorem okM_X6_isPlain : mi_OkM m_X6_isPlain := ⟨by decide, (mi_gd2 160 rfl rfl), (mi_gd1 1 rfl rfl), by decide, by decide, by decide⟩
set_option maxRecDepth 100000 in
theorem okM_X6_isPrintable : mi_OkM m_X6_isPrintable := ⟨by decide, (mi_gd2 108 rfl rfl), (mi_gd1 1 rfl rfl), by decide, by decide, by decide⟩
set_option maxRecDepth 100000 in
theorem okM_X7_init : mi_OkM m_X7_init := ⟨by decide, (mi_gd4 102 rfl rfl), (mi_gd1 9 rfl rfl), by decide, by decide, by decide⟩
set_option maxRecDepth 100000 in
theorem okM_X7_thrown : mi_OkM m_X7_thrown := ⟨by decide, (mi_gd4 234 rfl rfl), (mi_gd1 9 rfl rfl), by decide, by decide, by decide⟩
set_option maxRecDepth 100000 in
theorem okM_X7_in : mi_OkM m_X7_in := ⟨by decide, (mi_gd5 1 rfl rfl), (mi_gd1 9 rfl rfl), by decide, by decide, by decide⟩
set_option maxRecDepth 100000 in
theorem okM_X7_feed : mi_OkM m_X7_feed := ⟨by decide, (mi_gd4 238 rfl rfl), (mi_gd1 9 rfl rfl), by decide, by decide, by decide⟩
set_option maxRecDepth 100000 in
theorem okM_X7_here : mi_OkM m_X7_here := ⟨by decide, (mi_gd5 17 rfl rfl), (mi_gd1 9 rfl rfl), by decide, by decide, by decide⟩
set_option maxRecDepth 100000 in
theorem okM_X7_wrong : mi_OkM m_X7_wrong := ⟨by decide, (mi_gd5 25 rfl rfl), (mi_gd1 9 rfl rfl), by decide, by decide, by decide⟩
set_option maxRecDepth 100000 in
theorem okM_X7_isFigure : mi_OkM m_X7_isFigure := ⟨by decide, (mi_gd5 40 rfl rfl), (mi_gd1 9 rfl rfl), by decide, by decide, by decide⟩
set_option maxRecDepth 100000 in
theorem okM_X7_isPlain : mi_OkM m_X7_isPlain := ⟨by decide, (mi_gd5 59 rfl rfl), (mi_gd1 9 rfl rfl), by decide, by decide, by decide⟩
set_option maxRecDepth 100000 in
theorem okM_X7_blanks : mi_OkM m_X7_blanks := ⟨by decide, (mi_gd5 13 rfl rfl), (mi_gd1 9 rfl rfl), by decide, by decide, by decide⟩
set_option maxRecDepth 100000 in
theorem okM_X7_ended : mi_OkM m_X7_ended := ⟨by decide, (mi_gd5 37 rfl rfl), (mi_gd1 9 rfl rfl), by decide, by decide, by decide⟩
set_option maxRecDepth 100000 in
theorem okM_X7_sign : mi_OkM m_X7_sign := ⟨by decide, (mi_gd5 56 rfl rfl), (mi_gd1 9 rfl rfl), by decide, by decide, by decide⟩
set_option maxRecDepth 100000 in
theorem okM_X7_readName : mi_OkM m_X7_readName := ⟨by decide, (mi_gd5 48 rfl rfl), (mi_gd1 9 rfl rfl), by decide, by decide, by decide⟩
set_option maxRecDepth 100000 in
theorem okM_X7_readQuoted : mi_OkM m_X7_readQuoted := ⟨by decide, (mi_gd5 52 rfl rfl), (mi_gd1 9 rfl rfl), by decide, by decide, by decide⟩
set_option maxRecDepth 100000 in
theorem okM_X7_readNumber : mi_OkM m_X7_readNumber := ⟨by decide, (mi_gd5 87 rfl rfl), (mi_gd1 9 rfl rfl), by decide, by decide, by decide⟩
set_option maxRecDepth 100000 in
theorem okM_X7_readDecimals : mi_OkM m_X7_readDecimals := ⟨by decide, (mi_gd5 91 rfl rfl), (mi_gd1 9 rfl rfl), by decide, by decide, by decide⟩
set_option maxRecDepth 100000 in
theorem okM_X7_plainSort : mi_OkM m_X7_plainSort := ⟨by decide, (mi_gd5 99 rfl rfl), (mi_gd1 9 rfl rfl), by decide, by decide, by decide⟩
set_option maxRecDepth 100000 in
theorem okM_X7_readPlainDecimal : mi_OkM m_X7_readPlainDecimal := ⟨by decide, (mi_gd5 103 rfl rfl), (mi_gd1 9 rfl rfl), by decide, by decide, by decide⟩
set_option maxRecDepth 100000 in
theorem okM_X7_readValue : mi_OkM m_X7_readValue := ⟨by decide, (mi_gd5 83 rfl rfl), (mi_gd1 9 rfl rfl), by decide, by decide, by decide⟩
set_option maxRecDepth 100000 in
theorem okM_X7_readAny : mi_OkM m_X7_readAny := ⟨by decide, (mi_gd5 95 rfl rfl), (mi_gd1 9 rfl rfl), by decide, by decide, by decide⟩
set_option maxRecDepth 100000 in
theorem okM_X7_isSame : mi_OkM m_X7_isSame := ⟨by decide, (mi_gd5 63 rfl rfl), (mi_gd1 9 rfl rfl), by decide, by decide, by decide⟩
set_option maxRecDepth 100000 in
theorem okM_X7_layName : mi_OkM m_X7_layName := ⟨by decide, (mi_gd5 67 rfl rfl), (mi_gd1 9 rfl rfl), by decide, by decide, by decide⟩
set_option maxRecDepth 100000 in
theorem okM_X7_laySort : mi_OkM m_X7_laySort := ⟨by decide, (mi_gd5 29 rfl rfl), (mi_gd1 9 rfl rfl), by decide, by decide, by decide⟩
set_option maxRecDepth 100000 in
theorem okM_X7_readComment : mi_OkM m_X7_readComment := ⟨by decide, (mi_gd5 21 rfl rfl), (mi_gd1 9 rfl rfl), by decide, by decide, by decide⟩
set_option maxRecDepth 100000 in
theorem okM_X7_readCount : mi_OkM m_X7_readCount := ⟨by decide, (mi_gd5 33 rfl rfl), (mi_gd1 9 rfl rfl), by decide, by decide, by decide⟩
set_option maxRecDepth 100000 in
theorem okM_X7_readHead : mi_OkM m_X7_readHead := ⟨by decide, (mi_gd5 44 rfl rfl), (mi_gd1 9 rfl rfl), by decide, by decide, by decide⟩
set_option maxRecDepth 100000 in
theorem okM_X7_nodeOf : mi_OkM m_X7_nodeOf := ⟨by decide, (mi_gd5 75 rfl rfl), (mi_gd1 9 rfl rfl), by decide, by decide, by decide⟩
set_option maxRecDepth 100000 in
theorem okM_X7_isDoubled : mi_OkM m_X7_isDoubled := ⟨by decide, (mi_gd5 79 rfl rfl), (mi_gd1 9 rfl rfl), by decide, by decide, by decide⟩
set_option maxRecDepth 100000 in
theorem okM_X7_readArc : mi_OkM m_X7_readArc := ⟨by decide, (mi_gd5 71 rfl rfl), (mi_gd1 9 rfl rfl), by decide, by decide, by decide⟩
set_option maxRecDepth 100000 in
theorem okM_X7_layArc : mi_OkM m_X7_layArc := ⟨by decide, (mi_gd5 107 rfl rfl), (mi_gd1 9 rfl rfl), by decide, by decide, by decide⟩
set_option maxRecDepth 100000 in
theorem okM_X7_readLine : mi_OkM m_X7_readLine := ⟨by decide, (mi_gd5 9 rfl rfl), (mi_gd1 9 rfl rfl), by decide, by decide, by decide⟩
set_option maxRecDepth 100000 in
theorem okM_X7_guessKinds : mi_OkM m_X7_guessKinds := ⟨by decide, (mi_gd5 115 rfl rfl), (mi_gd1 9 rfl rfl), by decide, by decide, by decide⟩
set_option maxRecDepth 100000 in
theorem okM_X7_takeOver : mi_OkM m_X7_takeOver := ⟨by decide, (mi_gd5 119 rfl rfl), (mi_gd1 9 rfl rfl), by decide, by decide, by decide⟩
set_option maxRecDepth 100000 in
theorem okM_X7_takeRow : mi_OkM m_X7_takeRow := ⟨by decide, (mi_gd5 122 rfl rfl), (mi_gd1 9 rfl rfl), by decide, by decide, by decide⟩
set_option maxRecDepth 100000 in
theorem okM_X7_read : mi_OkM m_X7_read := ⟨by decide, (mi_gd5 5 rfl rfl), (mi_gd1 9 rfl rfl), by decide, by decide, by decide⟩
set_option maxRecDepth 100000 in
theorem okM_X7_lie : mi_OkM m_X7_lie := ⟨by decide, (mi_gd5 111 rfl rfl), (mi_gd1 9 rfl rfl), by decide, by decide, by decide⟩
set_option maxRecDepth 100000 in
theorem okM_X7_fault : mi_OkM m_X7_fault := ⟨by decide, (mi_gd5 126 rfl rfl), (mi_gd1 9 rfl rfl), by decide, by decide, by decide⟩
set_option maxRecDepth 100000 in
theorem okM_X7_manner : mi_OkM m_X7_manner := ⟨by decide, (mi_gd5 130 rfl rfl), (mi_gd1 9 rfl rfl), by decide, by decide, by decide⟩
set_option maxRecDepth 100000 in
theorem okM_X7_find : mi_OkM m_X7_find := ⟨by decide, (mi_gd5 134 rfl rfl), (mi_gd1 9 rfl rfl), by decide, by decide, by decide⟩
set_option maxRecDepth 100000 in
theorem okM_X7_node : mi_OkM m_X7_node := ⟨by decide, (mi_gd5 138 rfl rfl), (mi_gd1 9 rfl rfl), by decide, by decide, by decide⟩
set_option maxRecDepth 100000 in
theorem okM_X7_arc : mi_OkM m_X7_arc := ⟨by decide, (mi_gd5 142 rfl rfl), (mi_gd1 9 rfl rfl), by decide, by decide, by decide⟩
set_option maxRecDepth 100000 in
theorem okM_X7_isColumn : mi_OkM m_X7_isColumn := ⟨by decide, (mi_gd5 150 rfl rfl), (mi_gd1 9 rfl rfl), by decide, by decide, by decide⟩
set_option maxRecDepth 100000 in
theorem okM_X7_kind : mi_OkM m_X7_kind := ⟨by decide, (mi_gd5 146 rfl rfl), (mi_gd1 9 rfl rfl), by decide, by decide, by decide⟩
set_option maxRecDepth 100000 in
theorem okM_X7_head : mi_OkM m_X7_head := ⟨by decide, (mi_gd5 154 rfl rfl), (mi_gd1 9 rfl rfl), by decide, by decide, by decide⟩
set_option maxRecDepth 100000 in
theorem okM_X7_value : mi_OkM m_X7_value := ⟨by decide, (mi_gd5 158 rfl rfl), (mi_gd1 9 rfl rfl), by decide, by decide, by decide⟩
set_option maxRecDepth 100000 in
theorem okM_X7_sign_ : mi_OkM m_X7_sign_ := ⟨by decide, (mi_gd5 162 rfl rfl), (mi_gd1 9 rfl rfl), by decide, by decide, by decide⟩
set_option maxRecDepth 100000 in
theorem okM_X7_comment : mi_OkM m_X7_comment := ⟨by decide, (mi_gd5 166 rfl rfl), (mi_gd1 9 rfl rfl), by decide, by decide, by decide⟩
set_option maxRecDepth 100000 in
theorem okM_X7_put : mi_OkM m_X7_put := ⟨by decide, (mi_gd5 174 rfl rfl), (mi_gd1 9 rfl rfl), by decide, by decide, by decide⟩
set_option maxRecDepth 100000 in
theorem okM_X7_putName : mi_OkM m_X7_putName := ⟨by decide, (mi_gd5 182 rfl rfl), (mi_gd1 9 rfl rfl), by decide, by decide, by decide⟩
set_option maxRecDepth 100000 in
theorem okM_X7_putWhole : mi_OkM m_X7_putWhole := ⟨by decide, (mi_gd5 178 rfl rfl), (mi_gd1 9 rfl rfl), by decide, by decide, by decide⟩
set_option maxRecDepth 100000 in
theorem okM_X7_putNumber : mi_OkM m_X7_putNumber := ⟨by decide, (mi_gd5 190 rfl rfl), (mi_gd1 9 rfl rfl), by decide, by decide, by decide⟩
set_option maxRecDepth 100000 in
theorem okM_X7_putArc : mi_OkM m_X7_putArc := ⟨by decide, (mi_gd5 186 rfl rfl), (mi_gd1 9 rfl rfl), by decide, by decide, by decide⟩
set_option maxRecDepth 100000 in
theorem okM_X7_print : mi_OkM m_X7_print := ⟨by decide, (mi_gd5 170 rfl rfl), (mi_gd1 9 rfl rfl), by decide, by decide, by decide⟩
set_option maxRecDepth 100000 in
theorem okM_X7_out : mi_OkM m_X7_out := ⟨by decide, (mi_gd5 194 rfl rfl), (mi_gd1 9 rfl rfl), by decide, by decide, by decide⟩
set_option maxRecDepth 100000 in
theorem okM_X7_about : mi_OkM m_X7_about := ⟨by decide, (mi_gd5 198 rfl rfl), (mi_gd1 9 rfl rfl), by decide, by decide, by decide⟩
end MI9
