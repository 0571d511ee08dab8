section MJB
theorem mi_cst (E : String) (h : lw_tbl.contains (Cond.castable E E) = true) : Cond.castable E E ∈ mi_nw := List.mem_filter.mpr ⟨by simpa using h, rfl⟩
theorem ata_153 : ∀ w ∈ vx_atS RX6 153 "java/lang/ClassCastException" ["java/lang/RuntimeException", "java/lang/Exception"], w ∈ mi_good ∨ w ∈ mi_nw := by decide +kernel
theorem atb_153 : ∀ w ∈ Cond.classLink RX6 149 "java/lang/ClassCastException" :: Cond.initialized "java/lang/ClassCastException" :: vx_atS RX6 153 "java/lang/ClassCastException" ["java/lang/RuntimeException", "java/lang/Exception"], vx_ot w = true := by decide +kernel
set_option maxRecDepth 100000 in
theorem thr_X6_value_64 : mi_OkT RX6 cX6_value 4 64 "java/lang/ClassCastException" := mi_throw_ok (ik := 149) (is := 151) (ic := 153) (text := "the VALUE is a NAME") (names := ["java/lang/RuntimeException", "java/lang/Exception"]) (by decide +kernel) (by decide +kernel) (by decide +kernel) (by decide +kernel) (by decide +kernel) (by decide +kernel) (by decide +kernel) (by decide) (mi_gd4 72 rfl rfl) (mi_gd1 17 rfl rfl) (by decide +kernel) ata_153 atb_153
set_option maxRecDepth 100000 in
theorem thr_X6_sign_66 : mi_OkT RX6 cX6_sign 5 66 "java/lang/ClassCastException" := mi_throw_ok (ik := 149) (is := 157) (ic := 153) (text := "the VALUE is a number") (names := ["java/lang/RuntimeException", "java/lang/Exception"]) (by decide +kernel) (by decide +kernel) (by decide +kernel) (by decide +kernel) (by decide +kernel) (by decide +kernel) (by decide +kernel) (by decide) (mi_gd4 72 rfl rfl) (mi_gd1 17 rfl rfl) (by decide +kernel) ata_153 atb_153
theorem ata_173 : ∀ w ∈ vx_atS RX6 173 "java/lang/ArrayIndexOutOfBoundsException" ["java/lang/IndexOutOfBoundsException", "java/lang/RuntimeException", "java/lang/Exception"], w ∈ mi_good ∨ w ∈ mi_nw := by decide +kernel
theorem atb_173 : ∀ w ∈ Cond.classLink RX6 169 "java/lang/ArrayIndexOutOfBoundsException" :: Cond.initialized "java/lang/ArrayIndexOutOfBoundsException" :: vx_atS RX6 173 "java/lang/ArrayIndexOutOfBoundsException" ["java/lang/IndexOutOfBoundsException", "java/lang/RuntimeException", "java/lang/Exception"], vx_ot w = true := by decide +kernel
set_option maxRecDepth 100000 in
theorem thr_X6_out_11 : mi_OkT RX6 cX6_out 2 11 "java/lang/ArrayIndexOutOfBoundsException" := mi_throw_ok (ik := 169) (is := 171) (ic := 173) (text := "no such byte was WRITTEN") (names := ["java/lang/IndexOutOfBoundsException", "java/lang/RuntimeException", "java/lang/Exception"]) (by decide +kernel) (by decide +kernel) (by decide +kernel) (by decide +kernel) (by decide +kernel) (by decide +kernel) (by decide +kernel) (by decide) (mi_gd4 1 rfl rfl) (mi_gd1 14 rfl rfl) (by decide +kernel) ata_173 atb_173
set_option maxRecDepth 100000 in
theorem thr_X6_signOfSpan_24 : mi_OkT RX6 cX6_signOfSpan 3 24 "java/lang/ArrayIndexOutOfBoundsException" := mi_throw_ok (ik := 169) (is := 184) (ic := 173) (text := "no such sign") (names := ["java/lang/IndexOutOfBoundsException", "java/lang/RuntimeException", "java/lang/Exception"]) (by decide +kernel) (by decide +kernel) (by decide +kernel) (by decide +kernel) (by decide +kernel) (by decide +kernel) (by decide +kernel) (by decide) (mi_gd4 1 rfl rfl) (mi_gd1 14 rfl rfl) (by decide +kernel) ata_173 atb_173
/-- what is still wanting: NullPointerException, thrown by the class itself -/
def mi_npe : Prop := mi_OkT RX6 cX6_value 4 39 "java/lang/NullPointerException" ∧ mi_OkT RX6 cX6_sign 5 41 "java/lang/NullPointerException"
def mi_thrs (t : mT) : List (Nat × String) := t.filterMap (fun q => match q.2 with
  | .inr (.inr (.inr E)) => some (q.1, E)
  | _ => none)
theorem mi_thrs_ok {t : mT} {pc : Nat} {E : String} (h : (pc, .inr (.inr (.inr E))) ∈ t) : (pc, E) ∈ mi_thrs t := List.mem_filterMap.mpr ⟨_, h, rfl⟩
def mi_cls (t : mT) : List (Nat × mA) := t.filterMap (fun q => match q.2 with
  | .inr (.inr (.inl ca)) => some (q.1, ca)
  | _ => none)
theorem mi_cls_ok {t : mT} {pc : Nat} {ca : mA} (h : (pc, .inr (.inr (.inl ca))) ∈ t) : (pc, ca) ∈ mi_cls t := List.mem_filterMap.mpr ⟨_, h, rfl⟩
theorem ot_X6_value (hn : mi_npe) : ∀ pc E, (pc, .inr (.inr (.inr E))) ∈ t_X6_value → mi_OkT RX6 cX6_value 4 pc E := by
  intro pc E h
  have h1 : (pc, E) ∈ [(39, "java/lang/NullPointerException"), (64, "java/lang/ClassCastException")] := mi_thrs_ok h
  simp only [List.mem_cons, List.not_mem_nil, or_false, Prod.mk.injEq] at h1
  rcases h1 with ⟨rfl, rfl⟩ | ⟨rfl, rfl⟩
  · exact hn.1
  · exact thr_X6_value_64
theorem ot_X6_sign (hn : mi_npe) : ∀ pc E, (pc, .inr (.inr (.inr E))) ∈ t_X6_sign → mi_OkT RX6 cX6_sign 5 pc E := by
  intro pc E h
  have h1 : (pc, E) ∈ [(41, "java/lang/NullPointerException"), (66, "java/lang/ClassCastException")] := mi_thrs_ok h
  simp only [List.mem_cons, List.not_mem_nil, or_false, Prod.mk.injEq] at h1
  rcases h1 with ⟨rfl, rfl⟩ | ⟨rfl, rfl⟩
  · exact hn.2
  · exact thr_X6_sign_66
theorem ot_X6_out (hn : mi_npe) : ∀ pc E, (pc, .inr (.inr (.inr E))) ∈ t_X6_out → mi_OkT RX6 cX6_out 2 pc E := by
  intro pc E h
  have h1 : (pc, E) ∈ [(11, "java/lang/ArrayIndexOutOfBoundsException")] := mi_thrs_ok h
  simp only [List.mem_cons, List.not_mem_nil, or_false, Prod.mk.injEq] at h1
  rcases h1 with ⟨rfl, rfl⟩
  · exact thr_X6_out_11
theorem ot_X6_signOfSpan (hn : mi_npe) : ∀ pc E, (pc, .inr (.inr (.inr E))) ∈ t_X6_signOfSpan → mi_OkT RX6 cX6_signOfSpan 3 pc E := by
  intro pc E h
  have h1 : (pc, E) ∈ [(24, "java/lang/ArrayIndexOutOfBoundsException")] := mi_thrs_ok h
  simp only [List.mem_cons, List.not_mem_nil, or_false, Prod.mk.injEq] at h1
  rcases h1 with ⟨rfl, rfl⟩
  · exact thr_X6_signOfSpan_24
def mi_nothr (t : mT) : Bool := (mi_thrs t).isEmpty
theorem mi_nothr_ok {t : mT} (h : mi_nothr t = true) {own : String} {cc : ByteArray} {nL : Nat} : ∀ pc E, (pc, .inr (.inr (.inr E))) ∈ t → mi_OkT own cc nL pc E := by
  intro pc E hm
  have h1 := mi_thrs_ok hm
  unfold mi_nothr at h
  rw [List.isEmpty_iff] at h
  rw [h] at h1
  exact absurd h1 List.not_mem_nil
set_option maxRecDepth 100000 in
theorem mi_allT (hn : mi_npe) : ∀ M ∈ mi_ms, mi_OkM M → ∀ pc E, (pc, .inr (.inr (.inr E))) ∈ M.2.2.2.2.2 → mi_OkT M.1.cls M.2.1 M.2.2.1 pc E := List.forall_mem_cons.mpr ⟨fun _ => mi_nothr_ok (t := t_X0_init) rfl, List.forall_mem_cons.mpr ⟨fun _ => mi_nothr_ok (t := t_X0_start) rfl, List.forall_mem_cons.mpr ⟨fun _ => mi_nothr_ok (t := t_X0_hasLine) rfl, List.forall_mem_cons.mpr ⟨fun _ => mi_nothr_ok (t := t_X0_nextLine) rfl, List.forall_mem_cons.mpr ⟨fun _ => mi_nothr_ok (t := t_X0_step) rfl, List.forall_mem_cons.mpr ⟨fun _ => mi_nothr_ok (t := t_X0_skipBlanks) rfl, List.forall_mem_cons.mpr ⟨fun _ => mi_nothr_ok (t := t_X0_isWordEnd) rfl, List.forall_mem_cons.mpr ⟨fun _ => mi_nothr_ok (t := t_X0_placeOf) rfl, List.forall_mem_cons.mpr ⟨fun _ => mi_nothr_ok (t := t_X0_wrong) rfl, List.forall_mem_cons.mpr ⟨fun _ => mi_nothr_ok (t := t_X0_wrongElsewhere) rfl, List.forall_mem_cons.mpr ⟨fun _ => mi_nothr_ok (t := t_X1_init) rfl, List.forall_mem_cons.mpr ⟨fun _ => mi_nothr_ok (t := t_X1_clear) rfl, List.forall_mem_cons.mpr ⟨fun _ => mi_nothr_ok (t := t_X1_arcCount) rfl, List.forall_mem_cons.mpr ⟨fun _ => mi_nothr_ok (t := t_X1_hasValue) rfl, List.forall_mem_cons.mpr ⟨fun _ => mi_nothr_ok (t := t_X1_roomOf) rfl, List.forall_mem_cons.mpr ⟨fun _ => mi_nothr_ok (t := t_X1_missingOf) rfl, List.forall_mem_cons.mpr ⟨fun _ => mi_nothr_ok (t := t_X1_hasArc) rfl, List.forall_mem_cons.mpr ⟨fun _ => mi_nothr_ok (t := t_X1_addArc) rfl, List.forall_mem_cons.mpr ⟨fun _ => mi_nothr_ok (t := t_X1_addValue) rfl, List.forall_mem_cons.mpr ⟨fun _ => mi_nothr_ok (t := t_X1_leaveArcOut) rfl, List.forall_mem_cons.mpr ⟨fun _ => mi_nothr_ok (t := t_X1_settleKinds) rfl, List.forall_mem_cons.mpr ⟨fun _ => mi_nothr_ok (t := t_X1_guessKind) rfl, List.forall_mem_cons.mpr ⟨fun _ => mi_nothr_ok (t := t_X2_init) rfl, List.forall_mem_cons.mpr ⟨fun _ => mi_nothr_ok (t := t_X2_readText) rfl, List.forall_mem_cons.mpr ⟨fun _ => mi_nothr_ok (t := t_X2_countIsTrue) rfl, List.forall_mem_cons.mpr ⟨fun _ => mi_nothr_ok (t := t_X2_readLine) rfl, List.forall_mem_cons.mpr ⟨fun _ => mi_nothr_ok (t := t_X2_readComment) rfl, List.forall_mem_cons.mpr ⟨fun _ => mi_nothr_ok (t := t_X2_readCount) rfl, List.forall_mem_cons.mpr ⟨fun _ => mi_nothr_ok (t := t_X2_readNumber) rfl, List.forall_mem_cons.mpr ⟨fun _ => mi_nothr_ok (t := t_X2_readHead) rfl, List.forall_mem_cons.mpr ⟨fun _ => mi_nothr_ok (t := t_X2_kindOfLetter) rfl, List.forall_mem_cons.mpr ⟨fun _ => mi_nothr_ok (t := t_X2_readEnds) rfl, List.forall_mem_cons.mpr ⟨fun _ => mi_nothr_ok (t := t_X2_endArc) rfl, List.forall_mem_cons.mpr ⟨fun _ => mi_nothr_ok (t := t_X2_takeNode) rfl, List.forall_mem_cons.mpr ⟨fun _ => mi_nothr_ok (t := t_X2_readValues) rfl, List.forall_mem_cons.mpr ⟨fun _ => mi_nothr_ok (t := t_X2_readValue) rfl, List.forall_mem_cons.mpr ⟨fun _ => mi_nothr_ok (t := t_X2_readFigures) rfl, List.forall_mem_cons.mpr ⟨fun _ => mi_nothr_ok (t := t_X2_readFraction) rfl, List.forall_mem_cons.mpr ⟨fun _ => mi_nothr_ok (t := t_X2_readGuessed) rfl, List.forall_mem_cons.mpr ⟨fun _ => mi_nothr_ok (t := t_X2_figuresOnly) rfl, List.forall_mem_cons.mpr ⟨fun _ => mi_nothr_ok (t := t_X2_thousandthsRead) rfl, List.forall_mem_cons.mpr ⟨fun _ => mi_nothr_ok (t := t_X2_readName) rfl, List.forall_mem_cons.mpr ⟨fun _ => mi_nothr_ok (t := t_X2_readPlain) rfl, List.forall_mem_cons.mpr ⟨fun _ => mi_nothr_ok (t := t_X2_readQuoted) rfl, List.forall_mem_cons.mpr ⟨fun _ => mi_nothr_ok (t := t_X2_readGap) rfl, List.forall_mem_cons.mpr ⟨fun _ => mi_nothr_ok (t := t_X2_readLineEnd) rfl, List.forall_mem_cons.mpr ⟨fun _ => mi_nothr_ok (t := t_X3_init) rfl, List.forall_mem_cons.mpr ⟨fun _ => mi_nothr_ok (t := t_X3_clear) rfl, List.forall_mem_cons.mpr ⟨fun _ => mi_nothr_ok (t := t_X3_cut) rfl, List.forall_mem_cons.mpr ⟨fun _ => mi_nothr_ok (t := t_X3_add) rfl, List.forall_mem_cons.mpr ⟨fun _ => mi_nothr_ok (t := t_X3_put) rfl, List.forall_mem_cons.mpr ⟨fun _ => mi_nothr_ok (t := t_X3_has) rfl, List.forall_mem_cons.mpr ⟨fun _ => mi_nothr_ok (t := t_X3_at) rfl, List.forall_mem_cons.mpr ⟨fun _ => mi_nothr_ok (t := t_X4_init) rfl, List.forall_mem_cons.mpr ⟨fun _ => mi_nothr_ok (t := t_X4_clear) rfl, List.forall_mem_cons.mpr ⟨fun _ => mi_nothr_ok (t := t_X4_cut) rfl, List.forall_mem_cons.mpr ⟨fun _ => mi_nothr_ok (t := t_X4_add) rfl, List.forall_mem_cons.mpr ⟨fun _ => mi_nothr_ok (t := t_X4_has) rfl, List.forall_mem_cons.mpr ⟨fun _ => mi_nothr_ok (t := t_X4_lengthOf) rfl, List.forall_mem_cons.mpr ⟨fun _ => mi_nothr_ok (t := t_X4_signAt) rfl, List.forall_mem_cons.mpr ⟨fun _ => mi_nothr_ok (t := t_X4_indexOf) rfl, List.forall_mem_cons.mpr ⟨fun _ => mi_nothr_ok (t := t_X4_isSame) rfl, List.forall_mem_cons.mpr ⟨fun _ => mi_nothr_ok (t := t_X4_isPlainName) rfl, List.forall_mem_cons.mpr ⟨fun _ => mi_nothr_ok (t := t_X5_init) rfl, List.forall_mem_cons.mpr ⟨fun _ => mi_nothr_ok (t := t_X5_writeGraph) rfl, List.forall_mem_cons.mpr ⟨fun _ => mi_nothr_ok (t := t_X5_writeComment) rfl, List.forall_mem_cons.mpr ⟨fun _ => mi_nothr_ok (t := t_X5_writeCount) rfl, List.forall_mem_cons.mpr ⟨fun _ => mi_nothr_ok (t := t_X5_writeHead) rfl, List.forall_mem_cons.mpr ⟨fun _ => mi_nothr_ok (t := t_X5_letterOfKind) rfl, List.forall_mem_cons.mpr ⟨fun _ => mi_nothr_ok (t := t_X5_writeArc) rfl, List.forall_mem_cons.mpr ⟨fun _ => mi_nothr_ok (t := t_X5_writeValue) rfl, List.forall_mem_cons.mpr ⟨fun _ => mi_nothr_ok (t := t_X5_writeName) rfl, List.forall_mem_cons.mpr ⟨fun _ => mi_nothr_ok (t := t_X5_writeThousandths) rfl, List.forall_mem_cons.mpr ⟨fun _ => mi_nothr_ok (t := t_X5_writeWhole) rfl, List.forall_mem_cons.mpr ⟨fun _ => mi_nothr_ok (t := t_X6_init) rfl, List.forall_mem_cons.mpr ⟨fun _ => mi_nothr_ok (t := t_X6_feed) rfl, List.forall_mem_cons.mpr ⟨fun _ => mi_nothr_ok (t := t_X6_read) rfl, List.forall_mem_cons.mpr ⟨fun _ => mi_nothr_ok (t := t_X6_fault) rfl, List.forall_mem_cons.mpr ⟨fun _ => mi_nothr_ok (t := t_X6_manner) rfl, List.forall_mem_cons.mpr ⟨fun _ => mi_nothr_ok (t := t_X6_find) rfl, List.forall_mem_cons.mpr ⟨fun _ => mi_nothr_ok (t := t_X6_node) rfl, List.forall_mem_cons.mpr ⟨fun _ => mi_nothr_ok (t := t_X6_arc) rfl, List.forall_mem_cons.mpr ⟨fun _ => mi_nothr_ok (t := t_X6_kind) rfl, List.forall_mem_cons.mpr ⟨fun _ => mi_nothr_ok (t := t_X6_head) rfl, List.forall_mem_cons.mpr ⟨fun _ => ot_X6_value hn, List.forall_mem_cons.mpr ⟨fun _ => ot_X6_sign hn, List.forall_mem_cons.mpr ⟨fun _ => mi_nothr_ok (t := t_X6_comment) rfl, List.forall_mem_cons.mpr ⟨fun _ => mi_nothr_ok (t := t_X6_print) rfl, List.forall_mem_cons.mpr ⟨fun _ => ot_X6_out hn, List.forall_mem_cons.mpr ⟨fun _ => mi_nothr_ok (t := t_X6_about) rfl, List.forall_mem_cons.mpr ⟨fun _ => ot_X6_signOfSpan hn, List.forall_mem_cons.mpr ⟨fun _ => mi_nothr_ok (t := t_X6_isFigure) rfl, List.forall_mem_cons.mpr ⟨fun _ => mi_nothr_ok (t := t_X6_isPlain) rfl, List.forall_mem_cons.mpr ⟨fun _ => mi_nothr_ok (t := t_X6_isPrintable) rfl, List.forall_mem_cons.mpr ⟨fun _ => mi_nothr_ok (t := t_X7_init) rfl, List.forall_mem_cons.mpr ⟨fun _ => mi_nothr_ok (t := t_X7_thrown) rfl, List.forall_mem_cons.mpr ⟨fun _ => mi_nothr_ok (t := t_X7_in) rfl, List.forall_mem_cons.mpr ⟨fun _ => mi_nothr_ok (t := t_X7_feed) rfl, List.forall_mem_cons.mpr ⟨fun _ => mi_nothr_ok (t := t_X7_here) rfl, List.forall_mem_cons.mpr ⟨fun _ => mi_nothr_ok (t := t_X7_wrong) rfl, List.forall_mem_cons.mpr ⟨fun _ => mi_nothr_ok (t := t_X7_isFigure) rfl, List.forall_mem_cons.mpr ⟨fun _ => mi_nothr_ok (t := t_X7_isPlain) rfl, List.forall_mem_cons.mpr ⟨fun _ => mi_nothr_ok (t := t_X7_blanks) rfl, List.forall_mem_cons.mpr ⟨fun _ => mi_nothr_ok (t := t_X7_ended) rfl, List.forall_mem_cons.mpr ⟨fun _ => mi_nothr_ok (t := t_X7_sign) rfl, List.forall_mem_cons.mpr ⟨fun _ => mi_nothr_ok (t := t_X7_readName) rfl, List.forall_mem_cons.mpr ⟨fun _ => mi_nothr_ok (t := t_X7_readQuoted) rfl, List.forall_mem_cons.mpr ⟨fun _ => mi_nothr_ok (t := t_X7_readNumber) rfl, List.forall_mem_cons.mpr ⟨fun _ => mi_nothr_ok (t := t_X7_readDecimals) rfl, List.forall_mem_cons.mpr ⟨fun _ => mi_nothr_ok (t := t_X7_plainSort) rfl, List.forall_mem_cons.mpr ⟨fun _ => mi_nothr_ok (t := t_X7_readPlainDecimal) rfl, List.forall_mem_cons.mpr ⟨fun _ => mi_nothr_ok (t := t_X7_readValue) rfl, List.forall_mem_cons.mpr ⟨fun _ => mi_nothr_ok (t := t_X7_readAny) rfl, List.forall_mem_cons.mpr ⟨fun _ => mi_nothr_ok (t := t_X7_isSame) rfl, List.forall_mem_cons.mpr ⟨fun _ => mi_nothr_ok (t := t_X7_layName) rfl, List.forall_mem_cons.mpr ⟨fun _ => mi_nothr_ok (t := t_X7_laySort) rfl, List.forall_mem_cons.mpr ⟨fun _ => mi_nothr_ok (t := t_X7_readComment) rfl, List.forall_mem_cons.mpr ⟨fun _ => mi_nothr_ok (t := t_X7_readCount) rfl, List.forall_mem_cons.mpr ⟨fun _ => mi_nothr_ok (t := t_X7_readHead) rfl, List.forall_mem_cons.mpr ⟨fun _ => mi_nothr_ok (t := t_X7_nodeOf) rfl, List.forall_mem_cons.mpr ⟨fun _ => mi_nothr_ok (t := t_X7_isDoubled) rfl, List.forall_mem_cons.mpr ⟨fun _ => mi_nothr_ok (t := t_X7_readArc) rfl, List.forall_mem_cons.mpr ⟨fun _ => mi_nothr_ok (t := t_X7_layArc) rfl, List.forall_mem_cons.mpr ⟨fun _ => mi_nothr_ok (t := t_X7_readLine) rfl, List.forall_mem_cons.mpr ⟨fun _ => mi_nothr_ok (t := t_X7_guessKinds) rfl, List.forall_mem_cons.mpr ⟨fun _ => mi_nothr_ok (t := t_X7_takeOver) rfl, List.forall_mem_cons.mpr ⟨fun _ => mi_nothr_ok (t := t_X7_takeRow) rfl, List.forall_mem_cons.mpr ⟨fun _ => mi_nothr_ok (t := t_X7_read) rfl, List.forall_mem_cons.mpr ⟨fun _ => mi_nothr_ok (t := t_X7_lie) rfl, List.forall_mem_cons.mpr ⟨fun _ => mi_nothr_ok (t := t_X7_fault) rfl, List.forall_mem_cons.mpr ⟨fun _ => mi_nothr_ok (t := t_X7_manner) rfl, List.forall_mem_cons.mpr ⟨fun _ => mi_nothr_ok (t := t_X7_find) rfl, List.forall_mem_cons.mpr ⟨fun _ => mi_nothr_ok (t := t_X7_node) rfl, List.forall_mem_cons.mpr ⟨fun _ => mi_nothr_ok (t := t_X7_arc) rfl, List.forall_mem_cons.mpr ⟨fun _ => mi_nothr_ok (t := t_X7_isColumn) rfl, List.forall_mem_cons.mpr ⟨fun _ => mi_nothr_ok (t := t_X7_kind) rfl, List.forall_mem_cons.mpr ⟨fun _ => mi_nothr_ok (t := t_X7_head) rfl, List.forall_mem_cons.mpr ⟨fun _ => mi_nothr_ok (t := t_X7_value) rfl, List.forall_mem_cons.mpr ⟨fun _ => mi_nothr_ok (t := t_X7_sign_) rfl, List.forall_mem_cons.mpr ⟨fun _ => mi_nothr_ok (t := t_X7_comment) rfl, List.forall_mem_cons.mpr ⟨fun _ => mi_nothr_ok (t := t_X7_put) rfl, List.forall_mem_cons.mpr ⟨fun _ => mi_nothr_ok (t := t_X7_putName) rfl, List.forall_mem_cons.mpr ⟨fun _ => mi_nothr_ok (t := t_X7_putWhole) rfl, List.forall_mem_cons.mpr ⟨fun _ => mi_nothr_ok (t := t_X7_putNumber) rfl, List.forall_mem_cons.mpr ⟨fun _ => mi_nothr_ok (t := t_X7_putArc) rfl, List.forall_mem_cons.mpr ⟨fun _ => mi_nothr_ok (t := t_X7_print) rfl, List.forall_mem_cons.mpr ⟨fun _ => mi_nothr_ok (t := t_X7_out) rfl, List.forall_mem_cons.mpr ⟨fun _ => mi_nothr_ok (t := t_X7_about) rfl, List.forall_mem_cons.mpr ⟨fun _ => mi_nothr_ok (t := t_L_node) rfl, List.forall_mem_cons.mpr ⟨fun _ => mi_nothr_ok (t := t_L_head) rfl, List.forall_mem_cons.mpr ⟨fun _ => mi_nothr_ok (t := t_L_value) rfl, List.forall_mem_cons.mpr ⟨fun _ => mi_nothr_ok (t := t_L_sign) rfl, List.forall_mem_cons.mpr ⟨fun _ => mi_nothr_ok (t := t_L_comment) rfl, List.forall_mem_cons.mpr ⟨fun _ => mi_nothr_ok (t := t_L_out) rfl, fun _ h => absurd h List.not_mem_nil⟩⟩⟩⟩⟩⟩⟩⟩⟩⟩⟩⟩⟩⟩⟩⟩⟩⟩⟩⟩⟩⟩⟩⟩⟩⟩⟩⟩⟩⟩⟩⟩⟩⟩⟩⟩⟩⟩⟩⟩⟩⟩⟩⟩⟩⟩⟩⟩⟩⟩⟩⟩⟩⟩⟩⟩⟩⟩⟩⟩⟩⟩⟩⟩⟩⟩⟩⟩⟩⟩⟩⟩⟩⟩⟩⟩⟩⟩⟩⟩⟩⟩⟩⟩⟩⟩⟩⟩⟩⟩⟩⟩⟩⟩⟩⟩⟩⟩⟩⟩⟩⟩⟩⟩⟩⟩⟩⟩⟩⟩⟩⟩⟩⟩⟩⟩⟩⟩⟩⟩⟩⟩⟩⟩⟩⟩⟩⟩⟩⟩⟩⟩⟩⟩⟩⟩⟩⟩⟩⟩⟩⟩⟩⟩⟩⟩⟩⟩⟩⟩⟩⟩⟩⟩
def mi_nn (x : MethodName) : Bool := lw_tbl.all (fun w => match w with
  | .methodLinkNest _ _ z _ => !decide (z = x)
  | _ => true)
theorem mi_nn_ok {x : MethodName} (h : mi_nn x = true) : ∀ own index host, Cond.methodLinkNest own index x host ∉ mi_nw := by
  intro own index host hm
  have h1 := List.all_eq_true.mp h _ (List.mem_filter.mp hm).1
  simp at h1
theorem mi_okN : mi_OkN mi_ms := by
  intro y M hy hM
  have h1 : y ∈ mi_thr := by simpa using hy
  simp only [mi_thr, List.mem_cons, List.not_mem_nil, or_false] at h1
  rcases h1 with rfl | rfl | rfl | rfl | rfl | rfl | rfl
  · cases hM; exact ⟨by decide, mi_nn_ok (by decide +kernel)⟩
  · cases hM; exact ⟨by decide, mi_nn_ok (by decide +kernel)⟩
  · cases hM; exact ⟨by decide, mi_nn_ok (by decide +kernel)⟩
  · cases hM; exact ⟨by decide, mi_nn_ok (by decide +kernel)⟩
  · cases hM; exact ⟨by decide, mi_nn_ok (by decide +kernel)⟩
  · cases hM; exact ⟨by decide, mi_nn_ok (by decide +kernel)⟩
  · cases hM; exact ⟨by decide, mi_nn_ok (by decide +kernel)⟩
theorem mi_methX (hn : mi_npe) (d : Nat) : mi_Xd mi_ms d := mi_soundX mi_all mi_okN (fun y M h hM => mi_allT hn M (List.mem_of_getElem? h) hM) d
set_option maxRecDepth 100000 in
set_option maxHeartbeats 4000000 in
theorem ok_L_node : ∀ q ∈ t_L_node, mi_OkE mi_ms RL cL_node 5 false (some .int) q :=
  mi_cI (mi_aload_n_ok (k := 3) (by decide +kernel) rfl rfl) <|
  mi_cI (mi_iconst_ok (n := 0) (by decide) (by decide +kernel) rfl) <|
  mi_cI (mi_aload_n_ok (k := 0) (by decide +kernel) rfl rfl) <|
  mi_cI (mi_iload_n_ok (k := 1) (by decide +kernel) rfl rfl) <|
  mi_cI (mi_iload_n_ok (k := 2) (by decide +kernel) rfl rfl) <|
  mi_cC ⟨m_X6_node, rfl, okM_X6_node, 7, 2, by decide +kernel, Or.inl ⟨(by decide +kernel), rfl, (mi_gd3 229 rfl rfl), (mi_gd3 230 rfl rfl), (mi_gd3 231 rfl rfl), 6, _, _, rfl, rfl⟩⟩ <|
  mi_cI (mi_i2l_ok (by decide +kernel) rfl) <|
  mi_cI (mi_last_ok (by decide +kernel) rfl) <|
  mi_cI (mi_goto_ok (off := 7) (by decide +kernel) (by decide)) <|
  mi_cI (mi_astore_ok (by decide +kernel) (by decide) rfl) <|
  mi_cI (mi_iconst_ok (n := 1) (by decide) (by decide +kernel) rfl) <|
  mi_cR (Or.inr (Or.inl ⟨rfl, (by decide +kernel), rfl⟩)) <|
  mi_cI (mi_iconst_ok (n := 0) (by decide) (by decide +kernel) rfl) <|
  mi_cR (Or.inr (Or.inl ⟨rfl, (by decide +kernel), rfl⟩)) <| mi_cN
set_option maxRecDepth 100000 in
theorem okW_L_node : mi_OkMW m_L_node := ⟨by decide, (mi_gd3 142 rfl rfl), (mi_gd1 0 rfl rfl), by decide, by decide, by decide⟩
set_option maxRecDepth 100000 in
theorem okH_L_node : ∀ pc ca, (pc, .inr (.inr (.inl ca))) ∈ t_L_node → mi_OkH RL cL_node 5 [(0, 10, 13, 13)] pc ca.2.2.2 := by
  intro pc ca h
  have h1 : (pc, ca) ∈ [(5, ((80, 3, some 6, [("java/lang/ArrayIndexOutOfBoundsException", 1)]) : mA))] := mi_cls_ok h
  simp only [List.mem_cons, List.not_mem_nil, or_false, Prod.mk.injEq] at h1
  obtain ⟨rfl, rfl⟩ := h1
  intro E k hk
  by_cases e0 : E = "java/lang/ArrayIndexOutOfBoundsException"
  · subst e0
    have hk0 : ([("java/lang/ArrayIndexOutOfBoundsException", 1)] : List (String × Int32)).lookup "java/lang/ArrayIndexOutOfBoundsException" = some 1 := by decide +kernel
    have hk1 : k = 1 := Option.some.inj (hk.symm.trans hk0)
    subst hk1
    refine ⟨[], ⟨0, 10, 13, 13⟩, [], 4, 2, 1, rfl, rfl, by decide, (mi_gd3 143 rfl rfl), mi_cst "java/lang/ArrayIndexOutOfBoundsException" (by decide +kernel), ?_, by decide, Or.inl ⟨rfl, by decide +kernel⟩, by decide +kernel, by decide, by decide +kernel⟩
    exact fun z hz => absurd hz List.not_mem_nil
  exact absurd hk (by simp [List.lookup, show (E == "java/lang/ArrayIndexOutOfBoundsException") = false from by simpa using e0])
set_option maxRecDepth 100000 in
set_option maxHeartbeats 4000000 in
theorem ok_L_head : ∀ q ∈ t_L_head, mi_OkE mi_ms RL cL_head 5 false (some .int) q :=
  mi_cI (mi_aload_n_ok (k := 3) (by decide +kernel) rfl rfl) <|
  mi_cI (mi_iconst_ok (n := 0) (by decide) (by decide +kernel) rfl) <|
  mi_cI (mi_aload_n_ok (k := 0) (by decide +kernel) rfl rfl) <|
  mi_cI (mi_iload_n_ok (k := 1) (by decide +kernel) rfl rfl) <|
  mi_cI (mi_iload_n_ok (k := 2) (by decide +kernel) rfl rfl) <|
  mi_cC ⟨m_X6_head, rfl, okM_X6_head, 15, 2, by decide +kernel, Or.inl ⟨(by decide +kernel), rfl, (mi_gd4 8 rfl rfl), (mi_gd4 9 rfl rfl), (mi_gd4 10 rfl rfl), 6, _, _, rfl, rfl⟩⟩ <|
  mi_cI (mi_i2l_ok (by decide +kernel) rfl) <|
  mi_cI (mi_last_ok (by decide +kernel) rfl) <|
  mi_cI (mi_goto_ok (off := 7) (by decide +kernel) (by decide)) <|
  mi_cI (mi_astore_ok (by decide +kernel) (by decide) rfl) <|
  mi_cI (mi_iconst_ok (n := 1) (by decide) (by decide +kernel) rfl) <|
  mi_cR (Or.inr (Or.inl ⟨rfl, (by decide +kernel), rfl⟩)) <|
  mi_cI (mi_iconst_ok (n := 0) (by decide) (by decide +kernel) rfl) <|
  mi_cR (Or.inr (Or.inl ⟨rfl, (by decide +kernel), rfl⟩)) <| mi_cN
set_option maxRecDepth 100000 in
theorem okW_L_head : mi_OkMW m_L_head := ⟨by decide, (mi_gd4 7 rfl rfl), (mi_gd1 0 rfl rfl), by decide, by decide, by decide⟩
set_option maxRecDepth 100000 in
theorem okH_L_head : ∀ pc ca, (pc, .inr (.inr (.inl ca))) ∈ t_L_head → mi_OkH RL cL_head 5 [(0, 10, 13, 13)] pc ca.2.2.2 := by
  intro pc ca h
  have h1 : (pc, ca) ∈ [(5, ((83, 3, some 6, [("java/lang/ArrayIndexOutOfBoundsException", 1)]) : mA))] := mi_cls_ok h
  simp only [List.mem_cons, List.not_mem_nil, or_false, Prod.mk.injEq] at h1
  obtain ⟨rfl, rfl⟩ := h1
  intro E k hk
  by_cases e0 : E = "java/lang/ArrayIndexOutOfBoundsException"
  · subst e0
    have hk0 : ([("java/lang/ArrayIndexOutOfBoundsException", 1)] : List (String × Int32)).lookup "java/lang/ArrayIndexOutOfBoundsException" = some 1 := by decide +kernel
    have hk1 : k = 1 := Option.some.inj (hk.symm.trans hk0)
    subst hk1
    refine ⟨[], ⟨0, 10, 13, 13⟩, [], 4, 2, 1, rfl, rfl, by decide, (mi_gd3 143 rfl rfl), mi_cst "java/lang/ArrayIndexOutOfBoundsException" (by decide +kernel), ?_, by decide, Or.inl ⟨rfl, by decide +kernel⟩, by decide +kernel, by decide, by decide +kernel⟩
    exact fun z hz => absurd hz List.not_mem_nil
  exact absurd hk (by simp [List.lookup, show (E == "java/lang/ArrayIndexOutOfBoundsException") = false from by simpa using e0])
set_option maxRecDepth 100000 in
set_option maxHeartbeats 4000000 in
theorem ok_L_value : ∀ q ∈ t_L_value, mi_OkE mi_ms RL cL_value 5 false (some .int) q :=
  mi_cI (mi_aload_n_ok (k := 3) (by decide +kernel) rfl rfl) <|
  mi_cI (mi_iconst_ok (n := 0) (by decide) (by decide +kernel) rfl) <|
  mi_cI (mi_aload_n_ok (k := 0) (by decide +kernel) rfl rfl) <|
  mi_cI (mi_iload_n_ok (k := 1) (by decide +kernel) rfl rfl) <|
  mi_cI (mi_iload_n_ok (k := 2) (by decide +kernel) rfl rfl) <|
  mi_cC ⟨m_X6_value, rfl, okM_X6_value, 18, 2, by decide +kernel, Or.inl ⟨(by decide +kernel), rfl, (mi_gd4 55 rfl rfl), (mi_gd4 56 rfl rfl), (mi_gd4 57 rfl rfl), 6, _, _, rfl, rfl⟩⟩ <|
  mi_cI (mi_i2l_ok (by decide +kernel) rfl) <|
  mi_cI (mi_last_ok (by decide +kernel) rfl) <|
  mi_cI (mi_goto_ok (off := 11) (by decide +kernel) (by decide)) <|
  mi_cI (mi_astore_ok (by decide +kernel) (by decide) rfl) <|
  mi_cI (mi_iconst_ok (n := 1) (by decide) (by decide +kernel) rfl) <|
  mi_cR (Or.inr (Or.inl ⟨rfl, (by decide +kernel), rfl⟩)) <|
  mi_cI (mi_astore_ok (by decide +kernel) (by decide) rfl) <|
  mi_cI (mi_iconst_ok (n := 2) (by decide) (by decide +kernel) rfl) <|
  mi_cR (Or.inr (Or.inl ⟨rfl, (by decide +kernel), rfl⟩)) <|
  mi_cI (mi_iconst_ok (n := 0) (by decide) (by decide +kernel) rfl) <|
  mi_cR (Or.inr (Or.inl ⟨rfl, (by decide +kernel), rfl⟩)) <| mi_cN
set_option maxRecDepth 100000 in
theorem okW_L_value : mi_OkMW m_L_value := ⟨by decide, (mi_gd4 14 rfl rfl), (mi_gd1 0 rfl rfl), by decide, by decide, by decide⟩
set_option maxRecDepth 100000 in
theorem okH_L_value : ∀ pc ca, (pc, .inr (.inr (.inl ca))) ∈ t_L_value → mi_OkH RL cL_value 5 [(0, 10, 13, 21), (0, 10, 17, 23)] pc ca.2.2.2 := by
  intro pc ca h
  have h1 : (pc, ca) ∈ [(5, ((84, 3, some 6, [("java/lang/NullPointerException", 1), ("java/lang/ClassCastException", 2)]) : mA))] := mi_cls_ok h
  simp only [List.mem_cons, List.not_mem_nil, or_false, Prod.mk.injEq] at h1
  obtain ⟨rfl, rfl⟩ := h1
  intro E k hk
  by_cases e0 : E = "java/lang/NullPointerException"
  · subst e0
    have hk0 : ([("java/lang/NullPointerException", 1), ("java/lang/ClassCastException", 2)] : List (String × Int32)).lookup "java/lang/NullPointerException" = some 1 := by decide +kernel
    have hk1 : k = 1 := Option.some.inj (hk.symm.trans hk0)
    subst hk1
    refine ⟨[], ⟨0, 10, 13, 21⟩, [⟨0, 10, 17, 23⟩], 4, 2, 1, rfl, rfl, by decide, (mi_gd4 15 rfl rfl), mi_cst "java/lang/NullPointerException" (by decide +kernel), ?_, by decide, Or.inl ⟨rfl, by decide +kernel⟩, by decide +kernel, by decide, by decide +kernel⟩
    exact fun z hz => absurd hz List.not_mem_nil
  by_cases e1 : E = "java/lang/ClassCastException"
  · subst e1
    have hk0 : ([("java/lang/NullPointerException", 1), ("java/lang/ClassCastException", 2)] : List (String × Int32)).lookup "java/lang/ClassCastException" = some 2 := by decide +kernel
    have hk1 : k = 2 := Option.some.inj (hk.symm.trans hk0)
    subst hk1
    refine ⟨[⟨0, 10, 13, 21⟩], ⟨0, 10, 17, 23⟩, [], 4, 2, 2, rfl, rfl, by decide, (mi_gd4 41 rfl rfl), mi_cst "java/lang/ClassCastException" (by decide +kernel), ?_, by decide, Or.inl ⟨rfl, by decide +kernel⟩, by decide +kernel, by decide, by decide +kernel⟩
    exact fun z hz => by
      simp only [List.mem_cons, List.not_mem_nil, or_false] at hz
      rcases hz with rfl
      · exact ⟨rfl, by decide, "java/lang/NullPointerException", (mi_gd4 15 rfl rfl), by decide⟩
  exact absurd hk (by simp [List.lookup, show (E == "java/lang/NullPointerException") = false from by simpa using e0, show (E == "java/lang/ClassCastException") = false from by simpa using e1])
set_option maxRecDepth 100000 in
set_option maxHeartbeats 4000000 in
theorem ok_L_sign : ∀ q ∈ t_L_sign, mi_OkE mi_ms RL cL_sign 6 false (some .int) q :=
  mi_cI (mi_aload_ok (by decide +kernel) rfl) <|
  mi_cI (mi_iconst_ok (n := 0) (by decide) (by decide +kernel) rfl) <|
  mi_cI (mi_aload_n_ok (k := 0) (by decide +kernel) rfl rfl) <|
  mi_cI (mi_iload_n_ok (k := 1) (by decide +kernel) rfl rfl) <|
  mi_cI (mi_iload_n_ok (k := 2) (by decide +kernel) rfl rfl) <|
  mi_cI (mi_iload_n_ok (k := 3) (by decide +kernel) rfl rfl) <|
  mi_cC ⟨m_X6_sign, rfl, okM_X6_sign, 25, 3, by decide +kernel, Or.inl ⟨(by decide +kernel), rfl, (mi_gd4 78 rfl rfl), (mi_gd4 79 rfl rfl), (mi_gd4 80 rfl rfl), 6, _, _, rfl, rfl⟩⟩ <|
  mi_cI (mi_i2l_ok (by decide +kernel) rfl) <|
  mi_cI (mi_last_ok (by decide +kernel) rfl) <|
  mi_cI (mi_goto_ok (off := 15) (by decide +kernel) (by decide)) <|
  mi_cI (mi_astore_ok (by decide +kernel) (by decide) rfl) <|
  mi_cI (mi_iconst_ok (n := 1) (by decide) (by decide +kernel) rfl) <|
  mi_cR (Or.inr (Or.inl ⟨rfl, (by decide +kernel), rfl⟩)) <|
  mi_cI (mi_astore_ok (by decide +kernel) (by decide) rfl) <|
  mi_cI (mi_iconst_ok (n := 2) (by decide) (by decide +kernel) rfl) <|
  mi_cR (Or.inr (Or.inl ⟨rfl, (by decide +kernel), rfl⟩)) <|
  mi_cI (mi_astore_ok (by decide +kernel) (by decide) rfl) <|
  mi_cI (mi_iconst_ok (n := 3) (by decide) (by decide +kernel) rfl) <|
  mi_cR (Or.inr (Or.inl ⟨rfl, (by decide +kernel), rfl⟩)) <|
  mi_cI (mi_iconst_ok (n := 0) (by decide) (by decide +kernel) rfl) <|
  mi_cR (Or.inr (Or.inl ⟨rfl, (by decide +kernel), rfl⟩)) <| mi_cN
set_option maxRecDepth 100000 in
theorem okW_L_sign : mi_OkMW m_L_sign := ⟨by decide, (mi_gd4 77 rfl rfl), (mi_gd1 0 rfl rfl), by decide, by decide, by decide⟩
set_option maxRecDepth 100000 in
theorem okH_L_sign : ∀ pc ca, (pc, .inr (.inr (.inl ca))) ∈ t_L_sign → mi_OkH RL cL_sign 6 [(0, 12, 15, 21), (0, 12, 19, 23), (0, 12, 23, 13)] pc ca.2.2.2 := by
  intro pc ca h
  have h1 : (pc, ca) ∈ [(7, ((85, 4, some 6, [("java/lang/NullPointerException", 1), ("java/lang/ClassCastException", 2), ("java/lang/ArrayIndexOutOfBoundsException", 3)]) : mA))] := mi_cls_ok h
  simp only [List.mem_cons, List.not_mem_nil, or_false, Prod.mk.injEq] at h1
  obtain ⟨rfl, rfl⟩ := h1
  intro E k hk
  by_cases e0 : E = "java/lang/NullPointerException"
  · subst e0
    have hk0 : ([("java/lang/NullPointerException", 1), ("java/lang/ClassCastException", 2), ("java/lang/ArrayIndexOutOfBoundsException", 3)] : List (String × Int32)).lookup "java/lang/NullPointerException" = some 1 := by decide +kernel
    have hk1 : k = 1 := Option.some.inj (hk.symm.trans hk0)
    subst hk1
    refine ⟨[], ⟨0, 12, 15, 21⟩, [⟨0, 12, 19, 23⟩, ⟨0, 12, 23, 13⟩], 5, 2, 1, rfl, rfl, by decide, (mi_gd4 15 rfl rfl), mi_cst "java/lang/NullPointerException" (by decide +kernel), ?_, by decide, Or.inl ⟨rfl, by decide +kernel⟩, by decide +kernel, by decide, by decide +kernel⟩
    exact fun z hz => absurd hz List.not_mem_nil
  by_cases e1 : E = "java/lang/ClassCastException"
  · subst e1
    have hk0 : ([("java/lang/NullPointerException", 1), ("java/lang/ClassCastException", 2), ("java/lang/ArrayIndexOutOfBoundsException", 3)] : List (String × Int32)).lookup "java/lang/ClassCastException" = some 2 := by decide +kernel
    have hk1 : k = 2 := Option.some.inj (hk.symm.trans hk0)
    subst hk1
    refine ⟨[⟨0, 12, 15, 21⟩], ⟨0, 12, 19, 23⟩, [⟨0, 12, 23, 13⟩], 5, 2, 2, rfl, rfl, by decide, (mi_gd4 41 rfl rfl), mi_cst "java/lang/ClassCastException" (by decide +kernel), ?_, by decide, Or.inl ⟨rfl, by decide +kernel⟩, by decide +kernel, by decide, by decide +kernel⟩
    exact fun z hz => by
      simp only [List.mem_cons, List.not_mem_nil, or_false] at hz
      rcases hz with rfl
      · exact ⟨rfl, by decide, "java/lang/NullPointerException", (mi_gd4 15 rfl rfl), by decide⟩
  by_cases e2 : E = "java/lang/ArrayIndexOutOfBoundsException"
  · subst e2
    have hk0 : ([("java/lang/NullPointerException", 1), ("java/lang/ClassCastException", 2), ("java/lang/ArrayIndexOutOfBoundsException", 3)] : List (String × Int32)).lookup "java/lang/ArrayIndexOutOfBoundsException" = some 3 := by decide +kernel
    have hk1 : k = 3 := Option.some.inj (hk.symm.trans hk0)
    subst hk1
    refine ⟨[⟨0, 12, 15, 21⟩, ⟨0, 12, 19, 23⟩], ⟨0, 12, 23, 13⟩, [], 5, 2, 3, rfl, rfl, by decide, (mi_gd3 143 rfl rfl), mi_cst "java/lang/ArrayIndexOutOfBoundsException" (by decide +kernel), ?_, by decide, Or.inl ⟨rfl, by decide +kernel⟩, by decide +kernel, by decide, by decide +kernel⟩
    exact fun z hz => by
      simp only [List.mem_cons, List.not_mem_nil, or_false] at hz
      rcases hz with rfl | rfl
      · exact ⟨rfl, by decide, "java/lang/NullPointerException", (mi_gd4 15 rfl rfl), by decide⟩
      · exact ⟨rfl, by decide, "java/lang/ClassCastException", (mi_gd4 41 rfl rfl), by decide⟩
  exact absurd hk (by simp [List.lookup, show (E == "java/lang/NullPointerException") = false from by simpa using e0, show (E == "java/lang/ClassCastException") = false from by simpa using e1, show (E == "java/lang/ArrayIndexOutOfBoundsException") = false from by simpa using e2])
set_option maxRecDepth 100000 in
set_option maxHeartbeats 4000000 in
theorem ok_L_comment : ∀ q ∈ t_L_comment, mi_OkE mi_ms RL cL_comment 5 false (some .int) q :=
  mi_cI (mi_aload_n_ok (k := 3) (by decide +kernel) rfl rfl) <|
  mi_cI (mi_iconst_ok (n := 0) (by decide) (by decide +kernel) rfl) <|
  mi_cI (mi_aload_n_ok (k := 0) (by decide +kernel) rfl rfl) <|
  mi_cI (mi_iload_n_ok (k := 1) (by decide +kernel) rfl rfl) <|
  mi_cI (mi_iload_n_ok (k := 2) (by decide +kernel) rfl rfl) <|
  mi_cC ⟨m_X6_comment, rfl, okM_X6_comment, 29, 2, by decide +kernel, Or.inl ⟨(by decide +kernel), rfl, (mi_gd4 86 rfl rfl), (mi_gd4 87 rfl rfl), (mi_gd4 88 rfl rfl), 6, _, _, rfl, rfl⟩⟩ <|
  mi_cI (mi_i2l_ok (by decide +kernel) rfl) <|
  mi_cI (mi_last_ok (by decide +kernel) rfl) <|
  mi_cI (mi_goto_ok (off := 7) (by decide +kernel) (by decide)) <|
  mi_cI (mi_astore_ok (by decide +kernel) (by decide) rfl) <|
  mi_cI (mi_iconst_ok (n := 1) (by decide) (by decide +kernel) rfl) <|
  mi_cR (Or.inr (Or.inl ⟨rfl, (by decide +kernel), rfl⟩)) <|
  mi_cI (mi_iconst_ok (n := 0) (by decide) (by decide +kernel) rfl) <|
  mi_cR (Or.inr (Or.inl ⟨rfl, (by decide +kernel), rfl⟩)) <| mi_cN
set_option maxRecDepth 100000 in
theorem okW_L_comment : mi_OkMW m_L_comment := ⟨by decide, (mi_gd4 85 rfl rfl), (mi_gd1 0 rfl rfl), by decide, by decide, by decide⟩
set_option maxRecDepth 100000 in
theorem okH_L_comment : ∀ pc ca, (pc, .inr (.inr (.inl ca))) ∈ t_L_comment → mi_OkH RL cL_comment 5 [(0, 10, 13, 13)] pc ca.2.2.2 := by
  intro pc ca h
  have h1 : (pc, ca) ∈ [(5, ((86, 3, some 6, [("java/lang/ArrayIndexOutOfBoundsException", 1)]) : mA))] := mi_cls_ok h
  simp only [List.mem_cons, List.not_mem_nil, or_false, Prod.mk.injEq] at h1
  obtain ⟨rfl, rfl⟩ := h1
  intro E k hk
  by_cases e0 : E = "java/lang/ArrayIndexOutOfBoundsException"
  · subst e0
    have hk0 : ([("java/lang/ArrayIndexOutOfBoundsException", 1)] : List (String × Int32)).lookup "java/lang/ArrayIndexOutOfBoundsException" = some 1 := by decide +kernel
    have hk1 : k = 1 := Option.some.inj (hk.symm.trans hk0)
    subst hk1
    refine ⟨[], ⟨0, 10, 13, 13⟩, [], 4, 2, 1, rfl, rfl, by decide, (mi_gd3 143 rfl rfl), mi_cst "java/lang/ArrayIndexOutOfBoundsException" (by decide +kernel), ?_, by decide, Or.inl ⟨rfl, by decide +kernel⟩, by decide +kernel, by decide, by decide +kernel⟩
    exact fun z hz => absurd hz List.not_mem_nil
  exact absurd hk (by simp [List.lookup, show (E == "java/lang/ArrayIndexOutOfBoundsException") = false from by simpa using e0])
set_option maxRecDepth 100000 in
set_option maxHeartbeats 4000000 in
theorem ok_L_out : ∀ q ∈ t_L_out, mi_OkE mi_ms RL cL_out 4 false (some .int) q :=
  mi_cI (mi_aload_n_ok (k := 2) (by decide +kernel) rfl rfl) <|
  mi_cI (mi_iconst_ok (n := 0) (by decide) (by decide +kernel) rfl) <|
  mi_cI (mi_aload_n_ok (k := 0) (by decide +kernel) rfl rfl) <|
  mi_cI (mi_iload_n_ok (k := 1) (by decide +kernel) rfl rfl) <|
  mi_cC ⟨m_X6_out, rfl, okM_X6_out, 32, 1, by decide +kernel, Or.inl ⟨(by decide +kernel), rfl, (mi_gd4 93 rfl rfl), (mi_gd4 94 rfl rfl), (mi_gd4 95 rfl rfl), 6, _, _, rfl, rfl⟩⟩ <|
  mi_cI (mi_i2l_ok (by decide +kernel) rfl) <|
  mi_cI (mi_last_ok (by decide +kernel) rfl) <|
  mi_cI (mi_goto_ok (off := 6) (by decide +kernel) (by decide)) <|
  mi_cI (mi_astore_n_ok (k := 3) (by decide +kernel) rfl (by decide) rfl) <|
  mi_cI (mi_iconst_ok (n := 1) (by decide) (by decide +kernel) rfl) <|
  mi_cR (Or.inr (Or.inl ⟨rfl, (by decide +kernel), rfl⟩)) <|
  mi_cI (mi_iconst_ok (n := 0) (by decide) (by decide +kernel) rfl) <|
  mi_cR (Or.inr (Or.inl ⟨rfl, (by decide +kernel), rfl⟩)) <| mi_cN
set_option maxRecDepth 100000 in
theorem okW_L_out : mi_OkMW m_L_out := ⟨by decide, (mi_gd4 92 rfl rfl), (mi_gd1 0 rfl rfl), by decide, by decide, by decide⟩
set_option maxRecDepth 100000 in
theorem okH_L_out : ∀ pc ca, (pc, .inr (.inr (.inl ca))) ∈ t_L_out → mi_OkH RL cL_out 4 [(0, 9, 12, 13)] pc ca.2.2.2 := by
  intro pc ca h
  have h1 : (pc, ca) ∈ [(4, ((88, 2, some 6, [("java/lang/ArrayIndexOutOfBoundsException", 1)]) : mA))] := mi_cls_ok h
  simp only [List.mem_cons, List.not_mem_nil, or_false, Prod.mk.injEq] at h1
  obtain ⟨rfl, rfl⟩ := h1
  intro E k hk
  by_cases e0 : E = "java/lang/ArrayIndexOutOfBoundsException"
  · subst e0
    have hk0 : ([("java/lang/ArrayIndexOutOfBoundsException", 1)] : List (String × Int32)).lookup "java/lang/ArrayIndexOutOfBoundsException" = some 1 := by decide +kernel
    have hk1 : k = 1 := Option.some.inj (hk.symm.trans hk0)
    subst hk1
    refine ⟨[], ⟨0, 9, 12, 13⟩, [], 3, 1, 1, rfl, rfl, by decide, (mi_gd3 143 rfl rfl), mi_cst "java/lang/ArrayIndexOutOfBoundsException" (by decide +kernel), ?_, by decide, Or.inr ⟨rfl, 3, rfl, by decide +kernel⟩, by decide +kernel, by decide, by decide +kernel⟩
    exact fun z hz => absurd hz List.not_mem_nil
  exact absurd hk (by simp [List.lookup, show (E == "java/lang/ArrayIndexOutOfBoundsException") = false from by simpa using e0])
def mi_wr (y : Nat) : Bool := decide (148 ≤ y)
theorem mi_lI {pc : Nat} {f : mF} {t : mT} (h : mi_Ok RL cL_law 7 false pc f) (ht : ∀ q ∈ t, (∀ ca, q.2 = .inr (.inr (.inl ca)) → mi_wr ca.1 = false) → mi_OkE mi_ms RL cL_law 7 false (some .boolean) q) : ∀ q ∈ (pc, (.inl f : mE)) :: t, (∀ ca, q.2 = .inr (.inr (.inl ca)) → mi_wr ca.1 = false) → mi_OkE mi_ms RL cL_law 7 false (some .boolean) q := List.forall_mem_cons.mpr ⟨fun _ => h, ht⟩
theorem mi_lR {pc k : Nat} {t : mT} (h : mi_OkR (some .boolean) cL_law pc k) (ht : ∀ q ∈ t, (∀ ca, q.2 = .inr (.inr (.inl ca)) → mi_wr ca.1 = false) → mi_OkE mi_ms RL cL_law 7 false (some .boolean) q) : ∀ q ∈ (pc, (.inr (.inl k) : mE)) :: t, (∀ ca, q.2 = .inr (.inr (.inl ca)) → mi_wr ca.1 = false) → mi_OkE mi_ms RL cL_law 7 false (some .boolean) q := List.forall_mem_cons.mpr ⟨fun _ => h, ht⟩
theorem mi_lC {pc : Nat} {ca : mA} {t : mT} (h : mi_OkC mi_ms RL cL_law pc ca) (ht : ∀ q ∈ t, (∀ ca, q.2 = .inr (.inr (.inl ca)) → mi_wr ca.1 = false) → mi_OkE mi_ms RL cL_law 7 false (some .boolean) q) : ∀ q ∈ (pc, (.inr (.inr (.inl ca)) : mE)) :: t, (∀ ca, q.2 = .inr (.inr (.inl ca)) → mi_wr ca.1 = false) → mi_OkE mi_ms RL cL_law 7 false (some .boolean) q := List.forall_mem_cons.mpr ⟨fun _ => h, ht⟩
theorem mi_lW {pc : Nat} {ca : mA} {t : mT} (h : mi_wr ca.1 = true) (ht : ∀ q ∈ t, (∀ ca, q.2 = .inr (.inr (.inl ca)) → mi_wr ca.1 = false) → mi_OkE mi_ms RL cL_law 7 false (some .boolean) q) : ∀ q ∈ (pc, (.inr (.inr (.inl ca)) : mE)) :: t, (∀ ca, q.2 = .inr (.inr (.inl ca)) → mi_wr ca.1 = false) → mi_OkE mi_ms RL cL_law 7 false (some .boolean) q := List.forall_mem_cons.mpr ⟨fun h2 => absurd (h2 ca rfl) (by rw [h]; decide), ht⟩
set_option maxRecDepth 100000 in
set_option maxHeartbeats 8000000 in
theorem ok_L_law : ∀ q ∈ t_L_law, (∀ ca, q.2 = .inr (.inr (.inl ca)) → mi_wr ca.1 = false) → mi_OkE mi_ms RL cL_law 7 false (some .boolean) q :=
  mi_lI (mi_new_ok (index := 8) (by decide +kernel) cf_X6 (mi_gd1 18 rfl rfl) (mi_gd1 19 rfl rfl) (mi_gd1 1 rfl rfl) (by decide +kernel) (by decide +kernel) rfl) <|
  mi_lI (mi_dup_ok (by decide +kernel) rfl) <|
  mi_lC ⟨m_X6_init, rfl, okM_X6_init, 36, 0, by decide +kernel, Or.inr (Or.inl ⟨(by decide +kernel), rfl, (mi_gd1 20 rfl rfl), (mi_gd1 21 rfl rfl), rfl, rfl, 6, rfl⟩)⟩ <|
  mi_lI (mi_astore_n_ok (k := 1) (by decide +kernel) rfl (by decide) rfl) <|
  mi_lI (mi_new_ok (index := 37) (by decide +kernel) cf_X7 (mi_gd4 98 rfl rfl) (mi_gd4 99 rfl rfl) (mi_gd1 9 rfl rfl) (by decide +kernel) (by decide +kernel) rfl) <|
  mi_lI (mi_dup_ok (by decide +kernel) rfl) <|
  mi_lC ⟨m_X7_init, rfl, okM_X7_init, 39, 0, by decide +kernel, Or.inr (Or.inl ⟨(by decide +kernel), rfl, (mi_gd4 100 rfl rfl), (mi_gd4 101 rfl rfl), rfl, rfl, 7, rfl⟩)⟩ <|
  mi_lI (mi_astore_n_ok (k := 2) (by decide +kernel) rfl (by decide) rfl) <|
  mi_lI (mi_iconst_ok (n := 1) (by decide) (by decide +kernel) rfl) <|
  mi_lI (mi_newL_ok (by decide +kernel) (mi_gd5 200 rfl rfl) rfl) <|
  mi_lI (mi_astore_n_ok (k := 3) (by decide +kernel) rfl (by decide) rfl) <|
  mi_lI (mi_iconst_ok (n := 0) (by decide) (by decide +kernel) rfl) <|
  mi_lI (mi_istore_ok (by decide +kernel) (by decide) rfl) <|
  mi_lI (mi_iload_ok (by decide +kernel) rfl) <|
  mi_lI (mi_aload_n_ok (k := 0) (by decide +kernel) rfl rfl) <|
  mi_lI (mi_alen_ok (by decide +kernel) rfl) <|
  mi_lI (mi_iconst_ok (n := 4) (by decide) (by decide +kernel) rfl) <|
  mi_lI (mi_isub_ok (by decide +kernel) rfl) <|
  mi_lI (mi_icmp_gt_ok (off := 602) (by decide +kernel) (by decide) rfl) <|
  mi_lI (mi_aload_n_ok (k := 0) (by decide +kernel) rfl rfl) <|
  mi_lI (mi_iload_ok (by decide +kernel) rfl) <|
  mi_lI (mi_iald_ok (by decide +kernel) rfl) <|
  mi_lI (mi_bipush_ok (n := 15) (by decide) (by decide +kernel) rfl) <|
  mi_lI (mi_iand_ok (by decide +kernel) rfl) <|
  mi_lI (mi_tab_ok (dflt := 586) (offs := #[73, 142, 155, 180, 205, 218, 258, 295, 320, 360, 400, 452, 492, 505, 561]) (len := 73) (by decide +kernel) (by decide) (by decide) (by decide +kernel)) <|
  mi_lI (mi_aload_n_ok (k := 1) (by decide +kernel) rfl rfl) <|
  mi_lI (mi_aload_n_ok (k := 0) (by decide +kernel) rfl rfl) <|
  mi_lI (mi_iload_ok (by decide +kernel) rfl) <|
  mi_lI (mi_iconst_ok (n := 1) (by decide) (by decide +kernel) rfl) <|
  mi_lI (mi_iadd_ok (by decide +kernel) rfl) <|
  mi_lI (mi_iald_ok (by decide +kernel) rfl) <|
  mi_lI (mi_aload_n_ok (k := 0) (by decide +kernel) rfl rfl) <|
  mi_lI (mi_iload_ok (by decide +kernel) rfl) <|
  mi_lI (mi_iconst_ok (n := 2) (by decide) (by decide +kernel) rfl) <|
  mi_lI (mi_iadd_ok (by decide +kernel) rfl) <|
  mi_lI (mi_iald_ok (by decide +kernel) rfl) <|
  mi_lI (mi_i2l_ok (by decide +kernel) rfl) <|
  mi_lI (mi_bipush_ok (n := 32) (by decide) (by decide +kernel) rfl) <|
  mi_lI (mi_lshl_ok (by decide +kernel) rfl) <|
  mi_lI (mi_aload_n_ok (k := 0) (by decide +kernel) rfl rfl) <|
  mi_lI (mi_iload_ok (by decide +kernel) rfl) <|
  mi_lI (mi_iconst_ok (n := 3) (by decide) (by decide +kernel) rfl) <|
  mi_lI (mi_iadd_ok (by decide +kernel) rfl) <|
  mi_lI (mi_iald_ok (by decide +kernel) rfl) <|
  mi_lI (mi_i2l_ok (by decide +kernel) rfl) <|
  mi_lI (mi_ldc2_ok (index := 40) (by decide +kernel) (mi_gd5 199 rfl rfl) rfl) <|
  mi_lI (mi_land_ok (by decide +kernel) rfl) <|
  mi_lI (mi_lor_ok (by decide +kernel) rfl) <|
  mi_lC ⟨m_X6_feed, rfl, okM_X6_feed, 42, 2, by decide +kernel, Or.inl ⟨(by decide +kernel), rfl, (mi_gd2 47 rfl rfl), (mi_gd2 48 rfl rfl), (mi_gd2 49 rfl rfl), 6, _, _, rfl, rfl⟩⟩ <|
  mi_lI (mi_pop_ok (by decide +kernel) rfl) <|
  mi_lI (mi_aload_n_ok (k := 2) (by decide +kernel) rfl rfl) <|
  mi_lI (mi_aload_n_ok (k := 0) (by decide +kernel) rfl rfl) <|
  mi_lI (mi_iload_ok (by decide +kernel) rfl) <|
  mi_lI (mi_iconst_ok (n := 1) (by decide) (by decide +kernel) rfl) <|
  mi_lI (mi_iadd_ok (by decide +kernel) rfl) <|
  mi_lI (mi_iald_ok (by decide +kernel) rfl) <|
  mi_lI (mi_aload_n_ok (k := 0) (by decide +kernel) rfl rfl) <|
  mi_lI (mi_iload_ok (by decide +kernel) rfl) <|
  mi_lI (mi_iconst_ok (n := 2) (by decide) (by decide +kernel) rfl) <|
  mi_lI (mi_iadd_ok (by decide +kernel) rfl) <|
  mi_lI (mi_iald_ok (by decide +kernel) rfl) <|
  mi_lI (mi_i2l_ok (by decide +kernel) rfl) <|
  mi_lI (mi_bipush_ok (n := 32) (by decide) (by decide +kernel) rfl) <|
  mi_lI (mi_lshl_ok (by decide +kernel) rfl) <|
  mi_lI (mi_aload_n_ok (k := 0) (by decide +kernel) rfl rfl) <|
  mi_lI (mi_iload_ok (by decide +kernel) rfl) <|
  mi_lI (mi_iconst_ok (n := 3) (by decide) (by decide +kernel) rfl) <|
  mi_lI (mi_iadd_ok (by decide +kernel) rfl) <|
  mi_lI (mi_iald_ok (by decide +kernel) rfl) <|
  mi_lI (mi_i2l_ok (by decide +kernel) rfl) <|
  mi_lI (mi_ldc2_ok (index := 40) (by decide +kernel) (mi_gd5 199 rfl rfl) rfl) <|
  mi_lI (mi_land_ok (by decide +kernel) rfl) <|
  mi_lI (mi_lor_ok (by decide +kernel) rfl) <|
  mi_lC ⟨m_X7_feed, rfl, okM_X7_feed, 46, 2, by decide +kernel, Or.inl ⟨(by decide +kernel), rfl, (mi_gd4 235 rfl rfl), (mi_gd4 236 rfl rfl), (mi_gd4 237 rfl rfl), 7, _, _, rfl, rfl⟩⟩ <|
  mi_lI (mi_pop_ok (by decide +kernel) rfl) <|
  mi_lI (mi_goto_ok (off := 447) (by decide +kernel) (by decide)) <|
  mi_lI (mi_aload_n_ok (k := 1) (by decide +kernel) rfl rfl) <|
  mi_lC ⟨m_X6_read, rfl, okM_X6_read, 47, 0, by decide +kernel, Or.inl ⟨(by decide +kernel), rfl, (mi_gd2 56 rfl rfl), (mi_gd2 57 rfl rfl), (mi_gd2 58 rfl rfl), 6, _, _, rfl, rfl⟩⟩ <|
  mi_lI (mi_pop_ok (by decide +kernel) rfl) <|
  mi_lI (mi_aload_n_ok (k := 2) (by decide +kernel) rfl rfl) <|
  mi_lC ⟨m_X7_read, rfl, okM_X7_read, 51, 0, by decide +kernel, Or.inl ⟨(by decide +kernel), rfl, (mi_gd5 2 rfl rfl), (mi_gd5 3 rfl rfl), (mi_gd5 4 rfl rfl), 7, _, _, rfl, rfl⟩⟩ <|
  mi_lI (mi_pop_ok (by decide +kernel) rfl) <|
  mi_lI (mi_goto_ok (off := 434) (by decide +kernel) (by decide)) <|
  mi_lI (mi_aload_n_ok (k := 1) (by decide +kernel) rfl rfl) <|
  mi_lI (mi_aload_n_ok (k := 0) (by decide +kernel) rfl rfl) <|
  mi_lI (mi_iload_ok (by decide +kernel) rfl) <|
  mi_lI (mi_iconst_ok (n := 1) (by decide) (by decide +kernel) rfl) <|
  mi_lI (mi_iadd_ok (by decide +kernel) rfl) <|
  mi_lI (mi_iald_ok (by decide +kernel) rfl) <|
  mi_lC ⟨m_X6_fault, rfl, okM_X6_fault, 52, 1, by decide +kernel, Or.inl ⟨(by decide +kernel), rfl, (mi_gd3 43 rfl rfl), (mi_gd3 44 rfl rfl), (mi_gd3 45 rfl rfl), 6, _, _, rfl, rfl⟩⟩ <|
  mi_lI (mi_pop_ok (by decide +kernel) rfl) <|
  mi_lI (mi_aload_n_ok (k := 2) (by decide +kernel) rfl rfl) <|
  mi_lI (mi_aload_n_ok (k := 0) (by decide +kernel) rfl rfl) <|
  mi_lI (mi_iload_ok (by decide +kernel) rfl) <|
  mi_lI (mi_iconst_ok (n := 1) (by decide) (by decide +kernel) rfl) <|
  mi_lI (mi_iadd_ok (by decide +kernel) rfl) <|
  mi_lI (mi_iald_ok (by decide +kernel) rfl) <|
  mi_lC ⟨m_X7_fault, rfl, okM_X7_fault, 55, 1, by decide +kernel, Or.inl ⟨(by decide +kernel), rfl, (mi_gd5 123 rfl rfl), (mi_gd5 124 rfl rfl), (mi_gd5 125 rfl rfl), 7, _, _, rfl, rfl⟩⟩ <|
  mi_lI (mi_pop_ok (by decide +kernel) rfl) <|
  mi_lI (mi_goto_ok (off := 409) (by decide +kernel) (by decide)) <|
  mi_lI (mi_aload_n_ok (k := 1) (by decide +kernel) rfl rfl) <|
  mi_lI (mi_aload_n_ok (k := 0) (by decide +kernel) rfl rfl) <|
  mi_lI (mi_iload_ok (by decide +kernel) rfl) <|
  mi_lI (mi_iconst_ok (n := 1) (by decide) (by decide +kernel) rfl) <|
  mi_lI (mi_iadd_ok (by decide +kernel) rfl) <|
  mi_lI (mi_iald_ok (by decide +kernel) rfl) <|
  mi_lC ⟨m_X6_manner, rfl, okM_X6_manner, 56, 1, by decide +kernel, Or.inl ⟨(by decide +kernel), rfl, (mi_gd3 47 rfl rfl), (mi_gd3 48 rfl rfl), (mi_gd3 49 rfl rfl), 6, _, _, rfl, rfl⟩⟩ <|
  mi_lI (mi_pop_ok (by decide +kernel) rfl) <|
  mi_lI (mi_aload_n_ok (k := 2) (by decide +kernel) rfl rfl) <|
  mi_lI (mi_aload_n_ok (k := 0) (by decide +kernel) rfl rfl) <|
  mi_lI (mi_iload_ok (by decide +kernel) rfl) <|
  mi_lI (mi_iconst_ok (n := 1) (by decide) (by decide +kernel) rfl) <|
  mi_lI (mi_iadd_ok (by decide +kernel) rfl) <|
  mi_lI (mi_iald_ok (by decide +kernel) rfl) <|
  mi_lC ⟨m_X7_manner, rfl, okM_X7_manner, 59, 1, by decide +kernel, Or.inl ⟨(by decide +kernel), rfl, (mi_gd5 127 rfl rfl), (mi_gd5 128 rfl rfl), (mi_gd5 129 rfl rfl), 7, _, _, rfl, rfl⟩⟩ <|
  mi_lI (mi_pop_ok (by decide +kernel) rfl) <|
  mi_lI (mi_goto_ok (off := 384) (by decide +kernel) (by decide)) <|
  mi_lI (mi_aload_n_ok (k := 1) (by decide +kernel) rfl rfl) <|
  mi_lC ⟨m_X6_find, rfl, okM_X6_find, 60, 0, by decide +kernel, Or.inl ⟨(by decide +kernel), rfl, (mi_gd3 51 rfl rfl), (mi_gd3 52 rfl rfl), (mi_gd3 53 rfl rfl), 6, _, _, rfl, rfl⟩⟩ <|
  mi_lI (mi_pop_ok (by decide +kernel) rfl) <|
  mi_lI (mi_aload_n_ok (k := 2) (by decide +kernel) rfl rfl) <|
  mi_lC ⟨m_X7_find, rfl, okM_X7_find, 63, 0, by decide +kernel, Or.inl ⟨(by decide +kernel), rfl, (mi_gd5 131 rfl rfl), (mi_gd5 132 rfl rfl), (mi_gd5 133 rfl rfl), 7, _, _, rfl, rfl⟩⟩ <|
  mi_lI (mi_pop_ok (by decide +kernel) rfl) <|
  mi_lI (mi_goto_ok (off := 371) (by decide +kernel) (by decide)) <|
  mi_lI (mi_aload_n_ok (k := 1) (by decide +kernel) rfl rfl) <|
  mi_lI (mi_aload_n_ok (k := 0) (by decide +kernel) rfl rfl) <|
  mi_lI (mi_iload_ok (by decide +kernel) rfl) <|
  mi_lI (mi_iconst_ok (n := 1) (by decide) (by decide +kernel) rfl) <|
  mi_lI (mi_iadd_ok (by decide +kernel) rfl) <|
  mi_lI (mi_iald_ok (by decide +kernel) rfl) <|
  mi_lI (mi_aload_n_ok (k := 0) (by decide +kernel) rfl rfl) <|
  mi_lI (mi_iload_ok (by decide +kernel) rfl) <|
  mi_lI (mi_iconst_ok (n := 2) (by decide) (by decide +kernel) rfl) <|
  mi_lI (mi_iadd_ok (by decide +kernel) rfl) <|
  mi_lI (mi_iald_ok (by decide +kernel) rfl) <|
  mi_lI (mi_aload_n_ok (k := 3) (by decide +kernel) rfl rfl) <|
  mi_lW (by decide) <|
  mi_lI (mi_istore_ok (by decide +kernel) (by decide) rfl) <|
  mi_lI (mi_aload_n_ok (k := 2) (by decide +kernel) rfl rfl) <|
  mi_lI (mi_aload_n_ok (k := 0) (by decide +kernel) rfl rfl) <|
  mi_lI (mi_iload_ok (by decide +kernel) rfl) <|
  mi_lI (mi_iconst_ok (n := 1) (by decide) (by decide +kernel) rfl) <|
  mi_lI (mi_iadd_ok (by decide +kernel) rfl) <|
  mi_lI (mi_iald_ok (by decide +kernel) rfl) <|
  mi_lI (mi_aload_n_ok (k := 0) (by decide +kernel) rfl rfl) <|
  mi_lI (mi_iload_ok (by decide +kernel) rfl) <|
  mi_lI (mi_iconst_ok (n := 2) (by decide) (by decide +kernel) rfl) <|
  mi_lI (mi_iadd_ok (by decide +kernel) rfl) <|
  mi_lI (mi_iald_ok (by decide +kernel) rfl) <|
  mi_lC ⟨m_X7_node, rfl, okM_X7_node, 69, 2, by decide +kernel, Or.inl ⟨(by decide +kernel), rfl, (mi_gd5 135 rfl rfl), (mi_gd5 136 rfl rfl), (mi_gd5 137 rfl rfl), 7, _, _, rfl, rfl⟩⟩ <|
  mi_lI (mi_istore_ok (by decide +kernel) (by decide) rfl) <|
  mi_lI (mi_goto_ok (off := 331) (by decide +kernel) (by decide)) <|
  mi_lI (mi_aload_n_ok (k := 1) (by decide +kernel) rfl rfl) <|
  mi_lI (mi_aload_n_ok (k := 0) (by decide +kernel) rfl rfl) <|
  mi_lI (mi_iload_ok (by decide +kernel) rfl) <|
  mi_lI (mi_iconst_ok (n := 1) (by decide) (by decide +kernel) rfl) <|
  mi_lI (mi_iadd_ok (by decide +kernel) rfl) <|
  mi_lI (mi_iald_ok (by decide +kernel) rfl) <|
  mi_lI (mi_aload_n_ok (k := 0) (by decide +kernel) rfl rfl) <|
  mi_lI (mi_iload_ok (by decide +kernel) rfl) <|
  mi_lI (mi_iconst_ok (n := 2) (by decide) (by decide +kernel) rfl) <|
  mi_lI (mi_iadd_ok (by decide +kernel) rfl) <|
  mi_lI (mi_iald_ok (by decide +kernel) rfl) <|
  mi_lC ⟨m_X6_arc, rfl, okM_X6_arc, 70, 2, by decide +kernel, Or.inl ⟨(by decide +kernel), rfl, (mi_gd3 56 rfl rfl), (mi_gd3 57 rfl rfl), (mi_gd3 58 rfl rfl), 6, _, _, rfl, rfl⟩⟩ <|
  mi_lI (mi_pop_ok (by decide +kernel) rfl) <|
  mi_lI (mi_aload_n_ok (k := 2) (by decide +kernel) rfl rfl) <|
  mi_lI (mi_aload_n_ok (k := 0) (by decide +kernel) rfl rfl) <|
  mi_lI (mi_iload_ok (by decide +kernel) rfl) <|
  mi_lI (mi_iconst_ok (n := 1) (by decide) (by decide +kernel) rfl) <|
  mi_lI (mi_iadd_ok (by decide +kernel) rfl) <|
  mi_lI (mi_iald_ok (by decide +kernel) rfl) <|
  mi_lI (mi_aload_n_ok (k := 0) (by decide +kernel) rfl rfl) <|
  mi_lI (mi_iload_ok (by decide +kernel) rfl) <|
  mi_lI (mi_iconst_ok (n := 2) (by decide) (by decide +kernel) rfl) <|
  mi_lI (mi_iadd_ok (by decide +kernel) rfl) <|
  mi_lI (mi_iald_ok (by decide +kernel) rfl) <|
  mi_lC ⟨m_X7_arc, rfl, okM_X7_arc, 73, 2, by decide +kernel, Or.inl ⟨(by decide +kernel), rfl, (mi_gd5 139 rfl rfl), (mi_gd5 140 rfl rfl), (mi_gd5 141 rfl rfl), 7, _, _, rfl, rfl⟩⟩ <|
  mi_lI (mi_pop_ok (by decide +kernel) rfl) <|
  mi_lI (mi_goto_ok (off := 294) (by decide +kernel) (by decide)) <|
  mi_lI (mi_aload_n_ok (k := 1) (by decide +kernel) rfl rfl) <|
  mi_lI (mi_aload_n_ok (k := 0) (by decide +kernel) rfl rfl) <|
  mi_lI (mi_iload_ok (by decide +kernel) rfl) <|
  mi_lI (mi_iconst_ok (n := 1) (by decide) (by decide +kernel) rfl) <|
  mi_lI (mi_iadd_ok (by decide +kernel) rfl) <|
  mi_lI (mi_iald_ok (by decide +kernel) rfl) <|
  mi_lC ⟨m_X6_kind, rfl, okM_X6_kind, 74, 1, by decide +kernel, Or.inl ⟨(by decide +kernel), rfl, (mi_gd3 69 rfl rfl), (mi_gd3 70 rfl rfl), (mi_gd3 71 rfl rfl), 6, _, _, rfl, rfl⟩⟩ <|
  mi_lI (mi_pop_ok (by decide +kernel) rfl) <|
  mi_lI (mi_aload_n_ok (k := 2) (by decide +kernel) rfl rfl) <|
  mi_lI (mi_aload_n_ok (k := 0) (by decide +kernel) rfl rfl) <|
  mi_lI (mi_iload_ok (by decide +kernel) rfl) <|
  mi_lI (mi_iconst_ok (n := 1) (by decide) (by decide +kernel) rfl) <|
  mi_lI (mi_iadd_ok (by decide +kernel) rfl) <|
  mi_lI (mi_iald_ok (by decide +kernel) rfl) <|
  mi_lC ⟨m_X7_kind, rfl, okM_X7_kind, 77, 1, by decide +kernel, Or.inl ⟨(by decide +kernel), rfl, (mi_gd5 143 rfl rfl), (mi_gd5 144 rfl rfl), (mi_gd5 145 rfl rfl), 7, _, _, rfl, rfl⟩⟩ <|
  mi_lI (mi_pop_ok (by decide +kernel) rfl) <|
  mi_lI (mi_goto_ok (off := 269) (by decide +kernel) (by decide)) <|
  mi_lI (mi_aload_n_ok (k := 1) (by decide +kernel) rfl rfl) <|
  mi_lI (mi_aload_n_ok (k := 0) (by decide +kernel) rfl rfl) <|
  mi_lI (mi_iload_ok (by decide +kernel) rfl) <|
  mi_lI (mi_iconst_ok (n := 1) (by decide) (by decide +kernel) rfl) <|
  mi_lI (mi_iadd_ok (by decide +kernel) rfl) <|
  mi_lI (mi_iald_ok (by decide +kernel) rfl) <|
  mi_lI (mi_aload_n_ok (k := 0) (by decide +kernel) rfl rfl) <|
  mi_lI (mi_iload_ok (by decide +kernel) rfl) <|
  mi_lI (mi_iconst_ok (n := 2) (by decide) (by decide +kernel) rfl) <|
  mi_lI (mi_iadd_ok (by decide +kernel) rfl) <|
  mi_lI (mi_iald_ok (by decide +kernel) rfl) <|
  mi_lI (mi_aload_n_ok (k := 3) (by decide +kernel) rfl rfl) <|
  mi_lW (by decide) <|
  mi_lI (mi_istore_ok (by decide +kernel) (by decide) rfl) <|
  mi_lI (mi_aload_n_ok (k := 2) (by decide +kernel) rfl rfl) <|
  mi_lI (mi_aload_n_ok (k := 0) (by decide +kernel) rfl rfl) <|
  mi_lI (mi_iload_ok (by decide +kernel) rfl) <|
  mi_lI (mi_iconst_ok (n := 1) (by decide) (by decide +kernel) rfl) <|
  mi_lI (mi_iadd_ok (by decide +kernel) rfl) <|
  mi_lI (mi_iald_ok (by decide +kernel) rfl) <|
  mi_lI (mi_aload_n_ok (k := 0) (by decide +kernel) rfl rfl) <|
  mi_lI (mi_iload_ok (by decide +kernel) rfl) <|
  mi_lI (mi_iconst_ok (n := 2) (by decide) (by decide +kernel) rfl) <|
  mi_lI (mi_iadd_ok (by decide +kernel) rfl) <|
  mi_lI (mi_iald_ok (by decide +kernel) rfl) <|
  mi_lC ⟨m_X7_head, rfl, okM_X7_head, 80, 2, by decide +kernel, Or.inl ⟨(by decide +kernel), rfl, (mi_gd5 151 rfl rfl), (mi_gd5 152 rfl rfl), (mi_gd5 153 rfl rfl), 7, _, _, rfl, rfl⟩⟩ <|
  mi_lI (mi_istore_ok (by decide +kernel) (by decide) rfl) <|
  mi_lI (mi_goto_ok (off := 229) (by decide +kernel) (by decide)) <|
  mi_lI (mi_aload_n_ok (k := 1) (by decide +kernel) rfl rfl) <|
  mi_lI (mi_aload_n_ok (k := 0) (by decide +kernel) rfl rfl) <|
  mi_lI (mi_iload_ok (by decide +kernel) rfl) <|
  mi_lI (mi_iconst_ok (n := 1) (by decide) (by decide +kernel) rfl) <|
  mi_lI (mi_iadd_ok (by decide +kernel) rfl) <|
  mi_lI (mi_iald_ok (by decide +kernel) rfl) <|
  mi_lI (mi_aload_n_ok (k := 0) (by decide +kernel) rfl rfl) <|
  mi_lI (mi_iload_ok (by decide +kernel) rfl) <|
  mi_lI (mi_iconst_ok (n := 2) (by decide) (by decide +kernel) rfl) <|
  mi_lI (mi_iadd_ok (by decide +kernel) rfl) <|
  mi_lI (mi_iald_ok (by decide +kernel) rfl) <|
  mi_lI (mi_aload_n_ok (k := 3) (by decide +kernel) rfl rfl) <|
  mi_lW (by decide) <|
  mi_lI (mi_istore_ok (by decide +kernel) (by decide) rfl) <|
  mi_lI (mi_aload_n_ok (k := 2) (by decide +kernel) rfl rfl) <|
  mi_lI (mi_aload_n_ok (k := 0) (by decide +kernel) rfl rfl) <|
  mi_lI (mi_iload_ok (by decide +kernel) rfl) <|
  mi_lI (mi_iconst_ok (n := 1) (by decide) (by decide +kernel) rfl) <|
  mi_lI (mi_iadd_ok (by decide +kernel) rfl) <|
  mi_lI (mi_iald_ok (by decide +kernel) rfl) <|
  mi_lI (mi_aload_n_ok (k := 0) (by decide +kernel) rfl rfl) <|
  mi_lI (mi_iload_ok (by decide +kernel) rfl) <|
  mi_lI (mi_iconst_ok (n := 2) (by decide) (by decide +kernel) rfl) <|
  mi_lI (mi_iadd_ok (by decide +kernel) rfl) <|
  mi_lI (mi_iald_ok (by decide +kernel) rfl) <|
  mi_lC ⟨m_X7_value, rfl, okM_X7_value, 83, 2, by decide +kernel, Or.inl ⟨(by decide +kernel), rfl, (mi_gd5 155 rfl rfl), (mi_gd5 156 rfl rfl), (mi_gd5 157 rfl rfl), 7, _, _, rfl, rfl⟩⟩ <|
  mi_lI (mi_istore_ok (by decide +kernel) (by decide) rfl) <|
  mi_lI (mi_goto_ok (off := 189) (by decide +kernel) (by decide)) <|
  mi_lI (mi_aload_n_ok (k := 1) (by decide +kernel) rfl rfl) <|
  mi_lI (mi_aload_n_ok (k := 0) (by decide +kernel) rfl rfl) <|
  mi_lI (mi_iload_ok (by decide +kernel) rfl) <|
  mi_lI (mi_iconst_ok (n := 1) (by decide) (by decide +kernel) rfl) <|
  mi_lI (mi_iadd_ok (by decide +kernel) rfl) <|
  mi_lI (mi_iald_ok (by decide +kernel) rfl) <|
  mi_lI (mi_aload_n_ok (k := 0) (by decide +kernel) rfl rfl) <|
  mi_lI (mi_iload_ok (by decide +kernel) rfl) <|
  mi_lI (mi_iconst_ok (n := 2) (by decide) (by decide +kernel) rfl) <|
  mi_lI (mi_iadd_ok (by decide +kernel) rfl) <|
  mi_lI (mi_iald_ok (by decide +kernel) rfl) <|
  mi_lI (mi_aload_n_ok (k := 0) (by decide +kernel) rfl rfl) <|
  mi_lI (mi_iload_ok (by decide +kernel) rfl) <|
  mi_lI (mi_iconst_ok (n := 3) (by decide) (by decide +kernel) rfl) <|
  mi_lI (mi_iadd_ok (by decide +kernel) rfl) <|
  mi_lI (mi_iald_ok (by decide +kernel) rfl) <|
  mi_lI (mi_aload_n_ok (k := 3) (by decide +kernel) rfl rfl) <|
  mi_lW (by decide) <|
  mi_lI (mi_istore_ok (by decide +kernel) (by decide) rfl) <|
  mi_lI (mi_aload_n_ok (k := 2) (by decide +kernel) rfl rfl) <|
  mi_lI (mi_aload_n_ok (k := 0) (by decide +kernel) rfl rfl) <|
  mi_lI (mi_iload_ok (by decide +kernel) rfl) <|
  mi_lI (mi_iconst_ok (n := 1) (by decide) (by decide +kernel) rfl) <|
  mi_lI (mi_iadd_ok (by decide +kernel) rfl) <|
  mi_lI (mi_iald_ok (by decide +kernel) rfl) <|
  mi_lI (mi_aload_n_ok (k := 0) (by decide +kernel) rfl rfl) <|
  mi_lI (mi_iload_ok (by decide +kernel) rfl) <|
  mi_lI (mi_iconst_ok (n := 2) (by decide) (by decide +kernel) rfl) <|
  mi_lI (mi_iadd_ok (by decide +kernel) rfl) <|
  mi_lI (mi_iald_ok (by decide +kernel) rfl) <|
  mi_lI (mi_aload_n_ok (k := 0) (by decide +kernel) rfl rfl) <|
  mi_lI (mi_iload_ok (by decide +kernel) rfl) <|
  mi_lI (mi_iconst_ok (n := 3) (by decide) (by decide +kernel) rfl) <|
  mi_lI (mi_iadd_ok (by decide +kernel) rfl) <|
  mi_lI (mi_iald_ok (by decide +kernel) rfl) <|
  mi_lC ⟨m_X7_sign_, rfl, okM_X7_sign_, 87, 3, by decide +kernel, Or.inl ⟨(by decide +kernel), rfl, (mi_gd5 159 rfl rfl), (mi_gd5 160 rfl rfl), (mi_gd5 161 rfl rfl), 7, _, _, rfl, rfl⟩⟩ <|
  mi_lI (mi_istore_ok (by decide +kernel) (by decide) rfl) <|
  mi_lI (mi_goto_ok (off := 137) (by decide +kernel) (by decide)) <|
  mi_lI (mi_aload_n_ok (k := 1) (by decide +kernel) rfl rfl) <|
  mi_lI (mi_aload_n_ok (k := 0) (by decide +kernel) rfl rfl) <|
  mi_lI (mi_iload_ok (by decide +kernel) rfl) <|
  mi_lI (mi_iconst_ok (n := 1) (by decide) (by decide +kernel) rfl) <|
  mi_lI (mi_iadd_ok (by decide +kernel) rfl) <|
  mi_lI (mi_iald_ok (by decide +kernel) rfl) <|
  mi_lI (mi_aload_n_ok (k := 0) (by decide +kernel) rfl rfl) <|
  mi_lI (mi_iload_ok (by decide +kernel) rfl) <|
  mi_lI (mi_iconst_ok (n := 2) (by decide) (by decide +kernel) rfl) <|
  mi_lI (mi_iadd_ok (by decide +kernel) rfl) <|
  mi_lI (mi_iald_ok (by decide +kernel) rfl) <|
  mi_lI (mi_aload_n_ok (k := 3) (by decide +kernel) rfl rfl) <|
  mi_lW (by decide) <|
  mi_lI (mi_istore_ok (by decide +kernel) (by decide) rfl) <|
  mi_lI (mi_aload_n_ok (k := 2) (by decide +kernel) rfl rfl) <|
  mi_lI (mi_aload_n_ok (k := 0) (by decide +kernel) rfl rfl) <|
  mi_lI (mi_iload_ok (by decide +kernel) rfl) <|
  mi_lI (mi_iconst_ok (n := 1) (by decide) (by decide +kernel) rfl) <|
  mi_lI (mi_iadd_ok (by decide +kernel) rfl) <|
  mi_lI (mi_iald_ok (by decide +kernel) rfl) <|
  mi_lI (mi_aload_n_ok (k := 0) (by decide +kernel) rfl rfl) <|
  mi_lI (mi_iload_ok (by decide +kernel) rfl) <|
  mi_lI (mi_iconst_ok (n := 2) (by decide) (by decide +kernel) rfl) <|
  mi_lI (mi_iadd_ok (by decide +kernel) rfl) <|
  mi_lI (mi_iald_ok (by decide +kernel) rfl) <|
  mi_lC ⟨m_X7_comment, rfl, okM_X7_comment, 90, 2, by decide +kernel, Or.inl ⟨(by decide +kernel), rfl, (mi_gd5 163 rfl rfl), (mi_gd5 164 rfl rfl), (mi_gd5 165 rfl rfl), 7, _, _, rfl, rfl⟩⟩ <|
  mi_lI (mi_istore_ok (by decide +kernel) (by decide) rfl) <|
  mi_lI (mi_goto_ok (off := 97) (by decide +kernel) (by decide)) <|
  mi_lI (mi_aload_n_ok (k := 1) (by decide +kernel) rfl rfl) <|
  mi_lC ⟨m_X6_print, rfl, okM_X6_print, 91, 0, by decide +kernel, Or.inl ⟨(by decide +kernel), rfl, (mi_gd3 73 rfl rfl), (mi_gd3 74 rfl rfl), (mi_gd3 75 rfl rfl), 6, _, _, rfl, rfl⟩⟩ <|
  mi_lI (mi_pop_ok (by decide +kernel) rfl) <|
  mi_lI (mi_aload_n_ok (k := 2) (by decide +kernel) rfl rfl) <|
  mi_lC ⟨m_X7_print, rfl, okM_X7_print, 94, 0, by decide +kernel, Or.inl ⟨(by decide +kernel), rfl, (mi_gd5 167 rfl rfl), (mi_gd5 168 rfl rfl), (mi_gd5 169 rfl rfl), 7, _, _, rfl, rfl⟩⟩ <|
  mi_lI (mi_pop_ok (by decide +kernel) rfl) <|
  mi_lI (mi_goto_ok (off := 84) (by decide +kernel) (by decide)) <|
  mi_lI (mi_aload_n_ok (k := 1) (by decide +kernel) rfl rfl) <|
  mi_lI (mi_aload_n_ok (k := 0) (by decide +kernel) rfl rfl) <|
  mi_lI (mi_iload_ok (by decide +kernel) rfl) <|
  mi_lI (mi_iconst_ok (n := 1) (by decide) (by decide +kernel) rfl) <|
  mi_lI (mi_iadd_ok (by decide +kernel) rfl) <|
  mi_lI (mi_iald_ok (by decide +kernel) rfl) <|
  mi_lI (mi_aload_n_ok (k := 3) (by decide +kernel) rfl rfl) <|
  mi_lW (by decide) <|
  mi_lI (mi_istore_ok (by decide +kernel) (by decide) rfl) <|
  mi_lI (mi_aload_n_ok (k := 2) (by decide +kernel) rfl rfl) <|
  mi_lI (mi_aload_n_ok (k := 0) (by decide +kernel) rfl rfl) <|
  mi_lI (mi_iload_ok (by decide +kernel) rfl) <|
  mi_lI (mi_iconst_ok (n := 1) (by decide) (by decide +kernel) rfl) <|
  mi_lI (mi_iadd_ok (by decide +kernel) rfl) <|
  mi_lI (mi_iald_ok (by decide +kernel) rfl) <|
  mi_lC ⟨m_X7_out, rfl, okM_X7_out, 98, 1, by decide +kernel, Or.inl ⟨(by decide +kernel), rfl, (mi_gd5 191 rfl rfl), (mi_gd5 192 rfl rfl), (mi_gd5 193 rfl rfl), 7, _, _, rfl, rfl⟩⟩ <|
  mi_lI (mi_istore_ok (by decide +kernel) (by decide) rfl) <|
  mi_lI (mi_aload_n_ok (k := 2) (by decide +kernel) rfl rfl) <|
  mi_lC ⟨m_X7_thrown, rfl, okM_X7_thrown, 99, 0, by decide +kernel, Or.inl ⟨(by decide +kernel), rfl, (mi_gd4 231 rfl rfl), (mi_gd4 232 rfl rfl), (mi_gd4 233 rfl rfl), 7, _, _, rfl, rfl⟩⟩ <|
  mi_lI (mi_iload_ok (by decide +kernel) rfl) <|
  mi_lI (mi_icmp_eq_ok (off := 5) (by decide +kernel) (by decide) rfl) <|
  mi_lI (mi_iconst_ok (n := 0) (by decide) (by decide +kernel) rfl) <|
  mi_lR (Or.inr (Or.inr (Or.inl ⟨rfl, (by decide +kernel), rfl⟩))) <|
  mi_lI (mi_iload_ok (by decide +kernel) rfl) <|
  mi_lI (mi_if_ne_ok (off := 15) (by decide +kernel) (by decide) rfl) <|
  mi_lI (mi_aload_n_ok (k := 3) (by decide +kernel) rfl rfl) <|
  mi_lI (mi_iconst_ok (n := 0) (by decide) (by decide +kernel) rfl) <|
  mi_lI (mi_lald_ok (by decide +kernel) rfl) <|
  mi_lI (mi_iload_ok (by decide +kernel) rfl) <|
  mi_lI (mi_i2l_ok (by decide +kernel) rfl) <|
  mi_lI (mi_lcmp_ok (by decide +kernel) rfl) <|
  mi_lI (mi_if_eq_ok (off := 5) (by decide +kernel) (by decide) rfl) <|
  mi_lI (mi_iconst_ok (n := 0) (by decide) (by decide +kernel) rfl) <|
  mi_lR (Or.inr (Or.inr (Or.inl ⟨rfl, (by decide +kernel), rfl⟩))) <|
  mi_lI (mi_goto_ok (off := 28) (by decide +kernel) (by decide)) <|
  mi_lI (mi_aload_n_ok (k := 1) (by decide +kernel) rfl rfl) <|
  mi_lI (mi_aload_n_ok (k := 0) (by decide +kernel) rfl rfl) <|
  mi_lI (mi_iload_ok (by decide +kernel) rfl) <|
  mi_lI (mi_iconst_ok (n := 1) (by decide) (by decide +kernel) rfl) <|
  mi_lI (mi_iadd_ok (by decide +kernel) rfl) <|
  mi_lI (mi_iald_ok (by decide +kernel) rfl) <|
  mi_lC ⟨m_X6_about, rfl, okM_X6_about, 102, 1, by decide +kernel, Or.inl ⟨(by decide +kernel), rfl, (mi_gd3 136 rfl rfl), (mi_gd3 137 rfl rfl), (mi_gd3 138 rfl rfl), 6, _, _, rfl, rfl⟩⟩ <|
  mi_lI (mi_pop_ok (by decide +kernel) rfl) <|
  mi_lI (mi_aload_n_ok (k := 2) (by decide +kernel) rfl rfl) <|
  mi_lI (mi_aload_n_ok (k := 0) (by decide +kernel) rfl rfl) <|
  mi_lI (mi_iload_ok (by decide +kernel) rfl) <|
  mi_lI (mi_iconst_ok (n := 1) (by decide) (by decide +kernel) rfl) <|
  mi_lI (mi_iadd_ok (by decide +kernel) rfl) <|
  mi_lI (mi_iald_ok (by decide +kernel) rfl) <|
  mi_lC ⟨m_X7_about, rfl, okM_X7_about, 105, 1, by decide +kernel, Or.inl ⟨(by decide +kernel), rfl, (mi_gd5 195 rfl rfl), (mi_gd5 196 rfl rfl), (mi_gd5 197 rfl rfl), 7, _, _, rfl, rfl⟩⟩ <|
  mi_lI (mi_pop_ok (by decide +kernel) rfl) <|
  mi_lI (mi_goto_ok (off := 3) (by decide +kernel) (by decide)) <|
  mi_lI (mi_inc_ok (by decide +kernel) (by decide) rfl) <|
  mi_lI (mi_goto_ok (off := (-605)) (by decide +kernel) (by decide)) <|
  mi_lI (mi_iconst_ok (n := 1) (by decide) (by decide +kernel) rfl) <|
  mi_lR (Or.inr (Or.inr (Or.inl ⟨rfl, (by decide +kernel), rfl⟩))) <| fun _ h => absurd h List.not_mem_nil
set_option maxRecDepth 100000 in
theorem okV_L_node : mi_OkV RL cL_law 271 m_L_node 4 := ⟨64, by decide +kernel, (mi_gd3 140 rfl rfl), (mi_gd3 141 rfl rfl), by decide +kernel⟩
set_option maxRecDepth 100000 in
theorem okV_L_head : mi_OkV RL cL_law 373 m_L_head 4 := ⟨78, by decide +kernel, (mi_gd4 5 rfl rfl), (mi_gd4 6 rfl rfl), by decide +kernel⟩
set_option maxRecDepth 100000 in
theorem okV_L_value : mi_OkV RL cL_law 413 m_L_value 4 := ⟨81, by decide +kernel, (mi_gd4 12 rfl rfl), (mi_gd4 13 rfl rfl), by decide +kernel⟩
set_option maxRecDepth 100000 in
theorem okV_L_sign : mi_OkV RL cL_law 459 m_L_sign 5 := ⟨84, by decide +kernel, (mi_gd4 75 rfl rfl), (mi_gd4 76 rfl rfl), by decide +kernel⟩
set_option maxRecDepth 100000 in
theorem okV_L_comment : mi_OkV RL cL_law 505 m_L_comment 4 := ⟨88, by decide +kernel, (mi_gd4 83 rfl rfl), (mi_gd4 84 rfl rfl), by decide +kernel⟩
set_option maxRecDepth 100000 in
theorem okV_L_out : mi_OkV RL cL_law 552 m_L_out 3 := ⟨95, by decide +kernel, (mi_gd4 90 rfl rfl), (mi_gd4 91 rfl rfl), by decide +kernel⟩
end MJB
