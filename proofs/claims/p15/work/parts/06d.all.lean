section MJA
def mi_nohs (t : mT) : Bool := t.all (fun q => match q.2 with
  | .inr (.inr (.inl ca)) => ca.2.2.2.isEmpty
  | _ => true)
theorem mi_nohs_ok {t : mT} (h : mi_nohs t = true) (pc : Nat) (ca : mA) (hm : (pc, .inr (.inr (.inl ca))) ∈ t) : ca.2.2.2 = [] := by
  have h1 := List.all_eq_true.mp h _ hm
  simpa using h1
theorem ob_X0_init : mi_OkB mi_ms m_X0_init := ⟨true, (fun _ => rfl), ok_X0_init, mi_nohs_ok (t := t_X0_init) rfl⟩
theorem ob_X0_start : mi_OkB mi_ms m_X0_start := ⟨false, (fun h => by cases h), ok_X0_start, mi_nohs_ok (t := t_X0_start) rfl⟩
theorem ob_X0_hasLine : mi_OkB mi_ms m_X0_hasLine := ⟨false, (fun h => by cases h), ok_X0_hasLine, mi_nohs_ok (t := t_X0_hasLine) rfl⟩
theorem ob_X0_nextLine : mi_OkB mi_ms m_X0_nextLine := ⟨false, (fun h => by cases h), ok_X0_nextLine, mi_nohs_ok (t := t_X0_nextLine) rfl⟩
theorem ob_X0_step : mi_OkB mi_ms m_X0_step := ⟨false, (fun h => by cases h), ok_X0_step, mi_nohs_ok (t := t_X0_step) rfl⟩
theorem ob_X0_skipBlanks : mi_OkB mi_ms m_X0_skipBlanks := ⟨false, (fun h => by cases h), ok_X0_skipBlanks, mi_nohs_ok (t := t_X0_skipBlanks) rfl⟩
theorem ob_X0_isWordEnd : mi_OkB mi_ms m_X0_isWordEnd := ⟨false, (fun h => by cases h), ok_X0_isWordEnd, mi_nohs_ok (t := t_X0_isWordEnd) rfl⟩
theorem ob_X0_placeOf : mi_OkB mi_ms m_X0_placeOf := ⟨false, (fun h => by cases h), ok_X0_placeOf, mi_nohs_ok (t := t_X0_placeOf) rfl⟩
theorem ob_X0_wrong : mi_OkB mi_ms m_X0_wrong := ⟨false, (fun h => by cases h), ok_X0_wrong, mi_nohs_ok (t := t_X0_wrong) rfl⟩
theorem ob_X0_wrongElsewhere : mi_OkB mi_ms m_X0_wrongElsewhere := ⟨false, (fun h => by cases h), ok_X0_wrongElsewhere, mi_nohs_ok (t := t_X0_wrongElsewhere) rfl⟩
theorem ob_X1_init : mi_OkB mi_ms m_X1_init := ⟨true, (fun _ => rfl), ok_X1_init, mi_nohs_ok (t := t_X1_init) rfl⟩
theorem ob_X1_clear : mi_OkB mi_ms m_X1_clear := ⟨false, (fun h => by cases h), ok_X1_clear, mi_nohs_ok (t := t_X1_clear) rfl⟩
theorem ob_X1_arcCount : mi_OkB mi_ms m_X1_arcCount := ⟨false, (fun h => by cases h), ok_X1_arcCount, mi_nohs_ok (t := t_X1_arcCount) rfl⟩
theorem ob_X1_hasValue : mi_OkB mi_ms m_X1_hasValue := ⟨false, (fun h => by cases h), ok_X1_hasValue, mi_nohs_ok (t := t_X1_hasValue) rfl⟩
theorem ob_X1_roomOf : mi_OkB mi_ms m_X1_roomOf := ⟨false, (fun h => by cases h), ok_X1_roomOf, mi_nohs_ok (t := t_X1_roomOf) rfl⟩
theorem ob_X1_missingOf : mi_OkB mi_ms m_X1_missingOf := ⟨false, (fun h => by cases h), ok_X1_missingOf, mi_nohs_ok (t := t_X1_missingOf) rfl⟩
theorem ob_X1_hasArc : mi_OkB mi_ms m_X1_hasArc := ⟨false, (fun h => by cases h), ok_X1_hasArc, mi_nohs_ok (t := t_X1_hasArc) rfl⟩
theorem ob_X1_addArc : mi_OkB mi_ms m_X1_addArc := ⟨false, (fun h => by cases h), ok_X1_addArc, mi_nohs_ok (t := t_X1_addArc) rfl⟩
theorem ob_X1_addValue : mi_OkB mi_ms m_X1_addValue := ⟨false, (fun h => by cases h), ok_X1_addValue, mi_nohs_ok (t := t_X1_addValue) rfl⟩
theorem ob_X1_leaveArcOut : mi_OkB mi_ms m_X1_leaveArcOut := ⟨false, (fun h => by cases h), ok_X1_leaveArcOut, mi_nohs_ok (t := t_X1_leaveArcOut) rfl⟩
theorem ob_X1_settleKinds : mi_OkB mi_ms m_X1_settleKinds := ⟨false, (fun h => by cases h), ok_X1_settleKinds, mi_nohs_ok (t := t_X1_settleKinds) rfl⟩
theorem ob_X1_guessKind : mi_OkB mi_ms m_X1_guessKind := ⟨false, (fun h => by cases h), ok_X1_guessKind, mi_nohs_ok (t := t_X1_guessKind) rfl⟩
theorem ob_X2_init : mi_OkB mi_ms m_X2_init := ⟨true, (fun _ => rfl), ok_X2_init, mi_nohs_ok (t := t_X2_init) rfl⟩
theorem ob_X2_readText : mi_OkB mi_ms m_X2_readText := ⟨false, (fun h => by cases h), ok_X2_readText, mi_nohs_ok (t := t_X2_readText) rfl⟩
theorem ob_X2_countIsTrue : mi_OkB mi_ms m_X2_countIsTrue := ⟨false, (fun h => by cases h), ok_X2_countIsTrue, mi_nohs_ok (t := t_X2_countIsTrue) rfl⟩
theorem ob_X2_readLine : mi_OkB mi_ms m_X2_readLine := ⟨false, (fun h => by cases h), ok_X2_readLine, mi_nohs_ok (t := t_X2_readLine) rfl⟩
theorem ob_X2_readComment : mi_OkB mi_ms m_X2_readComment := ⟨false, (fun h => by cases h), ok_X2_readComment, mi_nohs_ok (t := t_X2_readComment) rfl⟩
theorem ob_X2_readCount : mi_OkB mi_ms m_X2_readCount := ⟨false, (fun h => by cases h), ok_X2_readCount, mi_nohs_ok (t := t_X2_readCount) rfl⟩
theorem ob_X2_readNumber : mi_OkB mi_ms m_X2_readNumber := ⟨false, (fun h => by cases h), ok_X2_readNumber, mi_nohs_ok (t := t_X2_readNumber) rfl⟩
theorem ob_X2_readHead : mi_OkB mi_ms m_X2_readHead := ⟨false, (fun h => by cases h), ok_X2_readHead, mi_nohs_ok (t := t_X2_readHead) rfl⟩
theorem ob_X2_kindOfLetter : mi_OkB mi_ms m_X2_kindOfLetter := ⟨false, (fun h => by cases h), ok_X2_kindOfLetter, mi_nohs_ok (t := t_X2_kindOfLetter) rfl⟩
theorem ob_X2_readEnds : mi_OkB mi_ms m_X2_readEnds := ⟨false, (fun h => by cases h), ok_X2_readEnds, mi_nohs_ok (t := t_X2_readEnds) rfl⟩
theorem ob_X2_endArc : mi_OkB mi_ms m_X2_endArc := ⟨false, (fun h => by cases h), ok_X2_endArc, mi_nohs_ok (t := t_X2_endArc) rfl⟩
theorem ob_X2_takeNode : mi_OkB mi_ms m_X2_takeNode := ⟨false, (fun h => by cases h), ok_X2_takeNode, mi_nohs_ok (t := t_X2_takeNode) rfl⟩
theorem ob_X2_readValues : mi_OkB mi_ms m_X2_readValues := ⟨false, (fun h => by cases h), ok_X2_readValues, mi_nohs_ok (t := t_X2_readValues) rfl⟩
theorem ob_X2_readValue : mi_OkB mi_ms m_X2_readValue := ⟨false, (fun h => by cases h), ok_X2_readValue, mi_nohs_ok (t := t_X2_readValue) rfl⟩
theorem ob_X2_readFigures : mi_OkB mi_ms m_X2_readFigures := ⟨false, (fun h => by cases h), ok_X2_readFigures, mi_nohs_ok (t := t_X2_readFigures) rfl⟩
theorem ob_X2_readFraction : mi_OkB mi_ms m_X2_readFraction := ⟨false, (fun h => by cases h), ok_X2_readFraction, mi_nohs_ok (t := t_X2_readFraction) rfl⟩
theorem ob_X2_readGuessed : mi_OkB mi_ms m_X2_readGuessed := ⟨false, (fun h => by cases h), ok_X2_readGuessed, mi_nohs_ok (t := t_X2_readGuessed) rfl⟩
theorem ob_X2_figuresOnly : mi_OkB mi_ms m_X2_figuresOnly := ⟨false, (fun h => by cases h), ok_X2_figuresOnly, mi_nohs_ok (t := t_X2_figuresOnly) rfl⟩
theorem ob_X2_thousandthsRead : mi_OkB mi_ms m_X2_thousandthsRead := ⟨false, (fun h => by cases h), ok_X2_thousandthsRead, mi_nohs_ok (t := t_X2_thousandthsRead) rfl⟩
theorem ob_X2_readName : mi_OkB mi_ms m_X2_readName := ⟨false, (fun h => by cases h), ok_X2_readName, mi_nohs_ok (t := t_X2_readName) rfl⟩
theorem ob_X2_readPlain : mi_OkB mi_ms m_X2_readPlain := ⟨false, (fun h => by cases h), ok_X2_readPlain, mi_nohs_ok (t := t_X2_readPlain) rfl⟩
theorem ob_X2_readQuoted : mi_OkB mi_ms m_X2_readQuoted := ⟨false, (fun h => by cases h), ok_X2_readQuoted, mi_nohs_ok (t := t_X2_readQuoted) rfl⟩
theorem ob_X2_readGap : mi_OkB mi_ms m_X2_readGap := ⟨false, (fun h => by cases h), ok_X2_readGap, mi_nohs_ok (t := t_X2_readGap) rfl⟩
theorem ob_X2_readLineEnd : mi_OkB mi_ms m_X2_readLineEnd := ⟨false, (fun h => by cases h), ok_X2_readLineEnd, mi_nohs_ok (t := t_X2_readLineEnd) rfl⟩
theorem ob_X3_init : mi_OkB mi_ms m_X3_init := ⟨true, (fun _ => rfl), ok_X3_init, mi_nohs_ok (t := t_X3_init) rfl⟩
theorem ob_X3_clear : mi_OkB mi_ms m_X3_clear := ⟨false, (fun h => by cases h), ok_X3_clear, mi_nohs_ok (t := t_X3_clear) rfl⟩
theorem ob_X3_cut : mi_OkB mi_ms m_X3_cut := ⟨false, (fun h => by cases h), ok_X3_cut, mi_nohs_ok (t := t_X3_cut) rfl⟩
theorem ob_X3_add : mi_OkB mi_ms m_X3_add := ⟨false, (fun h => by cases h), ok_X3_add, mi_nohs_ok (t := t_X3_add) rfl⟩
theorem ob_X3_put : mi_OkB mi_ms m_X3_put := ⟨false, (fun h => by cases h), ok_X3_put, mi_nohs_ok (t := t_X3_put) rfl⟩
theorem ob_X3_has : mi_OkB mi_ms m_X3_has := ⟨false, (fun h => by cases h), ok_X3_has, mi_nohs_ok (t := t_X3_has) rfl⟩
theorem ob_X3_at : mi_OkB mi_ms m_X3_at := ⟨false, (fun h => by cases h), ok_X3_at, mi_nohs_ok (t := t_X3_at) rfl⟩
theorem ob_X4_init : mi_OkB mi_ms m_X4_init := ⟨true, (fun _ => rfl), ok_X4_init, mi_nohs_ok (t := t_X4_init) rfl⟩
theorem ob_X4_clear : mi_OkB mi_ms m_X4_clear := ⟨false, (fun h => by cases h), ok_X4_clear, mi_nohs_ok (t := t_X4_clear) rfl⟩
theorem ob_X4_cut : mi_OkB mi_ms m_X4_cut := ⟨false, (fun h => by cases h), ok_X4_cut, mi_nohs_ok (t := t_X4_cut) rfl⟩
theorem ob_X4_add : mi_OkB mi_ms m_X4_add := ⟨false, (fun h => by cases h), ok_X4_add, mi_nohs_ok (t := t_X4_add) rfl⟩
theorem ob_X4_has : mi_OkB mi_ms m_X4_has := ⟨false, (fun h => by cases h), ok_X4_has, mi_nohs_ok (t := t_X4_has) rfl⟩
theorem ob_X4_lengthOf : mi_OkB mi_ms m_X4_lengthOf := ⟨false, (fun h => by cases h), ok_X4_lengthOf, mi_nohs_ok (t := t_X4_lengthOf) rfl⟩
theorem ob_X4_signAt : mi_OkB mi_ms m_X4_signAt := ⟨false, (fun h => by cases h), ok_X4_signAt, mi_nohs_ok (t := t_X4_signAt) rfl⟩
theorem ob_X4_indexOf : mi_OkB mi_ms m_X4_indexOf := ⟨false, (fun h => by cases h), ok_X4_indexOf, mi_nohs_ok (t := t_X4_indexOf) rfl⟩
theorem ob_X4_isSame : mi_OkB mi_ms m_X4_isSame := ⟨false, (fun h => by cases h), ok_X4_isSame, mi_nohs_ok (t := t_X4_isSame) rfl⟩
theorem ob_X4_isPlainName : mi_OkB mi_ms m_X4_isPlainName := ⟨false, (fun h => by cases h), ok_X4_isPlainName, mi_nohs_ok (t := t_X4_isPlainName) rfl⟩
theorem ob_X5_init : mi_OkB mi_ms m_X5_init := ⟨true, (fun _ => rfl), ok_X5_init, mi_nohs_ok (t := t_X5_init) rfl⟩
theorem ob_X5_writeGraph : mi_OkB mi_ms m_X5_writeGraph := ⟨false, (fun h => by cases h), ok_X5_writeGraph, mi_nohs_ok (t := t_X5_writeGraph) rfl⟩
theorem ob_X5_writeComment : mi_OkB mi_ms m_X5_writeComment := ⟨false, (fun h => by cases h), ok_X5_writeComment, mi_nohs_ok (t := t_X5_writeComment) rfl⟩
theorem ob_X5_writeCount : mi_OkB mi_ms m_X5_writeCount := ⟨false, (fun h => by cases h), ok_X5_writeCount, mi_nohs_ok (t := t_X5_writeCount) rfl⟩
theorem ob_X5_writeHead : mi_OkB mi_ms m_X5_writeHead := ⟨false, (fun h => by cases h), ok_X5_writeHead, mi_nohs_ok (t := t_X5_writeHead) rfl⟩
theorem ob_X5_letterOfKind : mi_OkB mi_ms m_X5_letterOfKind := ⟨false, (fun h => by cases h), ok_X5_letterOfKind, mi_nohs_ok (t := t_X5_letterOfKind) rfl⟩
theorem ob_X5_writeArc : mi_OkB mi_ms m_X5_writeArc := ⟨false, (fun h => by cases h), ok_X5_writeArc, mi_nohs_ok (t := t_X5_writeArc) rfl⟩
theorem ob_X5_writeValue : mi_OkB mi_ms m_X5_writeValue := ⟨false, (fun h => by cases h), ok_X5_writeValue, mi_nohs_ok (t := t_X5_writeValue) rfl⟩
theorem ob_X5_writeName : mi_OkB mi_ms m_X5_writeName := ⟨false, (fun h => by cases h), ok_X5_writeName, mi_nohs_ok (t := t_X5_writeName) rfl⟩
theorem ob_X5_writeThousandths : mi_OkB mi_ms m_X5_writeThousandths := ⟨false, (fun h => by cases h), ok_X5_writeThousandths, mi_nohs_ok (t := t_X5_writeThousandths) rfl⟩
theorem ob_X5_writeWhole : mi_OkB mi_ms m_X5_writeWhole := ⟨false, (fun h => by cases h), ok_X5_writeWhole, mi_nohs_ok (t := t_X5_writeWhole) rfl⟩
theorem ob_X6_init : mi_OkB mi_ms m_X6_init := ⟨true, (fun _ => rfl), ok_X6_init, mi_nohs_ok (t := t_X6_init) rfl⟩
theorem ob_X6_feed : mi_OkB mi_ms m_X6_feed := ⟨false, (fun h => by cases h), ok_X6_feed, mi_nohs_ok (t := t_X6_feed) rfl⟩
theorem ob_X6_read : mi_OkB mi_ms m_X6_read := ⟨false, (fun h => by cases h), ok_X6_read, mi_nohs_ok (t := t_X6_read) rfl⟩
theorem ob_X6_fault : mi_OkB mi_ms m_X6_fault := ⟨false, (fun h => by cases h), ok_X6_fault, mi_nohs_ok (t := t_X6_fault) rfl⟩
theorem ob_X6_manner : mi_OkB mi_ms m_X6_manner := ⟨false, (fun h => by cases h), ok_X6_manner, mi_nohs_ok (t := t_X6_manner) rfl⟩
theorem ob_X6_find : mi_OkB mi_ms m_X6_find := ⟨false, (fun h => by cases h), ok_X6_find, mi_nohs_ok (t := t_X6_find) rfl⟩
theorem ob_X6_node : mi_OkB mi_ms m_X6_node := ⟨false, (fun h => by cases h), ok_X6_node, mi_nohs_ok (t := t_X6_node) rfl⟩
theorem ob_X6_arc : mi_OkB mi_ms m_X6_arc := ⟨false, (fun h => by cases h), ok_X6_arc, mi_nohs_ok (t := t_X6_arc) rfl⟩
theorem ob_X6_kind : mi_OkB mi_ms m_X6_kind := ⟨false, (fun h => by cases h), ok_X6_kind, mi_nohs_ok (t := t_X6_kind) rfl⟩
theorem ob_X6_head : mi_OkB mi_ms m_X6_head := ⟨false, (fun h => by cases h), ok_X6_head, mi_nohs_ok (t := t_X6_head) rfl⟩
theorem ob_X6_value : mi_OkB mi_ms m_X6_value := ⟨false, (fun h => by cases h), ok_X6_value, mi_nohs_ok (t := t_X6_value) rfl⟩
theorem ob_X6_sign : mi_OkB mi_ms m_X6_sign := ⟨false, (fun h => by cases h), ok_X6_sign, mi_nohs_ok (t := t_X6_sign) rfl⟩
theorem ob_X6_comment : mi_OkB mi_ms m_X6_comment := ⟨false, (fun h => by cases h), ok_X6_comment, mi_nohs_ok (t := t_X6_comment) rfl⟩
theorem ob_X6_print : mi_OkB mi_ms m_X6_print := ⟨false, (fun h => by cases h), ok_X6_print, mi_nohs_ok (t := t_X6_print) rfl⟩
theorem ob_X6_out : mi_OkB mi_ms m_X6_out := ⟨false, (fun h => by cases h), ok_X6_out, mi_nohs_ok (t := t_X6_out) rfl⟩
theorem ob_X6_about : mi_OkB mi_ms m_X6_about := ⟨false, (fun h => by cases h), ok_X6_about, mi_nohs_ok (t := t_X6_about) rfl⟩
theorem ob_X6_signOfSpan : mi_OkB mi_ms m_X6_signOfSpan := ⟨false, (fun h => by cases h), ok_X6_signOfSpan, mi_nohs_ok (t := t_X6_signOfSpan) rfl⟩
theorem ob_X6_isFigure : mi_OkB mi_ms m_X6_isFigure := ⟨false, (fun h => by cases h), ok_X6_isFigure, mi_nohs_ok (t := t_X6_isFigure) rfl⟩
theorem ob_X6_isPlain : mi_OkB mi_ms m_X6_isPlain := ⟨false, (fun h => by cases h), ok_X6_isPlain, mi_nohs_ok (t := t_X6_isPlain) rfl⟩
theorem ob_X6_isPrintable : mi_OkB mi_ms m_X6_isPrintable := ⟨false, (fun h => by cases h), ok_X6_isPrintable, mi_nohs_ok (t := t_X6_isPrintable) rfl⟩
theorem ob_X7_init : mi_OkB mi_ms m_X7_init := ⟨true, (fun _ => rfl), ok_X7_init, mi_nohs_ok (t := t_X7_init) rfl⟩
theorem ob_X7_thrown : mi_OkB mi_ms m_X7_thrown := ⟨false, (fun h => by cases h), ok_X7_thrown, mi_nohs_ok (t := t_X7_thrown) rfl⟩
theorem ob_X7_in : mi_OkB mi_ms m_X7_in := ⟨false, (fun h => by cases h), ok_X7_in, mi_nohs_ok (t := t_X7_in) rfl⟩
theorem ob_X7_feed : mi_OkB mi_ms m_X7_feed := ⟨false, (fun h => by cases h), ok_X7_feed, mi_nohs_ok (t := t_X7_feed) rfl⟩
theorem ob_X7_here : mi_OkB mi_ms m_X7_here := ⟨false, (fun h => by cases h), ok_X7_here, mi_nohs_ok (t := t_X7_here) rfl⟩
theorem ob_X7_wrong : mi_OkB mi_ms m_X7_wrong := ⟨false, (fun h => by cases h), ok_X7_wrong, mi_nohs_ok (t := t_X7_wrong) rfl⟩
theorem ob_X7_isFigure : mi_OkB mi_ms m_X7_isFigure := ⟨false, (fun h => by cases h), ok_X7_isFigure, mi_nohs_ok (t := t_X7_isFigure) rfl⟩
theorem ob_X7_isPlain : mi_OkB mi_ms m_X7_isPlain := ⟨false, (fun h => by cases h), ok_X7_isPlain, mi_nohs_ok (t := t_X7_isPlain) rfl⟩
theorem ob_X7_blanks : mi_OkB mi_ms m_X7_blanks := ⟨false, (fun h => by cases h), ok_X7_blanks, mi_nohs_ok (t := t_X7_blanks) rfl⟩
theorem ob_X7_ended : mi_OkB mi_ms m_X7_ended := ⟨false, (fun h => by cases h), ok_X7_ended, mi_nohs_ok (t := t_X7_ended) rfl⟩
theorem ob_X7_sign : mi_OkB mi_ms m_X7_sign := ⟨false, (fun h => by cases h), ok_X7_sign, mi_nohs_ok (t := t_X7_sign) rfl⟩
theorem ob_X7_readName : mi_OkB mi_ms m_X7_readName := ⟨false, (fun h => by cases h), ok_X7_readName, mi_nohs_ok (t := t_X7_readName) rfl⟩
theorem ob_X7_readQuoted : mi_OkB mi_ms m_X7_readQuoted := ⟨false, (fun h => by cases h), ok_X7_readQuoted, mi_nohs_ok (t := t_X7_readQuoted) rfl⟩
theorem ob_X7_readNumber : mi_OkB mi_ms m_X7_readNumber := ⟨false, (fun h => by cases h), ok_X7_readNumber, mi_nohs_ok (t := t_X7_readNumber) rfl⟩
theorem ob_X7_readDecimals : mi_OkB mi_ms m_X7_readDecimals := ⟨false, (fun h => by cases h), ok_X7_readDecimals, mi_nohs_ok (t := t_X7_readDecimals) rfl⟩
theorem ob_X7_plainSort : mi_OkB mi_ms m_X7_plainSort := ⟨false, (fun h => by cases h), ok_X7_plainSort, mi_nohs_ok (t := t_X7_plainSort) rfl⟩
theorem ob_X7_readPlainDecimal : mi_OkB mi_ms m_X7_readPlainDecimal := ⟨false, (fun h => by cases h), ok_X7_readPlainDecimal, mi_nohs_ok (t := t_X7_readPlainDecimal) rfl⟩
theorem ob_X7_readValue : mi_OkB mi_ms m_X7_readValue := ⟨false, (fun h => by cases h), ok_X7_readValue, mi_nohs_ok (t := t_X7_readValue) rfl⟩
theorem ob_X7_readAny : mi_OkB mi_ms m_X7_readAny := ⟨false, (fun h => by cases h), ok_X7_readAny, mi_nohs_ok (t := t_X7_readAny) rfl⟩
theorem ob_X7_isSame : mi_OkB mi_ms m_X7_isSame := ⟨false, (fun h => by cases h), ok_X7_isSame, mi_nohs_ok (t := t_X7_isSame) rfl⟩
theorem ob_X7_layName : mi_OkB mi_ms m_X7_layName := ⟨false, (fun h => by cases h), ok_X7_layName, mi_nohs_ok (t := t_X7_layName) rfl⟩
theorem ob_X7_laySort : mi_OkB mi_ms m_X7_laySort := ⟨false, (fun h => by cases h), ok_X7_laySort, mi_nohs_ok (t := t_X7_laySort) rfl⟩
theorem ob_X7_readComment : mi_OkB mi_ms m_X7_readComment := ⟨false, (fun h => by cases h), ok_X7_readComment, mi_nohs_ok (t := t_X7_readComment) rfl⟩
theorem ob_X7_readCount : mi_OkB mi_ms m_X7_readCount := ⟨false, (fun h => by cases h), ok_X7_readCount, mi_nohs_ok (t := t_X7_readCount) rfl⟩
theorem ob_X7_readHead : mi_OkB mi_ms m_X7_readHead := ⟨false, (fun h => by cases h), ok_X7_readHead, mi_nohs_ok (t := t_X7_readHead) rfl⟩
theorem ob_X7_nodeOf : mi_OkB mi_ms m_X7_nodeOf := ⟨false, (fun h => by cases h), ok_X7_nodeOf, mi_nohs_ok (t := t_X7_nodeOf) rfl⟩
theorem ob_X7_isDoubled : mi_OkB mi_ms m_X7_isDoubled := ⟨false, (fun h => by cases h), ok_X7_isDoubled, mi_nohs_ok (t := t_X7_isDoubled) rfl⟩
theorem ob_X7_readArc : mi_OkB mi_ms m_X7_readArc := ⟨false, (fun h => by cases h), ok_X7_readArc, mi_nohs_ok (t := t_X7_readArc) rfl⟩
theorem ob_X7_layArc : mi_OkB mi_ms m_X7_layArc := ⟨false, (fun h => by cases h), ok_X7_layArc, mi_nohs_ok (t := t_X7_layArc) rfl⟩
theorem ob_X7_readLine : mi_OkB mi_ms m_X7_readLine := ⟨false, (fun h => by cases h), ok_X7_readLine, mi_nohs_ok (t := t_X7_readLine) rfl⟩
theorem ob_X7_guessKinds : mi_OkB mi_ms m_X7_guessKinds := ⟨false, (fun h => by cases h), ok_X7_guessKinds, mi_nohs_ok (t := t_X7_guessKinds) rfl⟩
theorem ob_X7_takeOver : mi_OkB mi_ms m_X7_takeOver := ⟨false, (fun h => by cases h), ok_X7_takeOver, mi_nohs_ok (t := t_X7_takeOver) rfl⟩
theorem ob_X7_takeRow : mi_OkB mi_ms m_X7_takeRow := ⟨false, (fun h => by cases h), ok_X7_takeRow, mi_nohs_ok (t := t_X7_takeRow) rfl⟩
theorem ob_X7_read : mi_OkB mi_ms m_X7_read := ⟨false, (fun h => by cases h), ok_X7_read, mi_nohs_ok (t := t_X7_read) rfl⟩
theorem ob_X7_lie : mi_OkB mi_ms m_X7_lie := ⟨false, (fun h => by cases h), ok_X7_lie, mi_nohs_ok (t := t_X7_lie) rfl⟩
theorem ob_X7_fault : mi_OkB mi_ms m_X7_fault := ⟨false, (fun h => by cases h), ok_X7_fault, mi_nohs_ok (t := t_X7_fault) rfl⟩
theorem ob_X7_manner : mi_OkB mi_ms m_X7_manner := ⟨false, (fun h => by cases h), ok_X7_manner, mi_nohs_ok (t := t_X7_manner) rfl⟩
theorem ob_X7_find : mi_OkB mi_ms m_X7_find := ⟨false, (fun h => by cases h), ok_X7_find, mi_nohs_ok (t := t_X7_find) rfl⟩
theorem ob_X7_node : mi_OkB mi_ms m_X7_node := ⟨false, (fun h => by cases h), ok_X7_node, mi_nohs_ok (t := t_X7_node) rfl⟩
theorem ob_X7_arc : mi_OkB mi_ms m_X7_arc := ⟨false, (fun h => by cases h), ok_X7_arc, mi_nohs_ok (t := t_X7_arc) rfl⟩
theorem ob_X7_isColumn : mi_OkB mi_ms m_X7_isColumn := ⟨false, (fun h => by cases h), ok_X7_isColumn, mi_nohs_ok (t := t_X7_isColumn) rfl⟩
theorem ob_X7_kind : mi_OkB mi_ms m_X7_kind := ⟨false, (fun h => by cases h), ok_X7_kind, mi_nohs_ok (t := t_X7_kind) rfl⟩
theorem ob_X7_head : mi_OkB mi_ms m_X7_head := ⟨false, (fun h => by cases h), ok_X7_head, mi_nohs_ok (t := t_X7_head) rfl⟩
theorem ob_X7_value : mi_OkB mi_ms m_X7_value := ⟨false, (fun h => by cases h), ok_X7_value, mi_nohs_ok (t := t_X7_value) rfl⟩
theorem ob_X7_sign_ : mi_OkB mi_ms m_X7_sign_ := ⟨false, (fun h => by cases h), ok_X7_sign_, mi_nohs_ok (t := t_X7_sign_) rfl⟩
theorem ob_X7_comment : mi_OkB mi_ms m_X7_comment := ⟨false, (fun h => by cases h), ok_X7_comment, mi_nohs_ok (t := t_X7_comment) rfl⟩
theorem ob_X7_put : mi_OkB mi_ms m_X7_put := ⟨false, (fun h => by cases h), ok_X7_put, mi_nohs_ok (t := t_X7_put) rfl⟩
theorem ob_X7_putName : mi_OkB mi_ms m_X7_putName := ⟨false, (fun h => by cases h), ok_X7_putName, mi_nohs_ok (t := t_X7_putName) rfl⟩
theorem ob_X7_putWhole : mi_OkB mi_ms m_X7_putWhole := ⟨false, (fun h => by cases h), ok_X7_putWhole, mi_nohs_ok (t := t_X7_putWhole) rfl⟩
theorem ob_X7_putNumber : mi_OkB mi_ms m_X7_putNumber := ⟨false, (fun h => by cases h), ok_X7_putNumber, mi_nohs_ok (t := t_X7_putNumber) rfl⟩
theorem ob_X7_putArc : mi_OkB mi_ms m_X7_putArc := ⟨false, (fun h => by cases h), ok_X7_putArc, mi_nohs_ok (t := t_X7_putArc) rfl⟩
theorem ob_X7_print : mi_OkB mi_ms m_X7_print := ⟨false, (fun h => by cases h), ok_X7_print, mi_nohs_ok (t := t_X7_print) rfl⟩
theorem ob_X7_out : mi_OkB mi_ms m_X7_out := ⟨false, (fun h => by cases h), ok_X7_out, mi_nohs_ok (t := t_X7_out) rfl⟩
theorem ob_X7_about : mi_OkB mi_ms m_X7_about := ⟨false, (fun h => by cases h), ok_X7_about, mi_nohs_ok (t := t_X7_about) rfl⟩
theorem on_L_node : ¬ mi_OkM m_L_node := fun h => absurd h.2.1 (by decide +kernel)
theorem on_L_head : ¬ mi_OkM m_L_head := fun h => absurd h.2.1 (by decide +kernel)
theorem on_L_value : ¬ mi_OkM m_L_value := fun h => absurd h.2.1 (by decide +kernel)
theorem on_L_sign : ¬ mi_OkM m_L_sign := fun h => absurd h.2.1 (by decide +kernel)
theorem on_L_comment : ¬ mi_OkM m_L_comment := fun h => absurd h.2.1 (by decide +kernel)
theorem on_L_out : ¬ mi_OkM m_L_out := fun h => absurd h.2.1 (by decide +kernel)
theorem mi_allM : ∀ M ∈ mi_ms, mi_OkM M → mi_OkB mi_ms M := List.forall_mem_cons.mpr ⟨fun _ => ob_X0_init, List.forall_mem_cons.mpr ⟨fun _ => ob_X0_start, List.forall_mem_cons.mpr ⟨fun _ => ob_X0_hasLine, List.forall_mem_cons.mpr ⟨fun _ => ob_X0_nextLine, List.forall_mem_cons.mpr ⟨fun _ => ob_X0_step, List.forall_mem_cons.mpr ⟨fun _ => ob_X0_skipBlanks, List.forall_mem_cons.mpr ⟨fun _ => ob_X0_isWordEnd, List.forall_mem_cons.mpr ⟨fun _ => ob_X0_placeOf, List.forall_mem_cons.mpr ⟨fun _ => ob_X0_wrong, List.forall_mem_cons.mpr ⟨fun _ => ob_X0_wrongElsewhere, List.forall_mem_cons.mpr ⟨fun _ => ob_X1_init, List.forall_mem_cons.mpr ⟨fun _ => ob_X1_clear, List.forall_mem_cons.mpr ⟨fun _ => ob_X1_arcCount, List.forall_mem_cons.mpr ⟨fun _ => ob_X1_hasValue, List.forall_mem_cons.mpr ⟨fun _ => ob_X1_roomOf, List.forall_mem_cons.mpr ⟨fun _ => ob_X1_missingOf, List.forall_mem_cons.mpr ⟨fun _ => ob_X1_hasArc, List.forall_mem_cons.mpr ⟨fun _ => ob_X1_addArc, List.forall_mem_cons.mpr ⟨fun _ => ob_X1_addValue, List.forall_mem_cons.mpr ⟨fun _ => ob_X1_leaveArcOut, List.forall_mem_cons.mpr ⟨fun _ => ob_X1_settleKinds, List.forall_mem_cons.mpr ⟨fun _ => ob_X1_guessKind, List.forall_mem_cons.mpr ⟨fun _ => ob_X2_init, List.forall_mem_cons.mpr ⟨fun _ => ob_X2_readText, List.forall_mem_cons.mpr ⟨fun _ => ob_X2_countIsTrue, List.forall_mem_cons.mpr ⟨fun _ => ob_X2_readLine, List.forall_mem_cons.mpr ⟨fun _ => ob_X2_readComment, List.forall_mem_cons.mpr ⟨fun _ => ob_X2_readCount, List.forall_mem_cons.mpr ⟨fun _ => ob_X2_readNumber, List.forall_mem_cons.mpr ⟨fun _ => ob_X2_readHead, List.forall_mem_cons.mpr ⟨fun _ => ob_X2_kindOfLetter, List.forall_mem_cons.mpr ⟨fun _ => ob_X2_readEnds, List.forall_mem_cons.mpr ⟨fun _ => ob_X2_endArc, List.forall_mem_cons.mpr ⟨fun _ => ob_X2_takeNode, List.forall_mem_cons.mpr ⟨fun _ => ob_X2_readValues, List.forall_mem_cons.mpr ⟨fun _ => ob_X2_readValue, List.forall_mem_cons.mpr ⟨fun _ => ob_X2_readFigures, List.forall_mem_cons.mpr ⟨fun _ => ob_X2_readFraction, List.forall_mem_cons.mpr ⟨fun _ => ob_X2_readGuessed, List.forall_mem_cons.mpr ⟨fun _ => ob_X2_figuresOnly, List.forall_mem_cons.mpr ⟨fun _ => ob_X2_thousandthsRead, List.forall_mem_cons.mpr ⟨fun _ => ob_X2_readName, List.forall_mem_cons.mpr ⟨fun _ => ob_X2_readPlain, List.forall_mem_cons.mpr ⟨fun _ => ob_X2_readQuoted, List.forall_mem_cons.mpr ⟨fun _ => ob_X2_readGap, List.forall_mem_cons.mpr ⟨fun _ => ob_X2_readLineEnd, List.forall_mem_cons.mpr ⟨fun _ => ob_X3_init, List.forall_mem_cons.mpr ⟨fun _ => ob_X3_clear, List.forall_mem_cons.mpr ⟨fun _ => ob_X3_cut, List.forall_mem_cons.mpr ⟨fun _ => ob_X3_add, List.forall_mem_cons.mpr ⟨fun _ => ob_X3_put, List.forall_mem_cons.mpr ⟨fun _ => ob_X3_has, List.forall_mem_cons.mpr ⟨fun _ => ob_X3_at, List.forall_mem_cons.mpr ⟨fun _ => ob_X4_init, List.forall_mem_cons.mpr ⟨fun _ => ob_X4_clear, List.forall_mem_cons.mpr ⟨fun _ => ob_X4_cut, List.forall_mem_cons.mpr ⟨fun _ => ob_X4_add, List.forall_mem_cons.mpr ⟨fun _ => ob_X4_has, List.forall_mem_cons.mpr ⟨fun _ => ob_X4_lengthOf, List.forall_mem_cons.mpr ⟨fun _ => ob_X4_signAt, List.forall_mem_cons.mpr ⟨fun _ => ob_X4_indexOf, List.forall_mem_cons.mpr ⟨fun _ => ob_X4_isSame, List.forall_mem_cons.mpr ⟨fun _ => ob_X4_isPlainName, List.forall_mem_cons.mpr ⟨fun _ => ob_X5_init, List.forall_mem_cons.mpr ⟨fun _ => ob_X5_writeGraph, List.forall_mem_cons.mpr ⟨fun _ => ob_X5_writeComment, List.forall_mem_cons.mpr ⟨fun _ => ob_X5_writeCount, List.forall_mem_cons.mpr ⟨fun _ => ob_X5_writeHead, List.forall_mem_cons.mpr ⟨fun _ => ob_X5_letterOfKind, List.forall_mem_cons.mpr ⟨fun _ => ob_X5_writeArc, List.forall_mem_cons.mpr ⟨fun _ => ob_X5_writeValue, List.forall_mem_cons.mpr ⟨fun _ => ob_X5_writeName, List.forall_mem_cons.mpr ⟨fun _ => ob_X5_writeThousandths, List.forall_mem_cons.mpr ⟨fun _ => ob_X5_writeWhole, List.forall_mem_cons.mpr ⟨fun _ => ob_X6_init, List.forall_mem_cons.mpr ⟨fun _ => ob_X6_feed, List.forall_mem_cons.mpr ⟨fun _ => ob_X6_read, List.forall_mem_cons.mpr ⟨fun _ => ob_X6_fault, List.forall_mem_cons.mpr ⟨fun _ => ob_X6_manner, List.forall_mem_cons.mpr ⟨fun _ => ob_X6_find, List.forall_mem_cons.mpr ⟨fun _ => ob_X6_node, List.forall_mem_cons.mpr ⟨fun _ => ob_X6_arc, List.forall_mem_cons.mpr ⟨fun _ => ob_X6_kind, List.forall_mem_cons.mpr ⟨fun _ => ob_X6_head, List.forall_mem_cons.mpr ⟨fun _ => ob_X6_value, List.forall_mem_cons.mpr ⟨fun _ => ob_X6_sign, List.forall_mem_cons.mpr ⟨fun _ => ob_X6_comment, List.forall_mem_cons.mpr ⟨fun _ => ob_X6_print, List.forall_mem_cons.mpr ⟨fun _ => ob_X6_out, List.forall_mem_cons.mpr ⟨fun _ => ob_X6_about, List.forall_mem_cons.mpr ⟨fun _ => ob_X6_signOfSpan, List.forall_mem_cons.mpr ⟨fun _ => ob_X6_isFigure, List.forall_mem_cons.mpr ⟨fun _ => ob_X6_isPlain, List.forall_mem_cons.mpr ⟨fun _ => ob_X6_isPrintable, List.forall_mem_cons.mpr ⟨fun _ => ob_X7_init, List.forall_mem_cons.mpr ⟨fun _ => ob_X7_thrown, List.forall_mem_cons.mpr ⟨fun _ => ob_X7_in, List.forall_mem_cons.mpr ⟨fun _ => ob_X7_feed, List.forall_mem_cons.mpr ⟨fun _ => ob_X7_here, List.forall_mem_cons.mpr ⟨fun _ => ob_X7_wrong, List.forall_mem_cons.mpr ⟨fun _ => ob_X7_isFigure, List.forall_mem_cons.mpr ⟨fun _ => ob_X7_isPlain, List.forall_mem_cons.mpr ⟨fun _ => ob_X7_blanks, List.forall_mem_cons.mpr ⟨fun _ => ob_X7_ended, List.forall_mem_cons.mpr ⟨fun _ => ob_X7_sign, List.forall_mem_cons.mpr ⟨fun _ => ob_X7_readName, List.forall_mem_cons.mpr ⟨fun _ => ob_X7_readQuoted, List.forall_mem_cons.mpr ⟨fun _ => ob_X7_readNumber, List.forall_mem_cons.mpr ⟨fun _ => ob_X7_readDecimals, List.forall_mem_cons.mpr ⟨fun _ => ob_X7_plainSort, List.forall_mem_cons.mpr ⟨fun _ => ob_X7_readPlainDecimal, List.forall_mem_cons.mpr ⟨fun _ => ob_X7_readValue, List.forall_mem_cons.mpr ⟨fun _ => ob_X7_readAny, List.forall_mem_cons.mpr ⟨fun _ => ob_X7_isSame, List.forall_mem_cons.mpr ⟨fun _ => ob_X7_layName, List.forall_mem_cons.mpr ⟨fun _ => ob_X7_laySort, List.forall_mem_cons.mpr ⟨fun _ => ob_X7_readComment, List.forall_mem_cons.mpr ⟨fun _ => ob_X7_readCount, List.forall_mem_cons.mpr ⟨fun _ => ob_X7_readHead, List.forall_mem_cons.mpr ⟨fun _ => ob_X7_nodeOf, List.forall_mem_cons.mpr ⟨fun _ => ob_X7_isDoubled, List.forall_mem_cons.mpr ⟨fun _ => ob_X7_readArc, List.forall_mem_cons.mpr ⟨fun _ => ob_X7_layArc, List.forall_mem_cons.mpr ⟨fun _ => ob_X7_readLine, List.forall_mem_cons.mpr ⟨fun _ => ob_X7_guessKinds, List.forall_mem_cons.mpr ⟨fun _ => ob_X7_takeOver, List.forall_mem_cons.mpr ⟨fun _ => ob_X7_takeRow, List.forall_mem_cons.mpr ⟨fun _ => ob_X7_read, List.forall_mem_cons.mpr ⟨fun _ => ob_X7_lie, List.forall_mem_cons.mpr ⟨fun _ => ob_X7_fault, List.forall_mem_cons.mpr ⟨fun _ => ob_X7_manner, List.forall_mem_cons.mpr ⟨fun _ => ob_X7_find, List.forall_mem_cons.mpr ⟨fun _ => ob_X7_node, List.forall_mem_cons.mpr ⟨fun _ => ob_X7_arc, List.forall_mem_cons.mpr ⟨fun _ => ob_X7_isColumn, List.forall_mem_cons.mpr ⟨fun _ => ob_X7_kind, List.forall_mem_cons.mpr ⟨fun _ => ob_X7_head, List.forall_mem_cons.mpr ⟨fun _ => ob_X7_value, List.forall_mem_cons.mpr ⟨fun _ => ob_X7_sign_, List.forall_mem_cons.mpr ⟨fun _ => ob_X7_comment, List.forall_mem_cons.mpr ⟨fun _ => ob_X7_put, List.forall_mem_cons.mpr ⟨fun _ => ob_X7_putName, List.forall_mem_cons.mpr ⟨fun _ => ob_X7_putWhole, List.forall_mem_cons.mpr ⟨fun _ => ob_X7_putNumber, List.forall_mem_cons.mpr ⟨fun _ => ob_X7_putArc, List.forall_mem_cons.mpr ⟨fun _ => ob_X7_print, List.forall_mem_cons.mpr ⟨fun _ => ob_X7_out, List.forall_mem_cons.mpr ⟨fun _ => ob_X7_about, List.forall_mem_cons.mpr ⟨fun h => absurd h on_L_node, List.forall_mem_cons.mpr ⟨fun h => absurd h on_L_head, List.forall_mem_cons.mpr ⟨fun h => absurd h on_L_value, List.forall_mem_cons.mpr ⟨fun h => absurd h on_L_sign, List.forall_mem_cons.mpr ⟨fun h => absurd h on_L_comment, List.forall_mem_cons.mpr ⟨fun h => absurd h on_L_out, fun _ h => absurd h List.not_mem_nil⟩⟩⟩⟩⟩⟩⟩⟩⟩⟩⟩⟩⟩⟩⟩⟩⟩⟩⟩⟩⟩⟩⟩⟩⟩⟩⟩⟩⟩⟩⟩⟩⟩⟩⟩⟩⟩⟩⟩⟩⟩⟩⟩⟩⟩⟩⟩⟩⟩⟩⟩⟩⟩⟩⟩⟩⟩⟩⟩⟩⟩⟩⟩⟩⟩⟩⟩⟩⟩⟩⟩⟩⟩⟩⟩⟩⟩⟩⟩⟩⟩⟩⟩⟩⟩⟩⟩⟩⟩⟩⟩⟩⟩⟩⟩⟩⟩⟩⟩⟩⟩⟩⟩⟩⟩⟩⟩⟩⟩⟩⟩⟩⟩⟩⟩⟩⟩⟩⟩⟩⟩⟩⟩⟩⟩⟩⟩⟩⟩⟩⟩⟩⟩⟩⟩⟩⟩⟩⟩⟩⟩⟩⟩⟩⟩⟩⟩⟩⟩⟩⟩⟩⟩⟩
theorem mi_all (y : Nat) (M : mD) (h : mi_ms[y]? = some M) (hM : mi_OkM M) : mi_OkB mi_ms M := mi_allM M (List.mem_of_getElem? h) hM
/-- every method that returns, by its run of the small machine -/
theorem mi_meth (d : Nat) : mi_Sd mi_ms d := mi_sound mi_all d
end MJA
