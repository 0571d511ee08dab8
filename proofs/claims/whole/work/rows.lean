section
-- ===== PART A: goes FIRST, ahead of the names: the tables' words, and 'selects' of the private methods out of them =====
/-- a private method of a class that the tables say can be made, by its rows of tables_1 -/
def lw_okq (q : MethodName × Nat) : Prop := (q.1.cls ≠ "java/lang/invoke/MethodHandle" ∧ q.1.cls ≠ "java/lang/invoke/VarHandle") ∧ Cond.instantiable q.1.cls q.2 ∈ tables_1 ∧ Cond.privateMethod q.1 ∈ tables_1 ∧ Cond.instanceMethod q.1 ∈ tables_1
theorem lw_p0 : lw_okq (⟨"GraphTexts$Reader", "readLine", "()Z"⟩, 16) := ⟨⟨by decide +kernel, by decide +kernel⟩, List.mem_of_getElem? (i := 170) (by decide +kernel), List.mem_of_getElem? (i := 334) (by decide +kernel), List.mem_of_getElem? (i := 335) (by decide +kernel)⟩
theorem lw_p1 : lw_okq (⟨"GraphTexts$Reader", "readComment", "()Z"⟩, 16) := ⟨⟨by decide +kernel, by decide +kernel⟩, List.mem_of_getElem? (i := 170) (by decide +kernel), List.mem_of_getElem? (i := 342) (by decide +kernel), List.mem_of_getElem? (i := 343) (by decide +kernel)⟩
theorem lw_p2 : lw_okq (⟨"GraphTexts$Reader", "readCount", "()Z"⟩, 16) := ⟨⟨by decide +kernel, by decide +kernel⟩, List.mem_of_getElem? (i := 170) (by decide +kernel), List.mem_of_getElem? (i := 360) (by decide +kernel), List.mem_of_getElem? (i := 361) (by decide +kernel)⟩
theorem lw_p3 : lw_okq (⟨"GraphTexts$Reader", "readGap", "()Z"⟩, 16) := ⟨⟨by decide +kernel, by decide +kernel⟩, List.mem_of_getElem? (i := 170) (by decide +kernel), List.mem_of_getElem? (i := 364) (by decide +kernel), List.mem_of_getElem? (i := 365) (by decide +kernel)⟩
theorem lw_p4 : lw_okq (⟨"GraphTexts$Reader", "readNumber", "()Z"⟩, 16) := ⟨⟨by decide +kernel, by decide +kernel⟩, List.mem_of_getElem? (i := 170) (by decide +kernel), List.mem_of_getElem? (i := 372) (by decide +kernel), List.mem_of_getElem? (i := 373) (by decide +kernel)⟩
theorem lw_p5 : lw_okq (⟨"GraphTexts$Reader", "readLineEnd", "()Z"⟩, 16) := ⟨⟨by decide +kernel, by decide +kernel⟩, List.mem_of_getElem? (i := 170) (by decide +kernel), List.mem_of_getElem? (i := 379) (by decide +kernel), List.mem_of_getElem? (i := 380) (by decide +kernel)⟩
theorem lw_p6 : lw_okq (⟨"GraphTexts$Reader", "readHead", "()Z"⟩, 16) := ⟨⟨by decide +kernel, by decide +kernel⟩, List.mem_of_getElem? (i := 170) (by decide +kernel), List.mem_of_getElem? (i := 383) (by decide +kernel), List.mem_of_getElem? (i := 384) (by decide +kernel)⟩
theorem lw_p7 : lw_okq (⟨"GraphTexts$Reader", "readName", "()Z"⟩, 16) := ⟨⟨by decide +kernel, by decide +kernel⟩, List.mem_of_getElem? (i := 170) (by decide +kernel), List.mem_of_getElem? (i := 387) (by decide +kernel), List.mem_of_getElem? (i := 388) (by decide +kernel)⟩
theorem lw_p8 : lw_okq (⟨"GraphTexts$Reader", "readQuoted", "()Z"⟩, 16) := ⟨⟨by decide +kernel, by decide +kernel⟩, List.mem_of_getElem? (i := 170) (by decide +kernel), List.mem_of_getElem? (i := 391) (by decide +kernel), List.mem_of_getElem? (i := 392) (by decide +kernel)⟩
theorem lw_p9 : lw_okq (⟨"GraphTexts$Reader", "readPlain", "()Z"⟩, 16) := ⟨⟨by decide +kernel, by decide +kernel⟩, List.mem_of_getElem? (i := 170) (by decide +kernel), List.mem_of_getElem? (i := 395) (by decide +kernel), List.mem_of_getElem? (i := 396) (by decide +kernel)⟩
theorem lw_p10 : lw_okq (⟨"GraphTexts$Spans", "isSame", "(ILGraphTexts$Row;II)Z"⟩, 4) := ⟨⟨by decide +kernel, by decide +kernel⟩, List.mem_of_getElem? (i := 69) (by decide +kernel), List.mem_of_getElem? (i := 406) (by decide +kernel), List.mem_of_getElem? (i := 407) (by decide +kernel)⟩
theorem lw_p11 : lw_okq (⟨"GraphTexts$Reader", "readEnds", "()Z"⟩, 16) := ⟨⟨by decide +kernel, by decide +kernel⟩, List.mem_of_getElem? (i := 170) (by decide +kernel), List.mem_of_getElem? (i := 417) (by decide +kernel), List.mem_of_getElem? (i := 418) (by decide +kernel)⟩
theorem lw_p12 : lw_okq (⟨"GraphTexts$Reader", "takeNode", "()I"⟩, 16) := ⟨⟨by decide +kernel, by decide +kernel⟩, List.mem_of_getElem? (i := 170) (by decide +kernel), List.mem_of_getElem? (i := 421) (by decide +kernel), List.mem_of_getElem? (i := 422) (by decide +kernel)⟩
theorem lw_p13 : lw_okq (⟨"GraphTexts$Reader", "readValues", "()Z"⟩, 16) := ⟨⟨by decide +kernel, by decide +kernel⟩, List.mem_of_getElem? (i := 170) (by decide +kernel), List.mem_of_getElem? (i := 430) (by decide +kernel), List.mem_of_getElem? (i := 431) (by decide +kernel)⟩
theorem lw_p14 : lw_okq (⟨"GraphTexts$Reader", "readValue", "(I)Z"⟩, 16) := ⟨⟨by decide +kernel, by decide +kernel⟩, List.mem_of_getElem? (i := 170) (by decide +kernel), List.mem_of_getElem? (i := 435) (by decide +kernel), List.mem_of_getElem? (i := 436) (by decide +kernel)⟩
theorem lw_p15 : lw_okq (⟨"GraphTexts$Reader", "readGuessed", "()Z"⟩, 16) := ⟨⟨by decide +kernel, by decide +kernel⟩, List.mem_of_getElem? (i := 170) (by decide +kernel), List.mem_of_getElem? (i := 443) (by decide +kernel), List.mem_of_getElem? (i := 444) (by decide +kernel)⟩
def lw_privs_1 : List (MethodName × Nat) := [(⟨"GraphTexts$Reader", "readLine", "()Z"⟩, 16), (⟨"GraphTexts$Reader", "readComment", "()Z"⟩, 16), (⟨"GraphTexts$Reader", "readCount", "()Z"⟩, 16), (⟨"GraphTexts$Reader", "readGap", "()Z"⟩, 16), (⟨"GraphTexts$Reader", "readNumber", "()Z"⟩, 16), (⟨"GraphTexts$Reader", "readLineEnd", "()Z"⟩, 16), (⟨"GraphTexts$Reader", "readHead", "()Z"⟩, 16), (⟨"GraphTexts$Reader", "readName", "()Z"⟩, 16), (⟨"GraphTexts$Reader", "readQuoted", "()Z"⟩, 16), (⟨"GraphTexts$Reader", "readPlain", "()Z"⟩, 16), (⟨"GraphTexts$Spans", "isSame", "(ILGraphTexts$Row;II)Z"⟩, 4), (⟨"GraphTexts$Reader", "readEnds", "()Z"⟩, 16), (⟨"GraphTexts$Reader", "takeNode", "()I"⟩, 16), (⟨"GraphTexts$Reader", "readValues", "()Z"⟩, 16), (⟨"GraphTexts$Reader", "readValue", "(I)Z"⟩, 16), (⟨"GraphTexts$Reader", "readGuessed", "()Z"⟩, 16)]
theorem lw_r1 : ∀ q ∈ lw_privs_1, lw_okq q := List.forall_mem_cons.mpr ⟨lw_p0, List.forall_mem_cons.mpr ⟨lw_p1, List.forall_mem_cons.mpr ⟨lw_p2, List.forall_mem_cons.mpr ⟨lw_p3, List.forall_mem_cons.mpr ⟨lw_p4, List.forall_mem_cons.mpr ⟨lw_p5, List.forall_mem_cons.mpr ⟨lw_p6, List.forall_mem_cons.mpr ⟨lw_p7, List.forall_mem_cons.mpr ⟨lw_p8, List.forall_mem_cons.mpr ⟨lw_p9, List.forall_mem_cons.mpr ⟨lw_p10, List.forall_mem_cons.mpr ⟨lw_p11, List.forall_mem_cons.mpr ⟨lw_p12, List.forall_mem_cons.mpr ⟨lw_p13, List.forall_mem_cons.mpr ⟨lw_p14, List.forall_mem_cons.mpr ⟨lw_p15, fun _ h => absurd h List.not_mem_nil⟩⟩⟩⟩⟩⟩⟩⟩⟩⟩⟩⟩⟩⟩⟩⟩
theorem lw_p16 : lw_okq (⟨"GraphTexts$Reader", "figuresOnly", "(I)Z"⟩, 16) := ⟨⟨by decide +kernel, by decide +kernel⟩, List.mem_of_getElem? (i := 170) (by decide +kernel), List.mem_of_getElem? (i := 447) (by decide +kernel), List.mem_of_getElem? (i := 448) (by decide +kernel)⟩
theorem lw_p17 : lw_okq (⟨"GraphTexts$Reader", "readFraction", "(I)Z"⟩, 16) := ⟨⟨by decide +kernel, by decide +kernel⟩, List.mem_of_getElem? (i := 170) (by decide +kernel), List.mem_of_getElem? (i := 451) (by decide +kernel), List.mem_of_getElem? (i := 452) (by decide +kernel)⟩
theorem lw_p18 : lw_okq (⟨"GraphTexts$Reader", "readFigures", "(IZ)Z"⟩, 16) := ⟨⟨by decide +kernel, by decide +kernel⟩, List.mem_of_getElem? (i := 170) (by decide +kernel), List.mem_of_getElem? (i := 455) (by decide +kernel), List.mem_of_getElem? (i := 456) (by decide +kernel)⟩
theorem lw_p19 : lw_okq (⟨"GraphTexts$Reader", "thousandthsRead", "()I"⟩, 16) := ⟨⟨by decide +kernel, by decide +kernel⟩, List.mem_of_getElem? (i := 170) (by decide +kernel), List.mem_of_getElem? (i := 459) (by decide +kernel), List.mem_of_getElem? (i := 460) (by decide +kernel)⟩
theorem lw_p20 : lw_okq (⟨"GraphTexts$Reader", "endArc", "()Z"⟩, 16) := ⟨⟨by decide +kernel, by decide +kernel⟩, List.mem_of_getElem? (i := 170) (by decide +kernel), List.mem_of_getElem? (i := 469) (by decide +kernel), List.mem_of_getElem? (i := 470) (by decide +kernel)⟩
theorem lw_p21 : lw_okq (⟨"GraphTexts$Graph", "guessKind", "(I)I"⟩, 15) := ⟨⟨by decide +kernel, by decide +kernel⟩, List.mem_of_getElem? (i := 61) (by decide +kernel), List.mem_of_getElem? (i := 506) (by decide +kernel), List.mem_of_getElem? (i := 507) (by decide +kernel)⟩
theorem lw_p22 : lw_okq (⟨"GraphTexts$Reader", "countIsTrue", "()Z"⟩, 16) := ⟨⟨by decide +kernel, by decide +kernel⟩, List.mem_of_getElem? (i := 170) (by decide +kernel), List.mem_of_getElem? (i := 514) (by decide +kernel), List.mem_of_getElem? (i := 515) (by decide +kernel)⟩
theorem lw_p23 : lw_okq (⟨"GraphTexts$Writer", "writeComment", "(LGraphTexts$Graph;I)V"⟩, 1) := ⟨⟨by decide +kernel, by decide +kernel⟩, List.mem_of_getElem? (i := 51) (by decide +kernel), List.mem_of_getElem? (i := 564) (by decide +kernel), List.mem_of_getElem? (i := 565) (by decide +kernel)⟩
theorem lw_p24 : lw_okq (⟨"GraphTexts$Writer", "writeCount", "(LGraphTexts$Graph;)V"⟩, 1) := ⟨⟨by decide +kernel, by decide +kernel⟩, List.mem_of_getElem? (i := 51) (by decide +kernel), List.mem_of_getElem? (i := 577) (by decide +kernel), List.mem_of_getElem? (i := 578) (by decide +kernel)⟩
theorem lw_p25 : lw_okq (⟨"GraphTexts$Writer", "writeWhole", "(I)V"⟩, 1) := ⟨⟨by decide +kernel, by decide +kernel⟩, List.mem_of_getElem? (i := 51) (by decide +kernel), List.mem_of_getElem? (i := 581) (by decide +kernel), List.mem_of_getElem? (i := 582) (by decide +kernel)⟩
theorem lw_p26 : lw_okq (⟨"GraphTexts$Writer", "writeHead", "(LGraphTexts$Graph;I)V"⟩, 1) := ⟨⟨by decide +kernel, by decide +kernel⟩, List.mem_of_getElem? (i := 51) (by decide +kernel), List.mem_of_getElem? (i := 586) (by decide +kernel), List.mem_of_getElem? (i := 587) (by decide +kernel)⟩
theorem lw_p27 : lw_okq (⟨"GraphTexts$Writer", "writeName", "(LGraphTexts$Spans;I)V"⟩, 1) := ⟨⟨by decide +kernel, by decide +kernel⟩, List.mem_of_getElem? (i := 51) (by decide +kernel), List.mem_of_getElem? (i := 590) (by decide +kernel), List.mem_of_getElem? (i := 591) (by decide +kernel)⟩
theorem lw_p28 : lw_okq (⟨"GraphTexts$Writer", "writeArc", "(LGraphTexts$Graph;I)V"⟩, 1) := ⟨⟨by decide +kernel, by decide +kernel⟩, List.mem_of_getElem? (i := 51) (by decide +kernel), List.mem_of_getElem? (i := 604) (by decide +kernel), List.mem_of_getElem? (i := 605) (by decide +kernel)⟩
theorem lw_p29 : lw_okq (⟨"GraphTexts$Writer", "writeValue", "(LGraphTexts$Graph;II)V"⟩, 1) := ⟨⟨by decide +kernel, by decide +kernel⟩, List.mem_of_getElem? (i := 51) (by decide +kernel), List.mem_of_getElem? (i := 609) (by decide +kernel), List.mem_of_getElem? (i := 610) (by decide +kernel)⟩
theorem lw_p30 : lw_okq (⟨"GraphTexts$Writer", "writeThousandths", "(I)V"⟩, 1) := ⟨⟨by decide +kernel, by decide +kernel⟩, List.mem_of_getElem? (i := 51) (by decide +kernel), List.mem_of_getElem? (i := 613) (by decide +kernel), List.mem_of_getElem? (i := 614) (by decide +kernel)⟩
theorem lw_p31 : lw_okq (⟨"java/lang/NullPointerException", "getExtendedNPEMessage", "()Ljava/lang/String;"⟩, 8) := ⟨⟨by decide +kernel, by decide +kernel⟩, List.mem_of_getElem? (i := 655) (by decide +kernel), List.mem_of_getElem? (i := 653) (by decide +kernel), List.mem_of_getElem? (i := 654) (by decide +kernel)⟩
def lw_privs_2 : List (MethodName × Nat) := [(⟨"GraphTexts$Reader", "figuresOnly", "(I)Z"⟩, 16), (⟨"GraphTexts$Reader", "readFraction", "(I)Z"⟩, 16), (⟨"GraphTexts$Reader", "readFigures", "(IZ)Z"⟩, 16), (⟨"GraphTexts$Reader", "thousandthsRead", "()I"⟩, 16), (⟨"GraphTexts$Reader", "endArc", "()Z"⟩, 16), (⟨"GraphTexts$Graph", "guessKind", "(I)I"⟩, 15), (⟨"GraphTexts$Reader", "countIsTrue", "()Z"⟩, 16), (⟨"GraphTexts$Writer", "writeComment", "(LGraphTexts$Graph;I)V"⟩, 1), (⟨"GraphTexts$Writer", "writeCount", "(LGraphTexts$Graph;)V"⟩, 1), (⟨"GraphTexts$Writer", "writeWhole", "(I)V"⟩, 1), (⟨"GraphTexts$Writer", "writeHead", "(LGraphTexts$Graph;I)V"⟩, 1), (⟨"GraphTexts$Writer", "writeName", "(LGraphTexts$Spans;I)V"⟩, 1), (⟨"GraphTexts$Writer", "writeArc", "(LGraphTexts$Graph;I)V"⟩, 1), (⟨"GraphTexts$Writer", "writeValue", "(LGraphTexts$Graph;II)V"⟩, 1), (⟨"GraphTexts$Writer", "writeThousandths", "(I)V"⟩, 1), (⟨"java/lang/NullPointerException", "getExtendedNPEMessage", "()Ljava/lang/String;"⟩, 8)]
theorem lw_r2 : ∀ q ∈ lw_privs_2, lw_okq q := List.forall_mem_cons.mpr ⟨lw_p16, List.forall_mem_cons.mpr ⟨lw_p17, List.forall_mem_cons.mpr ⟨lw_p18, List.forall_mem_cons.mpr ⟨lw_p19, List.forall_mem_cons.mpr ⟨lw_p20, List.forall_mem_cons.mpr ⟨lw_p21, List.forall_mem_cons.mpr ⟨lw_p22, List.forall_mem_cons.mpr ⟨lw_p23, List.forall_mem_cons.mpr ⟨lw_p24, List.forall_mem_cons.mpr ⟨lw_p25, List.forall_mem_cons.mpr ⟨lw_p26, List.forall_mem_cons.mpr ⟨lw_p27, List.forall_mem_cons.mpr ⟨lw_p28, List.forall_mem_cons.mpr ⟨lw_p29, List.forall_mem_cons.mpr ⟨lw_p30, List.forall_mem_cons.mpr ⟨lw_p31, fun _ h => absurd h List.not_mem_nil⟩⟩⟩⟩⟩⟩⟩⟩⟩⟩⟩⟩⟩⟩⟩⟩
theorem lw_p32 : lw_okq (⟨"java/lang/Throwable", "fillInStackTrace", "(I)Ljava/lang/Throwable;"⟩, 6) := ⟨⟨by decide +kernel, by decide +kernel⟩, List.mem_of_getElem? (i := 664) (by decide +kernel), List.mem_of_getElem? (i := 662) (by decide +kernel), List.mem_of_getElem? (i := 663) (by decide +kernel)⟩
theorem lw_p33 : lw_okq (⟨"GraphTextsModel", "readLine", "()V"⟩, 42) := ⟨⟨by decide +kernel, by decide +kernel⟩, List.mem_of_getElem? (i := 819) (by decide +kernel), List.mem_of_getElem? (i := 967) (by decide +kernel), List.mem_of_getElem? (i := 968) (by decide +kernel)⟩
theorem lw_p34 : lw_okq (⟨"GraphTextsModel", "blanks", "()V"⟩, 42) := ⟨⟨by decide +kernel, by decide +kernel⟩, List.mem_of_getElem? (i := 819) (by decide +kernel), List.mem_of_getElem? (i := 971) (by decide +kernel), List.mem_of_getElem? (i := 972) (by decide +kernel)⟩
theorem lw_p35 : lw_okq (⟨"GraphTextsModel", "here", "()I"⟩, 42) := ⟨⟨by decide +kernel, by decide +kernel⟩, List.mem_of_getElem? (i := 819) (by decide +kernel), List.mem_of_getElem? (i := 975) (by decide +kernel), List.mem_of_getElem? (i := 976) (by decide +kernel)⟩
theorem lw_p36 : lw_okq (⟨"GraphTextsModel", "readComment", "()V"⟩, 42) := ⟨⟨by decide +kernel, by decide +kernel⟩, List.mem_of_getElem? (i := 819) (by decide +kernel), List.mem_of_getElem? (i := 979) (by decide +kernel), List.mem_of_getElem? (i := 980) (by decide +kernel)⟩
theorem lw_p37 : lw_okq (⟨"GraphTextsModel", "wrong", "(II)V"⟩, 42) := ⟨⟨by decide +kernel, by decide +kernel⟩, List.mem_of_getElem? (i := 819) (by decide +kernel), List.mem_of_getElem? (i := 983) (by decide +kernel), List.mem_of_getElem? (i := 984) (by decide +kernel)⟩
theorem lw_p38 : lw_okq (⟨"GraphTextsModel", "laySort", "(I)V"⟩, 42) := ⟨⟨by decide +kernel, by decide +kernel⟩, List.mem_of_getElem? (i := 819) (by decide +kernel), List.mem_of_getElem? (i := 987) (by decide +kernel), List.mem_of_getElem? (i := 988) (by decide +kernel)⟩
theorem lw_p39 : lw_okq (⟨"GraphTextsModel", "readCount", "()V"⟩, 42) := ⟨⟨by decide +kernel, by decide +kernel⟩, List.mem_of_getElem? (i := 819) (by decide +kernel), List.mem_of_getElem? (i := 991) (by decide +kernel), List.mem_of_getElem? (i := 992) (by decide +kernel)⟩
theorem lw_p40 : lw_okq (⟨"GraphTextsModel", "ended", "()V"⟩, 42) := ⟨⟨by decide +kernel, by decide +kernel⟩, List.mem_of_getElem? (i := 819) (by decide +kernel), List.mem_of_getElem? (i := 995) (by decide +kernel), List.mem_of_getElem? (i := 996) (by decide +kernel)⟩
theorem lw_p41 : lw_okq (⟨"GraphTextsModel", "readHead", "()V"⟩, 42) := ⟨⟨by decide +kernel, by decide +kernel⟩, List.mem_of_getElem? (i := 819) (by decide +kernel), List.mem_of_getElem? (i := 1002) (by decide +kernel), List.mem_of_getElem? (i := 1003) (by decide +kernel)⟩
theorem lw_p42 : lw_okq (⟨"GraphTextsModel", "readName", "()V"⟩, 42) := ⟨⟨by decide +kernel, by decide +kernel⟩, List.mem_of_getElem? (i := 819) (by decide +kernel), List.mem_of_getElem? (i := 1006) (by decide +kernel), List.mem_of_getElem? (i := 1007) (by decide +kernel)⟩
theorem lw_p43 : lw_okq (⟨"GraphTextsModel", "readQuoted", "()V"⟩, 42) := ⟨⟨by decide +kernel, by decide +kernel⟩, List.mem_of_getElem? (i := 819) (by decide +kernel), List.mem_of_getElem? (i := 1010) (by decide +kernel), List.mem_of_getElem? (i := 1011) (by decide +kernel)⟩
theorem lw_p44 : lw_okq (⟨"GraphTextsModel", "sign", "(II)V"⟩, 42) := ⟨⟨by decide +kernel, by decide +kernel⟩, List.mem_of_getElem? (i := 819) (by decide +kernel), List.mem_of_getElem? (i := 1014) (by decide +kernel), List.mem_of_getElem? (i := 1015) (by decide +kernel)⟩
theorem lw_p45 : lw_okq (⟨"GraphTextsModel", "isSame", "([II)Z"⟩, 42) := ⟨⟨by decide +kernel, by decide +kernel⟩, List.mem_of_getElem? (i := 819) (by decide +kernel), List.mem_of_getElem? (i := 1021) (by decide +kernel), List.mem_of_getElem? (i := 1022) (by decide +kernel)⟩
theorem lw_p46 : lw_okq (⟨"GraphTextsModel", "layName", "([II)V"⟩, 42) := ⟨⟨by decide +kernel, by decide +kernel⟩, List.mem_of_getElem? (i := 819) (by decide +kernel), List.mem_of_getElem? (i := 1025) (by decide +kernel), List.mem_of_getElem? (i := 1026) (by decide +kernel)⟩
theorem lw_p47 : lw_okq (⟨"GraphTextsModel", "readArc", "()V"⟩, 42) := ⟨⟨by decide +kernel, by decide +kernel⟩, List.mem_of_getElem? (i := 819) (by decide +kernel), List.mem_of_getElem? (i := 1029) (by decide +kernel), List.mem_of_getElem? (i := 1030) (by decide +kernel)⟩
def lw_privs_3 : List (MethodName × Nat) := [(⟨"java/lang/Throwable", "fillInStackTrace", "(I)Ljava/lang/Throwable;"⟩, 6), (⟨"GraphTextsModel", "readLine", "()V"⟩, 42), (⟨"GraphTextsModel", "blanks", "()V"⟩, 42), (⟨"GraphTextsModel", "here", "()I"⟩, 42), (⟨"GraphTextsModel", "readComment", "()V"⟩, 42), (⟨"GraphTextsModel", "wrong", "(II)V"⟩, 42), (⟨"GraphTextsModel", "laySort", "(I)V"⟩, 42), (⟨"GraphTextsModel", "readCount", "()V"⟩, 42), (⟨"GraphTextsModel", "ended", "()V"⟩, 42), (⟨"GraphTextsModel", "readHead", "()V"⟩, 42), (⟨"GraphTextsModel", "readName", "()V"⟩, 42), (⟨"GraphTextsModel", "readQuoted", "()V"⟩, 42), (⟨"GraphTextsModel", "sign", "(II)V"⟩, 42), (⟨"GraphTextsModel", "isSame", "([II)Z"⟩, 42), (⟨"GraphTextsModel", "layName", "([II)V"⟩, 42), (⟨"GraphTextsModel", "readArc", "()V"⟩, 42)]
theorem lw_r3 : ∀ q ∈ lw_privs_3, lw_okq q := List.forall_mem_cons.mpr ⟨lw_p32, List.forall_mem_cons.mpr ⟨lw_p33, List.forall_mem_cons.mpr ⟨lw_p34, List.forall_mem_cons.mpr ⟨lw_p35, List.forall_mem_cons.mpr ⟨lw_p36, List.forall_mem_cons.mpr ⟨lw_p37, List.forall_mem_cons.mpr ⟨lw_p38, List.forall_mem_cons.mpr ⟨lw_p39, List.forall_mem_cons.mpr ⟨lw_p40, List.forall_mem_cons.mpr ⟨lw_p41, List.forall_mem_cons.mpr ⟨lw_p42, List.forall_mem_cons.mpr ⟨lw_p43, List.forall_mem_cons.mpr ⟨lw_p44, List.forall_mem_cons.mpr ⟨lw_p45, List.forall_mem_cons.mpr ⟨lw_p46, List.forall_mem_cons.mpr ⟨lw_p47, fun _ h => absurd h List.not_mem_nil⟩⟩⟩⟩⟩⟩⟩⟩⟩⟩⟩⟩⟩⟩⟩⟩
theorem lw_p48 : lw_okq (⟨"GraphTextsModel", "nodeOf", "(I)I"⟩, 42) := ⟨⟨by decide +kernel, by decide +kernel⟩, List.mem_of_getElem? (i := 819) (by decide +kernel), List.mem_of_getElem? (i := 1033) (by decide +kernel), List.mem_of_getElem? (i := 1034) (by decide +kernel)⟩
theorem lw_p49 : lw_okq (⟨"GraphTextsModel", "isDoubled", "(II)Z"⟩, 42) := ⟨⟨by decide +kernel, by decide +kernel⟩, List.mem_of_getElem? (i := 819) (by decide +kernel), List.mem_of_getElem? (i := 1037) (by decide +kernel), List.mem_of_getElem? (i := 1038) (by decide +kernel)⟩
theorem lw_p50 : lw_okq (⟨"GraphTextsModel", "readValue", "(I)V"⟩, 42) := ⟨⟨by decide +kernel, by decide +kernel⟩, List.mem_of_getElem? (i := 819) (by decide +kernel), List.mem_of_getElem? (i := 1041) (by decide +kernel), List.mem_of_getElem? (i := 1042) (by decide +kernel)⟩
theorem lw_p51 : lw_okq (⟨"GraphTextsModel", "readNumber", "(Z)V"⟩, 42) := ⟨⟨by decide +kernel, by decide +kernel⟩, List.mem_of_getElem? (i := 819) (by decide +kernel), List.mem_of_getElem? (i := 1045) (by decide +kernel), List.mem_of_getElem? (i := 1046) (by decide +kernel)⟩
theorem lw_p52 : lw_okq (⟨"GraphTextsModel", "readDecimals", "()V"⟩, 42) := ⟨⟨by decide +kernel, by decide +kernel⟩, List.mem_of_getElem? (i := 819) (by decide +kernel), List.mem_of_getElem? (i := 1049) (by decide +kernel), List.mem_of_getElem? (i := 1050) (by decide +kernel)⟩
theorem lw_p53 : lw_okq (⟨"GraphTextsModel", "readAny", "(I)V"⟩, 42) := ⟨⟨by decide +kernel, by decide +kernel⟩, List.mem_of_getElem? (i := 819) (by decide +kernel), List.mem_of_getElem? (i := 1053) (by decide +kernel), List.mem_of_getElem? (i := 1054) (by decide +kernel)⟩
theorem lw_p54 : lw_okq (⟨"GraphTextsModel", "plainSort", "()I"⟩, 42) := ⟨⟨by decide +kernel, by decide +kernel⟩, List.mem_of_getElem? (i := 819) (by decide +kernel), List.mem_of_getElem? (i := 1057) (by decide +kernel), List.mem_of_getElem? (i := 1058) (by decide +kernel)⟩
theorem lw_p55 : lw_okq (⟨"GraphTextsModel", "readPlainDecimal", "()V"⟩, 42) := ⟨⟨by decide +kernel, by decide +kernel⟩, List.mem_of_getElem? (i := 819) (by decide +kernel), List.mem_of_getElem? (i := 1061) (by decide +kernel), List.mem_of_getElem? (i := 1062) (by decide +kernel)⟩
theorem lw_p56 : lw_okq (⟨"GraphTextsModel", "layArc", "(II)V"⟩, 42) := ⟨⟨by decide +kernel, by decide +kernel⟩, List.mem_of_getElem? (i := 819) (by decide +kernel), List.mem_of_getElem? (i := 1065) (by decide +kernel), List.mem_of_getElem? (i := 1066) (by decide +kernel)⟩
theorem lw_p57 : lw_okq (⟨"GraphTextsModel", "lie", "(II)V"⟩, 42) := ⟨⟨by decide +kernel, by decide +kernel⟩, List.mem_of_getElem? (i := 819) (by decide +kernel), List.mem_of_getElem? (i := 1069) (by decide +kernel), List.mem_of_getElem? (i := 1070) (by decide +kernel)⟩
theorem lw_p58 : lw_okq (⟨"GraphTextsModel", "guessKinds", "()V"⟩, 42) := ⟨⟨by decide +kernel, by decide +kernel⟩, List.mem_of_getElem? (i := 819) (by decide +kernel), List.mem_of_getElem? (i := 1073) (by decide +kernel), List.mem_of_getElem? (i := 1074) (by decide +kernel)⟩
theorem lw_p59 : lw_okq (⟨"GraphTextsModel", "takeOver", "()V"⟩, 42) := ⟨⟨by decide +kernel, by decide +kernel⟩, List.mem_of_getElem? (i := 819) (by decide +kernel), List.mem_of_getElem? (i := 1077) (by decide +kernel), List.mem_of_getElem? (i := 1078) (by decide +kernel)⟩
theorem lw_p60 : lw_okq (⟨"GraphTextsModel", "isColumn", "(I)Z"⟩, 42) := ⟨⟨by decide +kernel, by decide +kernel⟩, List.mem_of_getElem? (i := 819) (by decide +kernel), List.mem_of_getElem? (i := 1108) (by decide +kernel), List.mem_of_getElem? (i := 1109) (by decide +kernel)⟩
theorem lw_p61 : lw_okq (⟨"GraphTextsModel", "put", "(I)V"⟩, 42) := ⟨⟨by decide +kernel, by decide +kernel⟩, List.mem_of_getElem? (i := 819) (by decide +kernel), List.mem_of_getElem? (i := 1132) (by decide +kernel), List.mem_of_getElem? (i := 1133) (by decide +kernel)⟩
theorem lw_p62 : lw_okq (⟨"GraphTextsModel", "putWhole", "(I)V"⟩, 42) := ⟨⟨by decide +kernel, by decide +kernel⟩, List.mem_of_getElem? (i := 819) (by decide +kernel), List.mem_of_getElem? (i := 1136) (by decide +kernel), List.mem_of_getElem? (i := 1137) (by decide +kernel)⟩
theorem lw_p63 : lw_okq (⟨"GraphTextsModel", "putName", "([II)V"⟩, 42) := ⟨⟨by decide +kernel, by decide +kernel⟩, List.mem_of_getElem? (i := 819) (by decide +kernel), List.mem_of_getElem? (i := 1140) (by decide +kernel), List.mem_of_getElem? (i := 1141) (by decide +kernel)⟩
def lw_privs_4 : List (MethodName × Nat) := [(⟨"GraphTextsModel", "nodeOf", "(I)I"⟩, 42), (⟨"GraphTextsModel", "isDoubled", "(II)Z"⟩, 42), (⟨"GraphTextsModel", "readValue", "(I)V"⟩, 42), (⟨"GraphTextsModel", "readNumber", "(Z)V"⟩, 42), (⟨"GraphTextsModel", "readDecimals", "()V"⟩, 42), (⟨"GraphTextsModel", "readAny", "(I)V"⟩, 42), (⟨"GraphTextsModel", "plainSort", "()I"⟩, 42), (⟨"GraphTextsModel", "readPlainDecimal", "()V"⟩, 42), (⟨"GraphTextsModel", "layArc", "(II)V"⟩, 42), (⟨"GraphTextsModel", "lie", "(II)V"⟩, 42), (⟨"GraphTextsModel", "guessKinds", "()V"⟩, 42), (⟨"GraphTextsModel", "takeOver", "()V"⟩, 42), (⟨"GraphTextsModel", "isColumn", "(I)Z"⟩, 42), (⟨"GraphTextsModel", "put", "(I)V"⟩, 42), (⟨"GraphTextsModel", "putWhole", "(I)V"⟩, 42), (⟨"GraphTextsModel", "putName", "([II)V"⟩, 42)]
theorem lw_r4 : ∀ q ∈ lw_privs_4, lw_okq q := List.forall_mem_cons.mpr ⟨lw_p48, List.forall_mem_cons.mpr ⟨lw_p49, List.forall_mem_cons.mpr ⟨lw_p50, List.forall_mem_cons.mpr ⟨lw_p51, List.forall_mem_cons.mpr ⟨lw_p52, List.forall_mem_cons.mpr ⟨lw_p53, List.forall_mem_cons.mpr ⟨lw_p54, List.forall_mem_cons.mpr ⟨lw_p55, List.forall_mem_cons.mpr ⟨lw_p56, List.forall_mem_cons.mpr ⟨lw_p57, List.forall_mem_cons.mpr ⟨lw_p58, List.forall_mem_cons.mpr ⟨lw_p59, List.forall_mem_cons.mpr ⟨lw_p60, List.forall_mem_cons.mpr ⟨lw_p61, List.forall_mem_cons.mpr ⟨lw_p62, List.forall_mem_cons.mpr ⟨lw_p63, fun _ h => absurd h List.not_mem_nil⟩⟩⟩⟩⟩⟩⟩⟩⟩⟩⟩⟩⟩⟩⟩⟩
theorem lw_p64 : lw_okq (⟨"GraphTextsModel", "putArc", "(I)V"⟩, 42) := ⟨⟨by decide +kernel, by decide +kernel⟩, List.mem_of_getElem? (i := 819) (by decide +kernel), List.mem_of_getElem? (i := 1144) (by decide +kernel), List.mem_of_getElem? (i := 1145) (by decide +kernel)⟩
theorem lw_p65 : lw_okq (⟨"GraphTextsModel", "putNumber", "(I)V"⟩, 42) := ⟨⟨by decide +kernel, by decide +kernel⟩, List.mem_of_getElem? (i := 819) (by decide +kernel), List.mem_of_getElem? (i := 1148) (by decide +kernel), List.mem_of_getElem? (i := 1149) (by decide +kernel)⟩
def lw_privs_5 : List (MethodName × Nat) := [(⟨"GraphTextsModel", "putArc", "(I)V"⟩, 42), (⟨"GraphTextsModel", "putNumber", "(I)V"⟩, 42)]
theorem lw_r5 : ∀ q ∈ lw_privs_5, lw_okq q := List.forall_mem_cons.mpr ⟨lw_p64, List.forall_mem_cons.mpr ⟨lw_p65, fun _ h => absurd h List.not_mem_nil⟩⟩
def lw_privs : List (MethodName × Nat) := lw_privs_1 ++ (lw_privs_2 ++ (lw_privs_3 ++ (lw_privs_4 ++ (lw_privs_5))))
def lw_tbl : List Cond := k2_sels lw_privs ++ tables_1
theorem lw_privs_ok : ∀ q ∈ lw_privs, lw_okq q := by
  show ∀ q ∈ lw_privs_1 ++ (lw_privs_2 ++ (lw_privs_3 ++ (lw_privs_4 ++ (lw_privs_5)))), lw_okq q
  exact List.forall_mem_append.mpr ⟨lw_r1, List.forall_mem_append.mpr ⟨lw_r2, List.forall_mem_append.mpr ⟨lw_r3, List.forall_mem_append.mpr ⟨lw_r4, lw_r5⟩⟩⟩⟩
end
section
/-! ===== BEGIN words of one list among another's, by their places ===== -/
theorem goodIn_r {big : List Cond} (ws : List Cond) (ps : List Nat) (hp : ws = ps.filterMap (fun i => big[i]?)) (h : ws.all goodWord = true) : GoodIn big ws := by
  intro w hw
  have h1 := List.all_eq_true.mp h w hw
  rw [hp] at hw
  obtain ⟨i, -, hi⟩ := List.mem_filterMap.mp hw
  have hm : w ∈ big := by first | exact List.mem_of_getElem? hi | exact List.getElem?_mem hi
  exact ⟨hm, good_of_word h1⟩
theorem goodIn_app {big a b : List Cond} (ha : GoodIn big a) (hb : GoodIn big b) : GoodIn big (a ++ b) := fun w h => (List.mem_append.mp h).elim (ha w) (hb w)
theorem goodIn_ca {big a b : List Cond} {c : Cond} (ha : GoodIn big (c :: a)) (hb : GoodIn big b) : GoodIn big (c :: (a ++ b)) := fun w h => (List.mem_cons.mp h).elim (fun e => ha w (List.mem_cons.mpr (Or.inl e))) (fun h => (List.mem_append.mp h).elim (fun h => ha w (List.mem_cons.mpr (Or.inr h))) (hb w))
theorem goodIn_sub {big ws : List Cond} (hm : ∀ w ∈ ws, w ∈ big) (h : ws.all goodWord = true) : GoodIn big ws := fun w hw => ⟨hm w hw, good_of_word (List.all_eq_true.mp h w hw)⟩
/-! ===== END ===== -/

/-! ===== BEGIN exceptions that leave a method, and their catching by the caller (launches without stack traces) ===== -/
section VXA
/-! The laws vx_back, vx_callV, vx_callS, vx_callSW, vx_throw0, vx_throwS follow proofs of the library, with one case more: JvmDerived/Free/Laws.lean (Back.of_free), Shelf42/LK1.lean (callV, callS), Shelf/KitTraced.lean (throwNew0V, throwNewS). -/
/-- where a method has thrown q: the class by its name, the cell, what was written, the world -/
def vx_T (XC : String → State → State → Prop) (st : State) (q : Addr) (t : State) (mc ms : Nat) (free : Addr → Prop) : Prop :=
  ∃ (E : String) (ce : Cell) (L : List Loc), XC E st t ∧ t.heap[q]? = some ce ∧ ce.vm = .none ∧ st.vm.findClass E = some ce.cls ∧ st.WarmedH t.vm ∧ st.sameButNew ({ t with vm := st.vm } : State) L mc ms ∧ ∀ z ∈ L, free z.base
def vx_Q (Qc : Array Value → State → Outcome → State → Prop) (XC : String → State → State → Prop) (mc ms : Nat) (free : Addr → Prop) : Array Value → State → Outcome → State → Prop := fun a st o t =>
  (Qc a st o t ∧ ∃ L, FrameEnd st o t L mc ms ∧ ∀ q ∈ L, free q.base) ∨ ∃ q, o = .threw q ∧ vx_T XC st q t mc ms free
/-- a callee that returns or throws -/
def vx_Met (l : Launch) (y : MethodName) (ws : List Cond) (rm : Room) (Pc : Array Value → State → Prop) (Qc : Array Value → State → Outcome → State → Prop) (XC : String → State → State → Prop) (mc ms : Nat) (free : Addr → Prop) : Prop :=
  MetFree l y (headSpec ws rm) Pc (fun _ _ _ _ _ => True) (vx_Q Qc XC mc ms free)
def vx_Post (XC : String → State → State → Prop) (mc ms : Nat) (free : Addr → Prop) : Pt → Array Value → Addr → Pt → Prop := fun A a q B =>
  ∃ (g : JFrame) (mk : MethodId) (t : State) (L : List Loc) (E : String) (ce : Cell), B.U.heap = t.heap ∧ B.U.vm = t.vm ∧ XC E (A.U.calling g mk a) t ∧ t.heap[q]? = some ce ∧ ce.vm = .none ∧ A.U.vm.findClass E = some ce.cls ∧ B.locs = A.locs ++ L ∧ (∀ z ∈ L, free z.base) ∧ B.cells = A.cells + mc ∧ B.slots = A.slots + ms
def vx_Back (l : Launch) (R : Room) (p : Program) (e : Env) (below : List Frame) (s : State) (sargs : Array Value) (y : MethodName) (len W9 : Nat)
    (Pre : Pt → Array Value → Prop) (Post : Pt → Array Value → Option Value → Pt → Prop) (PostX : Pt → Array Value → Addr → Pt → Prop) : Prop :=
  ∀ (m : MethodId) (meth : Method) (c : Code) (A : Pt) (g : JFrame) (ig : Instr) (mk : MethodId) (a : Array Value),
    Stand p l e R s m sargs below meth c A.U A.locs A.cells A.slots → g.method = m → g.locals.size = c.maxLocals → decode c.code g.pc = .ok (ig, len) →
    2 * g.monitorRoom + (g.stack.map fun v => v.category).sum ≤ W9 → A.U.methodNamed? y = some mk → Pre A a →
    (∃ (v : Option Value) (B : Pt), Stand p l e R s m sargs below meth c B.U B.locs B.cells B.slots ∧ Post A a v B ∧
      Steps p.tables e below (doInvoke e (A.U.setTop g) [] mk a).1 (B.U.setTop { g with pc := g.pc + len, stack := v.toList ++ g.stack })) ∨
    (∃ (q : Addr) (B : Pt), Stand p l e R s m sargs below meth c B.U B.locs B.cells B.slots ∧ PostX A a q B ∧
      Steps p.tables e below (doInvoke e (A.U.setTop g) [] mk a).1 ((B.U.setTop g).pushFrame (.throwing q)))
section Payer
variable {l : Launch} {R : Room} {p : Program} {e : Env} {below : List Frame} {s : State} {sargs : Array Value} {y : MethodName} {len W9 : Nat}
theorem vx_back {ws : List Cond} {rm : Room} {Pc : Array Value → State → Prop} {Qc : Array Value → State → Outcome → State → Prop} {XC : String → State → State → Prop} {mc ms : Nat} {free : Addr → Prop} {bytes : ByteArray} {maxL : Nat} {ret : Option FieldType}
    (hM : vx_Met l y ws rm Pc Qc XC mc ms free) (hblind : FrameBlind Pc) (hrc : rm.cells = mc) (hrs : rm.slots = ms)
    (hframes : rm.frames + 1 ≤ R.frames) (hlocals : W9 + (maxL + 11) + rm.locals ≤ R.locals)
    (hws : ∀ w ∈ ws, ∀ a' U, s.WarmedH U.vm → w.before a' U = true) (hcode : Cond.code y bytes maxL ret ∈ ws) (hinit : ∀ a' U, s.WarmedH U.vm → (Cond.initialized y.cls).before a' U = true) :
    vx_Back l R p e below s sargs y len W9 (PreOf R mc ms Pc) (PostOf Qc mc ms free) (vx_Post XC mc ms free) := by
  intro m meth c A g ig mk a X hg hsize hdg hW hn hp
  have h1 : (headSpec ws rm).pre.before a A.U = true := atoms_intro fun w hw => hws w hw _ _ X.warmed
  have h2 : (Cond.code y bytes maxL ret).before a A.U = true := hws _ hcode _ _ X.warmed
  have h3 : (Cond.initialized y.cls).before a A.U = true := hinit _ _ X.warmed
  have h4 : A.cells + (headSpec ws rm).room.cells ≤ R.cells := by rw [show (headSpec ws rm).room.cells = mc from hrc]; exact hp.1
  have h5 : A.slots + (headSpec ws rm).room.slots ≤ R.slots := by rw [show (headSpec ws rm).room.slots = ms from hrs]; exact hp.2.1
  have hPc : Pc a (A.U.calling g mk a) := hblind _ _ _ _ hp.2.2
  obtain ⟨U, Ls, c0, s0⟩ := A
  dsimp only [Pt.U, Pt.locs, Pt.cells, Pt.slots] at h1 h2 h3 h4 h5 X hn hPc ⊢
  obtain ⟨methY, cY, hmY, hcY, -, hlY, -, -, -, -⟩ := Cond.code_spec hn h2
  obtain ⟨kY, hkY, -⟩ := className_of_methodNamed hn
  have hinitY : kY.init = .initialized := Cond.initialized_spec (findClass_of_methodNamed hn) hkY h3
  have h : At U g.method c below := by rw [hg]; exact X.here
  have hlocals9 : W9 + (maxL + 11) + (headSpec ws rm).room.locals ≤ R.locals := hlocals
  have happ : (headSpec ws rm).appliesLoose y e.platform (U.calling g mk a) = true :=
    Spec.appliesLoose_calling (g := g) h hdg hn hkY hinitY
      (X.room_calling (g := g) (R' := (headSpec ws rm).room) hsize hmY hcY hframes (by rw [hlY]; omega) h4 h5) h1
  obtain ⟨mid, hmid⟩ := h.above
  have hfr : (U.setTop g).frames = (.java g :: mid) ++ below := by rw [State.frames_setTop' g h.top, hmid]; rfl
  obtain ⟨o, s₂, hsteps, -, hend, hq⟩ := Steps.callFree hM p X.admits X.cas X.clock (acts := []) hfr happ hPc trivial
  have hq' : vx_Q Qc XC mc ms free a (U.calling g mk a) o s₂ := hq
  rw [State.frames_setTop' g h.top] at hend
  obtain ⟨g₀, hg0⟩ := Option.isSome_iff_exists.mp h.top
  obtain ⟨r, hr⟩ := State.topJava?_eq_some.mp hg0
  have hr' : (({ U with heap := s₂.heap, slotsUsed := s₂.slotsUsed } : State).setVm s₂.vm).frames = .java g₀ :: r := hr
  rcases hq' with ⟨hqc, L, hfe, hL⟩ | ⟨q, rfl, E, ce, L, hx, hce, hcv, hcl, hW₂, hsm, hL⟩
  · obtain ⟨⟨v, rfl⟩, hW₂, e2, q2, q3, q4, q5, q6⟩ := id hfe
    have e3 : s₂ = ({ (U.calling g mk a).setFrames s₂.frames with heap := s₂.heap, slotsUsed := s₂.slotsUsed } : State).setVm s₂.vm := by
      have : s₂ = ({ s₂ with vm := (U.calling g mk a).vm } : State).setVm s₂.vm := rfl
      rw [e2] at this
      exact this
    obtain ⟨c₂, i₂, len₂, hc₂, hd₂, hf₂⟩ := hend
    have hW' : U.WarmedH s₂.vm := hW₂
    have hcc : c₂ = c := by
      have h1 : s₂.code? g.method = U.code? g.method := by
        rw [State.code?_eq, State.code?_eq, hW'.alike.method?]
      exact Option.some.inj (hc₂.symm.trans (h1.trans h.code))
    subst hcc
    have hlen : len₂ = len := by rw [hdg] at hd₂; cases hd₂; rfl
    subst hlen
    have hs₂ : s₂ = (({ U with heap := s₂.heap, slotsUsed := s₂.slotsUsed } : State).setVm s₂.vm).setTop { g with pc := g.pc + len₂, stack := v.toList ++ g.stack } := by
      refine e3.trans ?_
      rw [hf₂, State.calling_eq h.top, State.setFrames_setFrames, State.setTop_of_frames _ hr', hr]
      rfl
    have hsame : U.sameButNew ({ U with heap := s₂.heap, slotsUsed := s₂.slotsUsed } : State) L mc ms := by
      refine ⟨?_, q2, q3, q4, q5, q6⟩
      obtain ⟨t, ht, -⟩ := State.frames_cons hr
      show ({ U with heap := s₂.heap, slotsUsed := s₂.slotsUsed } : State) = { U.setFrames U.frames with heap := s₂.heap, slotsUsed := s₂.slotsUsed }
      rw [State.setFrames_self ht]
    subst hg
    refine Or.inl ⟨v, ⟨(({ U with heap := s₂.heap, slotsUsed := s₂.slotsUsed } : State).setVm s₂.vm), Ls ++ L, c0 + mc, s0 + ms⟩,
      ⟨X.admits, X.cas, X.clock, X.frames, X.room, X.hears, X.method, X.code, (X.here.setHeapUsed s₂.heap s₂.slotsUsed).setVm hW'.alike, X.tail, State.WarmedH.trans X.warmed hW', X.limits, X.bytes, X.same.trans (hsame.setVm s.vm)⟩,
      ⟨g, mk, s₂, L, rfl, rfl, hqc, rfl, hL, rfl, rfl⟩, ?_⟩
    show Steps p.tables e below _ ((({ U with heap := s₂.heap, slotsUsed := s₂.slotsUsed } : State).setVm s₂.vm).setTop { g with pc := g.pc + len₂, stack := v.toList ++ g.stack })
    rw [← hs₂]
    exact hsteps
  · obtain ⟨e2, q2, q3, q4, q5, q6⟩ := id hsm
    have e3 : s₂ = ({ (U.calling g mk a).setFrames s₂.frames with heap := s₂.heap, slotsUsed := s₂.slotsUsed } : State).setVm s₂.vm := by
      have : s₂ = ({ s₂ with vm := (U.calling g mk a).vm } : State).setVm s₂.vm := rfl
      rw [e2] at this
      exact this
    have hf₂ : s₂.frames = .throwing q :: .java g :: U.frames.tail := hend
    have hW' : U.WarmedH s₂.vm := hW₂
    have hs₂ : s₂ = ((({ U with heap := s₂.heap, slotsUsed := s₂.slotsUsed } : State).setVm s₂.vm).setTop g).pushFrame (.throwing q) := by
      refine e3.trans ?_
      rw [hf₂, State.calling_eq h.top, State.setFrames_setFrames, State.pushFrame, State.frames_setTop _ hr', State.setTop_of_frames _ hr', State.setFrames_setFrames, hr]
      rfl
    have hsame : U.sameButNew ({ U with heap := s₂.heap, slotsUsed := s₂.slotsUsed } : State) L mc ms := by
      refine ⟨?_, q2, q3, q4, q5, q6⟩
      obtain ⟨t, ht, -⟩ := State.frames_cons hr
      show ({ U with heap := s₂.heap, slotsUsed := s₂.slotsUsed } : State) = { U.setFrames U.frames with heap := s₂.heap, slotsUsed := s₂.slotsUsed }
      rw [State.setFrames_self ht]
    subst hg
    refine Or.inr ⟨q, ⟨(({ U with heap := s₂.heap, slotsUsed := s₂.slotsUsed } : State).setVm s₂.vm), Ls ++ L, c0 + mc, s0 + ms⟩,
      ⟨X.admits, X.cas, X.clock, X.frames, X.room, X.hears, X.method, X.code, (X.here.setHeapUsed s₂.heap s₂.slotsUsed).setVm hW'.alike, X.tail, State.WarmedH.trans X.warmed hW', X.limits, X.bytes, X.same.trans (hsame.setVm s.vm)⟩,
      ⟨g, mk, s₂, L, E, ce, rfl, rfl, hx, hce, hcv, hcl, rfl, hL, rfl, rfl⟩, ?_⟩
    show Steps p.tables e below _ (((({ U with heap := s₂.heap, slotsUsed := s₂.slotsUsed } : State).setVm s₂.vm).setTop g).pushFrame (.throwing q))
    rw [← hs₂]
    exact hsteps
end Payer
section Calls
variable {p : Program} {l : Launch} {e : Env} {R : Room} {s : State} {m : MethodId} {args : Array Value} {below : List Frame} {meth : Method} {c : Code} {T : State} {locs : List Loc} {cells slots : Nat}
theorem vx_callV (X : Stand p l e R s m args below meth c T locs cells slots) (hexec : p.tables.exec = Jvm.exec) {own C : String} {index : Nat} {y : MethodName} {bytes : ByteArray} {maxL : Nat} {ret : Option FieldType}
    (hown : s.vm.findClass own = some m.cls) (hlink : (Cond.methodLink own index y).before args s = true) (hinst : (Cond.instanceMethod y).before args s = true) (hsel : (Cond.selects C y y).before args s = true)
    (hcode : (Cond.code y bytes maxL ret).before args s = true) (hy : y.cls ≠ "java/lang/invoke/MethodHandle" ∧ y.cls ≠ "java/lang/invoke/VarHandle")
    {W9 : Nat} {Pre : Pt → Array Value → Prop} {Post : Pt → Array Value → Option Value → Pt → Prop} {PostX : Pt → Array Value → Addr → Pt → Prop} (hK : vx_Back l R p e below s args y 3 W9 Pre Post PostX)
    {b : Addr} {cellB : Cell} (hcell : T.heap[b]? = some cellB) (hobj : cellB.vm.isStatics = false) (hcls : s.vm.findClass C = some cellB.cls)
    {g : JFrame} (hg : g.method = m) (hsize : g.locals.size = c.maxLocals) {argsL rest : List Value} (hlen : ∀ sig, parseMethodDescriptor y.desc = some sig → argsL.length = sig.parameters.length)
    (hstack : g.stack = argsL.reverse ++ .ref b :: rest) (hW : 2 * g.monitorRoom + (rest.map fun v => v.category).sum ≤ W9) (hdg : decode c.code g.pc = .ok (.invokevirtual index, 3))
    (hpre : ∀ vm₁, s.WarmedH vm₁ → Pre ⟨T.setVm vm₁, locs, cells, slots⟩ (Value.ref b :: argsL).toArray) :
    (∃ (v : Option Value) (vm₁ : Vm) (B : Pt), s.WarmedH vm₁ ∧ Stand p l e R s m args below meth c B.U B.locs B.cells B.slots ∧ Post ⟨T.setVm vm₁, locs, cells, slots⟩ (Value.ref b :: argsL).toArray v B ∧
      ∀ target, Steps p.tables e below (B.U.setTop { g with pc := g.pc + 3, stack := v.toList ++ rest }) target → Steps p.tables e below (T.setTop g) target) ∨
    (∃ (q : Addr) (vm₁ : Vm) (B : Pt), s.WarmedH vm₁ ∧ Stand p l e R s m args below meth c B.U B.locs B.cells B.slots ∧ PostX ⟨T.setVm vm₁, locs, cells, slots⟩ (Value.ref b :: argsL).toArray q B ∧
      Steps p.tables e below (T.setTop g) ((B.U.setTop { g with stack := rest }).pushFrame (.throwing q))) := by
  obtain ⟨mk, methM, hnamed, hmethM, hstM, habM⟩ := Cond.instanceMethod_spec hinst
  obtain ⟨methM', cM, hmethM', -, -, -, -, -, -, hsigM⟩ := Cond.code_spec hnamed hcode
  cases hmethM.symm.trans hmethM'
  obtain ⟨c2, r2, m2, q1, q2, q3, q4, kP, hkP, hkPi⟩ := Cond.selects_spec hsel
  cases hcls.symm.trans q1
  cases (State.methodFound?_of_named hnamed hy).symm.trans q2
  cases hnamed.symm.trans q3
  have hselP : selectMethod e.platform s.vm cellB.cls mk = .method mk := by rw [Launch.admits_selectMethod X.admits]; exact q4
  obtain ⟨vm₁, X₁, hstep₁⟩ := X.invokevirtual hexec hown hlink hnamed hmethM hstM hkP hkPi hy (a := b) (cell := cellB) hcell
    (fun z h => by rw [h] at hobj; cases hobj) hselP hmethM habM hkP hkPi (g := g) hg (argsL := argsL) (rest := rest) (hlen _ hsigM) hstack hdg
  rcases hK m meth c ⟨T.setVm vm₁, locs, cells, slots⟩ { g with stack := rest } (.invokevirtual index) mk (Value.ref b :: argsL).toArray X₁ hg hsize hdg hW (X₁.named hnamed) (hpre vm₁ X₁.warmed) with ⟨v, B, X', hpost, hsteps⟩ | ⟨q, B, X', hpost, hsteps⟩
  · exact Or.inl ⟨v, vm₁, B, X₁.warmed, X', hpost, fun target h => hstep₁ _ fun acts => by rw [doInvoke_state]; exact hsteps.trans h⟩
  · exact Or.inr ⟨q, vm₁, B, X₁.warmed, X', hpost, hstep₁ _ fun acts => by rw [doInvoke_state]; exact hsteps⟩
theorem vx_callS (X : Stand p l e R s m args below meth c T locs cells slots) (hexec : p.tables.exec = Jvm.exec) {own : String} {index : Nat} {y : MethodName} {bytes : ByteArray} {maxL : Nat} {ret : Option FieldType}
    (hown : s.vm.findClass own = some m.cls) (hlink : (Cond.methodLink own index y).before args s = true) (hstat : (Cond.static y).before args s = true) (hinit : (Cond.initialized y.cls).before args s = true)
    (hcode : (Cond.code y bytes maxL ret).before args s = true) (hy : y.cls ≠ "java/lang/invoke/MethodHandle" ∧ y.cls ≠ "java/lang/invoke/VarHandle")
    {W9 : Nat} {Pre : Pt → Array Value → Prop} {Post : Pt → Array Value → Option Value → Pt → Prop} {PostX : Pt → Array Value → Addr → Pt → Prop} (hK : vx_Back l R p e below s args y 3 W9 Pre Post PostX)
    {g : JFrame} (hg : g.method = m) (hsize : g.locals.size = c.maxLocals) {argsL rest : List Value} (hlen : ∀ sig, parseMethodDescriptor y.desc = some sig → argsL.length = sig.parameters.length)
    (hstack : g.stack = argsL.reverse ++ rest) (hW : 2 * g.monitorRoom + (rest.map fun v => v.category).sum ≤ W9) (hdg : decode c.code g.pc = .ok (.invokestatic index, 3))
    (hpre : ∀ vm₁, s.WarmedH vm₁ → Pre ⟨T.setVm vm₁, locs, cells, slots⟩ argsL.toArray) :
    (∃ (v : Option Value) (vm₁ : Vm) (B : Pt), s.WarmedH vm₁ ∧ Stand p l e R s m args below meth c B.U B.locs B.cells B.slots ∧ Post ⟨T.setVm vm₁, locs, cells, slots⟩ argsL.toArray v B ∧
      ∀ target, Steps p.tables e below (B.U.setTop { g with pc := g.pc + 3, stack := v.toList ++ rest }) target → Steps p.tables e below (T.setTop g) target) ∨
    (∃ (q : Addr) (vm₁ : Vm) (B : Pt), s.WarmedH vm₁ ∧ Stand p l e R s m args below meth c B.U B.locs B.cells B.slots ∧ PostX ⟨T.setVm vm₁, locs, cells, slots⟩ argsL.toArray q B ∧
      Steps p.tables e below (T.setTop g) ((B.U.setTop { g with stack := rest }).pushFrame (.throwing q))) := by
  obtain ⟨mk, hnamed⟩ := Cond.code_named hcode
  obtain ⟨methM, cM, hmethM, -, -, -, -, -, -, hsigM⟩ := Cond.code_spec hnamed hcode
  have hstatic : methM.isStatic = true := Cond.static_spec hnamed hmethM hstat
  obtain ⟨kP, hkP, -⟩ := className_of_methodNamed hnamed
  have hinitP : kP.init = .initialized := Cond.initialized_spec (findClass_of_methodNamed hnamed) hkP hinit
  obtain ⟨vm₁, X₁, hstep₁⟩ := X.invokestatic hexec hown hlink hnamed hmethM hstatic hkP hinitP hy (g := g) hg (argsL := argsL) (rest := rest) (hlen _ hsigM) hstack hdg
  rcases hK m meth c ⟨T.setVm vm₁, locs, cells, slots⟩ { g with stack := rest } (.invokestatic index) mk argsL.toArray X₁ hg hsize hdg hW (X₁.named hnamed) (hpre vm₁ X₁.warmed) with ⟨v, B, X', hpost, hsteps⟩ | ⟨q, B, X', hpost, hsteps⟩
  · exact Or.inl ⟨v, vm₁, B, X₁.warmed, X', hpost, fun target h => hstep₁ _ fun acts => by rw [doInvoke_state]; exact hsteps.trans h⟩
  · exact Or.inr ⟨q, vm₁, B, X₁.warmed, X', hpost, hstep₁ _ fun acts => by rw [doInvoke_state]; exact hsteps⟩
end Calls
theorem vx_cls {s : State} {T : State} {vm₁ : Vm} {E : String} {k : ClassId} (hW : s.WarmedH vm₁) (h : (T.setVm vm₁).vm.findClass E = some k) : s.vm.findClass E = some k := by
  have h1 : vm₁.findClass E = some k := h
  rw [hW.alike.findClass] at h1
  exact h1
/-- the method's frame g, with q thrown over it -/
def vx_W (p : Program) (l : Launch) (e : Env) (R : Room) (s : State) (m : MethodId) (args : Array Value) (below : List Frame) (meth : Method) (c : Code) (H : Heap) (locs : List Loc) (cells slots : Nat) (Q : State → Prop) (g : JFrame) (q : Addr) : Prop :=
  ∀ T : State, T.heap = H → Stand p l e R s m args below meth c T locs cells slots → ∃ t, Steps p.tables e below ((T.setTop g).pushFrame (.throwing q)) t ∧ Q t
def vx_Run (p : Program) (l : Launch) (e : Env) (R : Room) (s : State) (m : MethodId) (args : Array Value) (below : List Frame) (meth : Method) (c : Code) (H : Heap) (locs : List Loc) (cells slots mc ms : Nat) (g : JFrame) (rest : List Value) (Qa : State → Outcome → State → Prop) (XC : String → State → State → Prop) (free : Addr → Prop) : Prop :=
  ∀ T : State, T.heap = H → Stand p l e R s m args below meth c T locs cells slots →
    (∃ (v : Option Value) (st₀ t T' : State) (L : List Loc), st₀.heap = H ∧ Stand p l e R s m args below meth c T' (locs ++ L) (cells + mc) (slots + ms) ∧ (∀ q ∈ L, free q.base) ∧ T'.heap = t.heap ∧ T'.vm = t.vm ∧ Qa st₀ (.returned v) t ∧
      Goes p e below T g T' { g with pc := g.pc + 3, stack := v.toList ++ rest }) ∨
    (∃ (q : Addr) (st₀ t T' : State) (L : List Loc) (E : String) (ce : Cell), st₀.heap = H ∧ Stand p l e R s m args below meth c T' (locs ++ L) (cells + mc) (slots + ms) ∧ (∀ z ∈ L, free z.base) ∧ T'.heap = t.heap ∧ T'.vm = t.vm ∧ XC E st₀ t ∧ t.heap[q]? = some ce ∧ ce.vm = .none ∧ s.vm.findClass E = some ce.cls ∧
      Steps p.tables e below (T.setTop g) ((T'.setTop { g with stack := rest }).pushFrame (.throwing q)))
def vx_X {S : Type} (px : S → Prop) (B : String → S → State → Prop) (A : Nat → Prop) : String → State → State → Prop := fun E st t => ∃ u : S, px u ∧ B E u t ∧ va_F A st t
section Runs
variable {p : Program} {l : Launch} {e : Env} {R : Room} {s : State} {m : MethodId} {args : Array Value} {below : List Frame} {meth : Method} {c : Code} {H : Heap} {locs : List Loc} {cells slots : Nat}
variable {y : MethodName} {bytes cc : ByteArray} {maxL nL mc ms n index : Nat} {ret : Option FieldType} {ws : List Cond} {rm : Room} {Pc : Array Value → State → Prop} {Qc : Array Value → State → Outcome → State → Prop} {XC : String → State → State → Prop} {free : Addr → Prop} {Ts : List Cond} {own C : String} {b : Addr} {As rest : List Value} {g : JFrame}
theorem vx_callBack (cb : CallB R s args own index y bytes maxL ret ws rm mc ms n) (hM : vx_Met l y ws rm Pc Qc XC mc ms free) (hbl : FrameBlind Pc) : vx_Back l R p e below s args y 3 8 (PreOf R mc ms Pc) (PostOf Qc mc ms free) (vx_Post XC mc ms free) := by
  obtain ⟨hrc, hrs, hfr, hlo, hws, hcw, -, hini, -⟩ := cb
  exact vx_back (bytes := bytes) (maxL := maxL) (ret := ret) hM hbl hrc hrs hfr hlo hws hcw (fun a' U hW => word_at hW (Or.inl (by first | rfl | simp [Cond.onTables, Cond.keeps, Cond.steady])) hini)
theorem vx_runV (S : CallFix p m c cc nL s args Ts own) (hM : vx_Met l y ws rm Pc Qc XC mc ms free) (cw : CallW R s args own C index y bytes maxL ret ws rm mc ms n) (hp : PreV s H C b Pc As)
    (hg : g.method = m) (hn : As.length = n) (hsize : g.locals.size = nL) (hstack : g.stack = As.reverse ++ .ref b :: rest) (hW : 2 * g.monitorRoom + (rest.map fun v => v.category).sum ≤ 8) (hdg : decode cc g.pc = .ok (.invokevirtual index, 3)) (hf : cells + mc ≤ R.cells ∧ slots + ms ≤ R.slots) :
    vx_Run p l e R s m args below meth c H locs cells slots mc ms g rest (Qc (Value.ref b :: As).toArray) XC free := by
  have hK : vx_Back l R p e below s args y 3 8 (PreOf R mc ms Pc) (PostOf Qc mc ms free) (vx_Post XC mc ms free) := vx_callBack cw.1 hM hp.1
  obtain ⟨⟨-, -, -, -, -, -, hcode, -, hy, hlen, hl⟩, hin, hse⟩ := cw
  obtain ⟨hx, hb, hml, ho, -⟩ := S
  obtain ⟨-, ⟨cellB, hcB, hoB, hclB⟩, hPc⟩ := hp
  intro T hT X
  rcases vx_callV X hx (C := C) (bytes := bytes) (maxL := maxL) (ret := ret) ho hl hin hse hcode hy hK (by rw [hT]; exact hcB) hoB hclB hg (hsize.trans hml.symm) (argsL := As) (rest := rest) (fun sig h => hn.trans (hlen sig h)) hstack hW (by rw [hb]; exact hdg)
    (fun vm₁ hW₁ => ⟨hf.1, hf.2, hPc (T.setVm vm₁) hT hW₁⟩) with ⟨v, vm₁, ⟨U', l2, c2, s2⟩, hW₁, X', ⟨g', mk, t, L, e1, e2, hq, h1, hL, h2, h3⟩, st⟩ | ⟨q, vm₁, ⟨U', l2, c2, s2⟩, hW₁, X', ⟨g', mk, t, L, E, ce, e1, e2, hq, hce, hcv, hcl, h1, hL, h2, h3⟩, st⟩
  · dsimp only [Pt.U, Pt.locs, Pt.cells, Pt.slots] at X' e1 e2 h1 h2 h3 st
    subst h1; subst h2; subst h3
    exact Or.inl ⟨v, (T.setVm vm₁).calling g' mk (Value.ref b :: As).toArray, t, U', L, hT, X', hL, e1, e2, hq, st⟩
  · dsimp only [Pt.U, Pt.locs, Pt.cells, Pt.slots] at X' e1 e2 h1 h2 h3 st hcl
    subst h1; subst h2; subst h3
    exact Or.inr ⟨q, (T.setVm vm₁).calling g' mk (Value.ref b :: As).toArray, t, U', L, E, ce, hT, X', hL, e1, e2, hq, hce, hcv, vx_cls hW₁ hcl, st⟩
theorem vx_runS (S : CallFix p m c cc nL s args Ts own) (hM : vx_Met l y ws rm Pc Qc XC mc ms free) (cw : CallB R s args own index y bytes maxL ret ws rm mc ms n ∧ (Cond.static y).before args s = true) (hp : PreS s H Pc As)
    (hg : g.method = m) (hn : As.length = n) (hsize : g.locals.size = nL) (hstack : g.stack = As.reverse ++ rest) (hW : 2 * g.monitorRoom + (rest.map fun v => v.category).sum ≤ 8) (hdg : decode cc g.pc = .ok (.invokestatic index, 3)) (hf : cells + mc ≤ R.cells ∧ slots + ms ≤ R.slots) :
    vx_Run p l e R s m args below meth c H locs cells slots mc ms g rest (Qc As.toArray) XC free := by
  have hK : vx_Back l R p e below s args y 3 8 (PreOf R mc ms Pc) (PostOf Qc mc ms free) (vx_Post XC mc ms free) := vx_callBack cw.1 hM hp.1
  obtain ⟨⟨-, -, -, -, -, -, hcode, hini, hy, hlen, hl⟩, hstt⟩ := cw
  obtain ⟨hx, hb, hml, ho, -⟩ := S
  intro T hT X
  rcases vx_callS X hx (bytes := bytes) (maxL := maxL) (ret := ret) ho hl hstt hini hcode hy hK hg (hsize.trans hml.symm) (argsL := As) (rest := rest) (fun sig h => hn.trans (hlen sig h)) hstack hW (by rw [hb]; exact hdg)
    (fun vm₁ hW₁ => ⟨hf.1, hf.2, hp.2 (T.setVm vm₁) hT hW₁⟩) with ⟨v, vm₁, ⟨U', l2, c2, s2⟩, hW₁, X', ⟨g', mk, t, L, e1, e2, hq, h1, hL, h2, h3⟩, st⟩ | ⟨q, vm₁, ⟨U', l2, c2, s2⟩, hW₁, X', ⟨g', mk, t, L, E, ce, e1, e2, hq, hce, hcv, hcl, h1, hL, h2, h3⟩, st⟩
  · dsimp only [Pt.U, Pt.locs, Pt.cells, Pt.slots] at X' e1 e2 h1 h2 h3 st
    subst h1; subst h2; subst h3
    exact Or.inl ⟨v, (T.setVm vm₁).calling g' mk As.toArray, t, U', L, hT, X', hL, e1, e2, hq, st⟩
  · dsimp only [Pt.U, Pt.locs, Pt.cells, Pt.slots] at X' e1 e2 h1 h2 h3 st hcl
    subst h1; subst h2; subst h3
    exact Or.inr ⟨q, (T.setVm vm₁).calling g' mk As.toArray, t, U', L, E, ce, hT, X', hL, e1, e2, hq, hce, hcv, vx_cls hW₁ hcl, st⟩
end Runs
section Rows
variable {p : Program} {l : Launch} {e : Env} {R : Room} {s : State} {m : MethodId} {args : Array Value} {below : List Frame} {meth : Method} {c : Code} {H : Heap} {locs : List Loc} {cells slots : Nat} {Q : State → Prop}
variable {mc ms : Nat} {free : Addr → Prop} {A0 A1 : Nat → Prop} {H0 : Heap} {a : Array Value} {pc : Nat} {ls : Array Slot} {st0 rest : List Value}
theorem vx_keep {st₀ t T' : State} {L : List Loc} (h0 : st₀.heap = H) (e1 : T'.heap = t.heap) (hS : va_S A0 H0 H locs) (hA : ∀ q, q < H.size → A1 q → A0 q) (hf : ∀ q, free q → A0 q) (hL : ∀ q ∈ L, free q.base) (hF : va_F A1 st₀ t) :
    H.size ≤ T'.heap.size ∧ (∀ q : Nat, q < H.size → ¬ A1 q → T'.heap[q]? = H[q]?) ∧ va_S A0 H0 T'.heap (locs ++ L) := by
  obtain ⟨hz, hk⟩ := hF
  rw [h0] at hz hk
  exact ⟨by rw [e1]; exact hz, fun q h1 h2 => by rw [e1]; exact hk q h1 h2,
    ⟨Nat.le_trans hS.1 (by rw [e1]; exact hz), fun q h1 h2 => by rw [e1, hk q (Nat.lt_of_lt_of_le h1 hS.1) (fun z => h2 (hA q (Nat.lt_of_lt_of_le h1 hS.1) z))]; exact hS.2.1 q h1 h2, fun q hq => by
      rcases List.mem_append.mp hq with h | h
      · exact hS.2.2 q h
      · exact hf _ (hL q h)⟩⟩
theorem vx_calli {S SX : Type} {post : Int32 → S → Prop} {px : SX → Prop} {B : S → State → Prop} {BX : String → SX → State → Prop} {AX : Nat → Prop} (hr : vx_Run p l e R s m args below meth c H locs cells slots mc ms (F0 m pc ls st0) rest (va_Qi post B A1 a) (vx_X px BX AX) free) (hS : va_S A0 H0 H locs) (hA : ∀ q, q < H.size → A1 q → A0 q) (hf : ∀ q, free q → A0 q) (hAX : ∀ q, q < H.size → AX q → A0 q)
    (kx : ∀ (E : String) (ce : Cell) (q9 : Addr) (u : SX) (t : State) (H1 : Heap) (locs1 : List Loc), t.heap = H1 → s.vm.Alike t.vm → px u → BX E u t → H.size ≤ H1.size → (∀ q : Nat, q < H.size → ¬ AX q → H1[q]? = H[q]?) → va_S A0 H0 H1 locs1 → H1[q9]? = some ce → ce.vm = .none → s.vm.findClass E = some ce.cls → vx_W p l e R s m args below meth c H1 locs1 (cells + mc) (slots + ms) Q (F0 m pc ls rest) q9)
    (kk : ∀ (r : Int32) (u : S) (t : State) (H1 : Heap) (locs1 : List Loc), t.heap = H1 → s.vm.Alike t.vm → post r u → B u t → H.size ≤ H1.size → (∀ q : Nat, q < H.size → ¬ A1 q → H1[q]? = H[q]?) → va_S A0 H0 H1 locs1 → W p l e R s m args below meth c H1 locs1 (cells + mc) (slots + ms) Q (F0 m (pc + 3) ls (.int r :: rest))) : W p l e R s m args below meth c H locs cells slots Q (F0 m pc ls st0) := by
  intro T hT X
  rcases hr T hT X with ⟨v, st₀, t, T', L, h0, X', hL, e1, e2, ⟨⟨r, u, hv, hp, hb⟩, hF⟩, st⟩ | ⟨q, st₀, t, T', L, E, ce, h0, X', hL, e1, e2, ⟨u, hp, hb, hF⟩, hce, hcv, hcl, st⟩
  · cases hv
    obtain ⟨k1, k2, k3⟩ := vx_keep h0 e1 hS hA hf hL hF
    obtain ⟨t2, a1, b1⟩ := kk r u t T'.heap (locs ++ L) e1.symm (by rw [← e2]; exact X'.warmed.alike) hp hb k1 k2 k3 T' rfl X'
    exact ⟨t2, st t2 a1, b1⟩
  · obtain ⟨k1, k2, k3⟩ := vx_keep h0 e1 hS hAX hf hL hF
    obtain ⟨t2, a1, b1⟩ := kx E ce q u t T'.heap (locs ++ L) e1.symm (by rw [← e2]; exact X'.warmed.alike) hp hb k1 k2 k3 (by rw [e1]; exact hce) hcv hcl T' rfl X'
    exact ⟨t2, st.trans a1, b1⟩
theorem vx_calll {S SX : Type} {post : Int64 → S → Prop} {px : SX → Prop} {B : S → State → Prop} {BX : String → SX → State → Prop} {AX : Nat → Prop} (hr : vx_Run p l e R s m args below meth c H locs cells slots mc ms (F0 m pc ls st0) rest (va_Ql post B A1 a) (vx_X px BX AX) free) (hS : va_S A0 H0 H locs) (hA : ∀ q, q < H.size → A1 q → A0 q) (hf : ∀ q, free q → A0 q) (hAX : ∀ q, q < H.size → AX q → A0 q)
    (kx : ∀ (E : String) (ce : Cell) (q9 : Addr) (u : SX) (t : State) (H1 : Heap) (locs1 : List Loc), t.heap = H1 → s.vm.Alike t.vm → px u → BX E u t → H.size ≤ H1.size → (∀ q : Nat, q < H.size → ¬ AX q → H1[q]? = H[q]?) → va_S A0 H0 H1 locs1 → H1[q9]? = some ce → ce.vm = .none → s.vm.findClass E = some ce.cls → vx_W p l e R s m args below meth c H1 locs1 (cells + mc) (slots + ms) Q (F0 m pc ls rest) q9)
    (kk : ∀ (r : Int64) (u : S) (t : State) (H1 : Heap) (locs1 : List Loc), t.heap = H1 → s.vm.Alike t.vm → post r u → B u t → H.size ≤ H1.size → (∀ q : Nat, q < H.size → ¬ A1 q → H1[q]? = H[q]?) → va_S A0 H0 H1 locs1 → W p l e R s m args below meth c H1 locs1 (cells + mc) (slots + ms) Q (F0 m (pc + 3) ls (.long r :: rest))) : W p l e R s m args below meth c H locs cells slots Q (F0 m pc ls st0) := by
  intro T hT X
  rcases hr T hT X with ⟨v, st₀, t, T', L, h0, X', hL, e1, e2, ⟨⟨r, u, hv, hp, hb⟩, hF⟩, st⟩ | ⟨q, st₀, t, T', L, E, ce, h0, X', hL, e1, e2, ⟨u, hp, hb, hF⟩, hce, hcv, hcl, st⟩
  · cases hv
    obtain ⟨k1, k2, k3⟩ := vx_keep h0 e1 hS hA hf hL hF
    obtain ⟨t2, a1, b1⟩ := kk r u t T'.heap (locs ++ L) e1.symm (by rw [← e2]; exact X'.warmed.alike) hp hb k1 k2 k3 T' rfl X'
    exact ⟨t2, st t2 a1, b1⟩
  · obtain ⟨k1, k2, k3⟩ := vx_keep h0 e1 hS hAX hf hL hF
    obtain ⟨t2, a1, b1⟩ := kx E ce q u t T'.heap (locs ++ L) e1.symm (by rw [← e2]; exact X'.warmed.alike) hp hb k1 k2 k3 (by rw [e1]; exact hce) hcv hcl T' rfl X'
    exact ⟨t2, st.trans a1, b1⟩
theorem vx_callf {S SX : Type} {post : UInt32 → S → Prop} {px : SX → Prop} {B : S → State → Prop} {BX : String → SX → State → Prop} {AX : Nat → Prop} (hr : vx_Run p l e R s m args below meth c H locs cells slots mc ms (F0 m pc ls st0) rest (va_Qf post B A1 a) (vx_X px BX AX) free) (hS : va_S A0 H0 H locs) (hA : ∀ q, q < H.size → A1 q → A0 q) (hf : ∀ q, free q → A0 q) (hAX : ∀ q, q < H.size → AX q → A0 q)
    (kx : ∀ (E : String) (ce : Cell) (q9 : Addr) (u : SX) (t : State) (H1 : Heap) (locs1 : List Loc), t.heap = H1 → s.vm.Alike t.vm → px u → BX E u t → H.size ≤ H1.size → (∀ q : Nat, q < H.size → ¬ AX q → H1[q]? = H[q]?) → va_S A0 H0 H1 locs1 → H1[q9]? = some ce → ce.vm = .none → s.vm.findClass E = some ce.cls → vx_W p l e R s m args below meth c H1 locs1 (cells + mc) (slots + ms) Q (F0 m pc ls rest) q9)
    (kk : ∀ (r : UInt32) (u : S) (t : State) (H1 : Heap) (locs1 : List Loc), t.heap = H1 → s.vm.Alike t.vm → post r u → B u t → H.size ≤ H1.size → (∀ q : Nat, q < H.size → ¬ A1 q → H1[q]? = H[q]?) → va_S A0 H0 H1 locs1 → W p l e R s m args below meth c H1 locs1 (cells + mc) (slots + ms) Q (F0 m (pc + 3) ls (.float r :: rest))) : W p l e R s m args below meth c H locs cells slots Q (F0 m pc ls st0) := by
  intro T hT X
  rcases hr T hT X with ⟨v, st₀, t, T', L, h0, X', hL, e1, e2, ⟨⟨r, u, hv, hp, hb⟩, hF⟩, st⟩ | ⟨q, st₀, t, T', L, E, ce, h0, X', hL, e1, e2, ⟨u, hp, hb, hF⟩, hce, hcv, hcl, st⟩
  · cases hv
    obtain ⟨k1, k2, k3⟩ := vx_keep h0 e1 hS hA hf hL hF
    obtain ⟨t2, a1, b1⟩ := kk r u t T'.heap (locs ++ L) e1.symm (by rw [← e2]; exact X'.warmed.alike) hp hb k1 k2 k3 T' rfl X'
    exact ⟨t2, st t2 a1, b1⟩
  · obtain ⟨k1, k2, k3⟩ := vx_keep h0 e1 hS hAX hf hL hF
    obtain ⟨t2, a1, b1⟩ := kx E ce q u t T'.heap (locs ++ L) e1.symm (by rw [← e2]; exact X'.warmed.alike) hp hb k1 k2 k3 (by rw [e1]; exact hce) hcv hcl T' rfl X'
    exact ⟨t2, st.trans a1, b1⟩
theorem vx_calld {S SX : Type} {post : UInt64 → S → Prop} {px : SX → Prop} {B : S → State → Prop} {BX : String → SX → State → Prop} {AX : Nat → Prop} (hr : vx_Run p l e R s m args below meth c H locs cells slots mc ms (F0 m pc ls st0) rest (va_Qd post B A1 a) (vx_X px BX AX) free) (hS : va_S A0 H0 H locs) (hA : ∀ q, q < H.size → A1 q → A0 q) (hf : ∀ q, free q → A0 q) (hAX : ∀ q, q < H.size → AX q → A0 q)
    (kx : ∀ (E : String) (ce : Cell) (q9 : Addr) (u : SX) (t : State) (H1 : Heap) (locs1 : List Loc), t.heap = H1 → s.vm.Alike t.vm → px u → BX E u t → H.size ≤ H1.size → (∀ q : Nat, q < H.size → ¬ AX q → H1[q]? = H[q]?) → va_S A0 H0 H1 locs1 → H1[q9]? = some ce → ce.vm = .none → s.vm.findClass E = some ce.cls → vx_W p l e R s m args below meth c H1 locs1 (cells + mc) (slots + ms) Q (F0 m pc ls rest) q9)
    (kk : ∀ (r : UInt64) (u : S) (t : State) (H1 : Heap) (locs1 : List Loc), t.heap = H1 → s.vm.Alike t.vm → post r u → B u t → H.size ≤ H1.size → (∀ q : Nat, q < H.size → ¬ A1 q → H1[q]? = H[q]?) → va_S A0 H0 H1 locs1 → W p l e R s m args below meth c H1 locs1 (cells + mc) (slots + ms) Q (F0 m (pc + 3) ls (.double r :: rest))) : W p l e R s m args below meth c H locs cells slots Q (F0 m pc ls st0) := by
  intro T hT X
  rcases hr T hT X with ⟨v, st₀, t, T', L, h0, X', hL, e1, e2, ⟨⟨r, u, hv, hp, hb⟩, hF⟩, st⟩ | ⟨q, st₀, t, T', L, E, ce, h0, X', hL, e1, e2, ⟨u, hp, hb, hF⟩, hce, hcv, hcl, st⟩
  · cases hv
    obtain ⟨k1, k2, k3⟩ := vx_keep h0 e1 hS hA hf hL hF
    obtain ⟨t2, a1, b1⟩ := kk r u t T'.heap (locs ++ L) e1.symm (by rw [← e2]; exact X'.warmed.alike) hp hb k1 k2 k3 T' rfl X'
    exact ⟨t2, st t2 a1, b1⟩
  · obtain ⟨k1, k2, k3⟩ := vx_keep h0 e1 hS hAX hf hL hF
    obtain ⟨t2, a1, b1⟩ := kx E ce q u t T'.heap (locs ++ L) e1.symm (by rw [← e2]; exact X'.warmed.alike) hp hb k1 k2 k3 (by rw [e1]; exact hce) hcv hcl T' rfl X'
    exact ⟨t2, st.trans a1, b1⟩
theorem vx_callv {S SX : Type} {post : S → Prop} {px : SX → Prop} {B : S → State → Prop} {BX : String → SX → State → Prop} {AX : Nat → Prop} (hr : vx_Run p l e R s m args below meth c H locs cells slots mc ms (F0 m pc ls st0) rest (va_Qv post B A1 a) (vx_X px BX AX) free) (hS : va_S A0 H0 H locs) (hA : ∀ q, q < H.size → A1 q → A0 q) (hf : ∀ q, free q → A0 q) (hAX : ∀ q, q < H.size → AX q → A0 q)
    (kx : ∀ (E : String) (ce : Cell) (q9 : Addr) (u : SX) (t : State) (H1 : Heap) (locs1 : List Loc), t.heap = H1 → s.vm.Alike t.vm → px u → BX E u t → H.size ≤ H1.size → (∀ q : Nat, q < H.size → ¬ AX q → H1[q]? = H[q]?) → va_S A0 H0 H1 locs1 → H1[q9]? = some ce → ce.vm = .none → s.vm.findClass E = some ce.cls → vx_W p l e R s m args below meth c H1 locs1 (cells + mc) (slots + ms) Q (F0 m pc ls rest) q9)
    (kk : ∀ (u : S) (t : State) (H1 : Heap) (locs1 : List Loc), t.heap = H1 → s.vm.Alike t.vm → post u → B u t → H.size ≤ H1.size → (∀ q : Nat, q < H.size → ¬ A1 q → H1[q]? = H[q]?) → va_S A0 H0 H1 locs1 → W p l e R s m args below meth c H1 locs1 (cells + mc) (slots + ms) Q (F0 m (pc + 3) ls (rest))) : W p l e R s m args below meth c H locs cells slots Q (F0 m pc ls st0) := by
  intro T hT X
  rcases hr T hT X with ⟨v, st₀, t, T', L, h0, X', hL, e1, e2, ⟨⟨u, hv, hp, hb⟩, hF⟩, st⟩ | ⟨q, st₀, t, T', L, E, ce, h0, X', hL, e1, e2, ⟨u, hp, hb, hF⟩, hce, hcv, hcl, st⟩
  · cases hv
    obtain ⟨k1, k2, k3⟩ := vx_keep h0 e1 hS hA hf hL hF
    obtain ⟨t2, a1, b1⟩ := kk u t T'.heap (locs ++ L) e1.symm (by rw [← e2]; exact X'.warmed.alike) hp hb k1 k2 k3 T' rfl X'
    exact ⟨t2, st t2 a1, b1⟩
  · obtain ⟨k1, k2, k3⟩ := vx_keep h0 e1 hS hAX hf hL hF
    obtain ⟨t2, a1, b1⟩ := kx E ce q u t T'.heap (locs ++ L) e1.symm (by rw [← e2]; exact X'.warmed.alike) hp hb k1 k2 k3 (by rw [e1]; exact hce) hcv hcl T' rfl X'
    exact ⟨t2, st.trans a1, b1⟩
end Rows
section Ends
variable {p : Program} {l : Launch} {e : Env} {R : Room} {s : State} {m : MethodId} {args : Array Value} {below : List Frame} {meth : Method} {c : Code} {H : Heap} {locs : List Loc} {cells slots : Nat} {Q : State → Prop}
variable {mc ms : Nat} {free : Addr → Prop} {A0 A1 : Nat → Prop} {H0 : Heap} {a : Array Value} {ls : Array Slot} {st0 rest : List Value}
variable {Qc : Array Value → State → Outcome → State → Prop} {XC : String → State → State → Prop}
/-- what a body that may throw owes at its end -/
def vx_MQ (below : List Frame) (Qc : Array Value → State → Outcome → State → Prop) (XC : String → State → State → Prop) (a : Array Value) (s : State) (mc ms : Nat) (free : Addr → Prop) : State → Prop := fun t =>
  ∃ o, t.status = .running ∧ Ended t below o ∧ vx_Q Qc XC mc ms free a s o t
theorem vx_ret {g : JFrame} {mc ms : Nat} (k : W p l e R s m args below meth c H locs cells slots (MQ below Qc args s mc ms free) g) : W p l e R s m args below meth c H locs cells slots (vx_MQ below Qc XC args s mc ms free) g := by
  intro T hT X
  obtain ⟨t, a1, o, b1, b2, b3, b4⟩ := k T hT X
  exact ⟨t, a1, o, b1, b2, Or.inl ⟨b3, b4⟩⟩
/-- not caught here: it goes on to the caller -/
theorem vx_widen {g : JFrame} {q : Addr} {k n : Nat} (h1 : cells ≤ k) (h2 : slots ≤ n) (kk : vx_W p l e R s m args below meth c H locs k n Q g q) : vx_W p l e R s m args below meth c H locs cells slots Q g q := fun T hT X => kk T hT (stand_widen X h1 h2)
theorem vx_out {pc : Nat} {E : String} {ce : Cell} {q : Addr} {mc ms : Nat} (hout : ∀ x ∈ c.exceptionTable.toList, covers x pc = false) (hlocks : meth.locks = false) (hcell : H[q]? = some ce) (hv : ce.vm = .none) (hcl : s.vm.findClass E = some ce.cls)
    (hx : ∀ t : State, t.heap = H → s.vm.Alike t.vm → XC E s t) (hf : ∀ z ∈ locs, free z.base) (hc : cells ≤ mc) (hs : slots ≤ ms) :
    vx_W p l e R s m args below meth c H locs cells slots (vx_MQ below Qc XC args s mc ms free) (F0 m pc ls rest) q := by
  intro T hT X
  obtain ⟨st1, hrun, hend, hW, hsm⟩ := X.leaveThrown q (g := F0 m pc ls rest) rfl rfl rfl hout hlocks
  have hcell9 : (T.setFrames (.throwing q :: below)).heap[q]? = some ce := by
    show T.heap[q]? = some ce
    rw [hT]; exact hcell
  exact ⟨_, st1, .threw q, hrun, hend, Or.inr ⟨q, rfl, E, ce, locs, hx _ hT hW.alike, hcell9, hv, hcl, hW, hsm.mono hc hs, hf⟩⟩
theorem vx_frame {U : State} {k n : Nat} (h : s.sameButNew ({ U with vm := s.vm } : State) locs k n) : s.heap.size ≤ U.heap.size ∧ ∀ q : Nat, q < s.heap.size → (∀ z ∈ locs, z.base ≠ q) → U.heap[q]? = s.heap[q]? := by
  obtain ⟨-, h2, -, -, -, h6⟩ := h
  refine ⟨h2, fun q hq hz => ?_⟩
  obtain ⟨c9, e1, e2, e3, e4⟩ := h6 q _ (Array.getElem?_eq_getElem hq)
  have hs : c9.slots = (s.heap[q]).slots := Array.ext_getElem? fun i => e4 i fun hm => hz _ hm rfl
  have h9 : c9 = s.heap[q] := by
    rw [hs] at e2
    exact e2
  have e5 : U.heap[q]? = some c9 := e1
  rw [e5, h9, Array.getElem?_eq_getElem hq]
/-- the words of a throw but the four that speak of the heap -/
def vx_no (w : Cond) : Bool := decide (w ≠ .isRef (.static Bundle.tN "UNASSIGNED_STACK" Bundle.steD)) && decide (w ≠ .isRef (.static Bundle.tN "SUPPRESSED_SENTINEL" Bundle.listD)) && decide (w ≠ .laysStatic Bundle.tN "UNASSIGNED_STACK" Bundle.steD) && decide (w ≠ .laysStatic Bundle.tN "SUPPRESSED_SENTINEL" Bundle.listD)
def vx_at0 (own : String) (ic : Nat) (X : String) (names : List String) : List Cond := (Bundle.ownAtoms0 own ic X names).filter vx_no
def vx_atS (own : String) (ic : Nat) (X : String) (names : List String) : List Cond := (Bundle.ownAtoms own ic X names).filter vx_no
/-- a word that the tables alone decide, or a good one -/
def vx_ot (w : Cond) : Bool := w.onTables || goodWord w
theorem vx_ot_at {args a' : Array Value} {s U : State} {w : Cond} (hW : s.WarmedH U.vm) (hvm : s.vm = U.vm) (hg : vx_ot w = true) (h : w.before args s = true) : w.before a' U = true := by
  simp only [vx_ot, Bool.or_eq_true] at hg
  rcases hg with hg | hg
  · exact va_tabs hg hvm h
  · exact word_at hW (good_of_word hg) h
/-- a list's words: the good ones out of the method's own list, the others by premises of their own -/
theorem vx_hat {args : Array Value} {s : State} {L B : List Cond} (h1 : ∀ w ∈ L.filter goodWord, w.before args s = true) (h2 : ∀ w ∈ L.filter (fun w => !goodWord w), w ∈ B) (h3 : ∀ w ∈ B, w.before args s = true) : ∀ w ∈ L, w.before args s = true := by
  intro w hw
  by_cases g : goodWord w = true
  · exact h1 w (List.mem_filter.mpr ⟨hw, g⟩)
  · refine h3 w (h2 w (List.mem_filter.mpr ⟨hw, ?_⟩))
    show (!goodWord w) = true
    cases hgw : goodWord w
    · rfl
    · exact absurd hgw g
theorem vx_c {args : Array Value} {s : State} {w : Cond} {B : List Cond} (h : w.before args s = true) (t : ∀ w ∈ B, w.before args s = true) : ∀ w' ∈ w :: B, w'.before args s = true := fun w' h' => (List.mem_cons.mp h').elim (fun e => by rw [e]; exact h) (t w')
theorem vx_n {args : Array Value} {s : State} : ∀ w ∈ ([] : List Cond), w.before args s = true := fun _ h => nomatch h
theorem vx_own {args : Array Value} {s : State} {L : List Cond} (h1 : ∀ w ∈ L.filter vx_no, w.before args s = true)
    (hU : (Cond.isRef (.static Bundle.tN "UNASSIGNED_STACK" Bundle.steD)).before args s = true) (hN : (Cond.isRef (.static Bundle.tN "SUPPRESSED_SENTINEL" Bundle.listD)).before args s = true)
    (lU : (Cond.laysStatic Bundle.tN "UNASSIGNED_STACK" Bundle.steD).before args s = true) (lN : (Cond.laysStatic Bundle.tN "SUPPRESSED_SENTINEL" Bundle.listD).before args s = true) : ∀ w ∈ L, w.before args s = true := by
  intro w hw
  by_cases e1 : w = .isRef (.static Bundle.tN "UNASSIGNED_STACK" Bundle.steD)
  · rw [e1]; exact hU
  · by_cases e2 : w = .isRef (.static Bundle.tN "SUPPRESSED_SENTINEL" Bundle.listD)
    · rw [e2]; exact hN
    · by_cases e3 : w = .laysStatic Bundle.tN "UNASSIGNED_STACK" Bundle.steD
      · rw [e3]; exact lU
      · by_cases e4 : w = .laysStatic Bundle.tN "SUPPRESSED_SENTINEL" Bundle.listD
        · rw [e4]; exact lN
        · exact h1 w (List.mem_filter.mpr ⟨hw, by unfold vx_no; rw [decide_eq_true e1, decide_eq_true e2, decide_eq_true e3, decide_eq_true e4]; rfl⟩)
/-- where a static field lies, its class's statics cell in H -/
def vx_L (C n d : String) (A : Nat → Prop) (U : State) (H : Heap) : Prop := ∃ (c : ClassId) (k : Class) (i : Nat) (f : Field) (a : Nat) (cell : Cell), U.vm.findClass C = some c ∧ U.fieldFound? C n d = some (c, k, i, f) ∧ f.isStatic = true ∧ k.statics = some a ∧ H[a]? = some cell ∧ cell.vm.isStatics = true ∧ cell.cls = c ∧ f.slot < cell.slots.size ∧ k.staticTypes[f.slot]? = some f.type ∧ ¬ A a
theorem vx_L.moved {C n d : String} {A : Nat → Prop} {u U : State} {H : Heap} (hvm : u.vm.Alike U.vm) (h : vx_L C n d A u H) : vx_L C n d A U H := by
  obtain ⟨c, k, i, f, a, cell, h1, h2, h3, h4, h5, h6, h7, h8, h9, h10⟩ := h
  obtain ⟨k', hi', he⟩ := State.fieldFound?_setVm hvm h2
  exact ⟨c, k', i, f, a, cell, by rw [hvm.findClass]; exact h1, hi', h3, by rw [he]; exact h4, h5, h6, h7, h8, by rw [he]; exact h9, h10⟩
theorem vx_L.kept {C n d : String} {A : Nat → Prop} {U : State} {H H1 : Heap} (h : vx_L C n d A U H) (hq : ∀ a : Nat, a < H.size → ¬ A a → H1[a]? = H[a]?) : vx_L C n d A U H1 := by
  obtain ⟨c, k, i, f, a, cell, h1, h2, h3, h4, h5, h6, h7, h8, h9, h10⟩ := h
  exact ⟨c, k, i, f, a, cell, h1, h2, h3, h4, by rw [hq a (Array.getElem?_eq_some_iff.mp h5).1 h10]; exact h5, h6, h7, h8, h9, h10⟩
theorem vx_L.narrow {C n d : String} {A B : Nat → Prop} {U : State} {H : Heap} (h : vx_L C n d A U H) (hAB : ∀ q, B q → A q) : vx_L C n d B U H := by
  obtain ⟨c, k, i, f, a, cell, h1, h2, h3, h4, h5, h6, h7, h8, h9, h10⟩ := h
  exact ⟨c, k, i, f, a, cell, h1, h2, h3, h4, h5, h6, h7, h8, h9, fun z => h10 (hAB _ z)⟩
theorem vx_L.word {C n d : String} {A : Nat → Prop} {s : State} {args : Array Value} (h : vx_L C n d A s s.heap) : (Cond.laysStatic C n d).before args s = true := by
  obtain ⟨c, k, i, f, a, cell, h1, h2, h3, h4, h5, h6, h7, h8, h9, -⟩ := h
  show (Cond.laysStatic C n d).holds args s none s [] = true
  exact Cond.laysStatic_of h1 h2 h3 h4 h5 h6 h7 h8 h9
/-- .. and what it holds: null or some reference -/
def vx_Zq (C n d : String) (A : Nat → Prop) (U : State) (H : Heap) : Prop := va_Zq C n d A U H ∧ vx_L C n d A U H
theorem vx_Zq.moved {C n d : String} {A : Nat → Prop} {u U : State} {H : Heap} (hvm : u.vm.Alike U.vm) (h : vx_Zq C n d A u H) : vx_Zq C n d A U H := ⟨va_Zq.moved hvm h.1, vx_L.moved hvm h.2⟩
theorem vx_Zq.kept {C n d : String} {A : Nat → Prop} {U : State} {H H1 : Heap} (h : vx_Zq C n d A U H) (hq : ∀ a : Nat, a < H.size → ¬ A a → H1[a]? = H[a]?) : vx_Zq C n d A U H1 := ⟨va_Zq.kept h.1 hq, vx_L.kept h.2 hq⟩
theorem vx_Zq.narrow {C n d : String} {A B : Nat → Prop} {U : State} {H : Heap} (h : vx_Zq C n d A U H) (hAB : ∀ q, B q → A q) : vx_Zq C n d B U H := ⟨va_Zq.narrow h.1 hAB, vx_L.narrow h.2 hAB⟩
theorem vx_Zqof {args : Array Value} {s : State} {C n d : String} {A : Nat → Prop} (hl : (Cond.laysStatic C n d).before args s = true) (hini : (Cond.initialized C).before args s = true) (h : (Cond.isRef (.static C n d)).before args s = true) (hA : ∀ a : Nat, a < s.heap.size → ¬ A a) : vx_Zq C n d A s s.heap := by
  refine ⟨va_Zqof hl hini h hA, ?_⟩
  obtain ⟨c, k, i, f, a, cell, h1, h2, h3, h4, h5, h6, h7, h8, h9⟩ := Cond.laysStatic_spec hl
  exact ⟨c, k, i, f, a, cell, h1, h2, h3, h4, h5, h6, h7, h8, h9, hA a (Array.getElem?_eq_some_iff.mp h5).1⟩
theorem vx_isRef {C n d : String} {v : Value} {A : Nat → Prop} {s : State} {args : Array Value} (h : va_Z C n d v A s s.heap) (hv : v.isRef = true) : (Cond.isRef (.static C n d)).before args s = true := by
  obtain ⟨cf, kf, fi, f, a, cell, h1, h2, h3, h4, h5, h6, h7, -⟩ := h
  have he : (Term.static C n d).eval args s none [] s = some v := by
    simp [Term.eval, State.fieldNamed?, h1, h2, h4, h5, h6, h7]
  simp only [Cond.before, Cond.holds, Cond.value, he]
  cases v <;> simp_all [Value.isRef]
theorem vx_isRefq {C n d : String} {A : Nat → Prop} {s : State} {args : Array Value} (h : va_Zq C n d A s s.heap) : (Cond.isRef (.static C n d)).before args s = true := by
  rcases h with h | ⟨t, h⟩
  · exact vx_isRef h rfl
  · exact vx_isRef h rfl
/-- the same frame, seen from here: as if the method were called anew in this heap -/
theorem vx_rebase {T : State} (X : Stand p l e R s m args below meth c T locs cells slots) {R' : Room} (hf : R'.frames ≤ R.frames) (hl : R'.locals ≤ R.locals) (hc : cells + R'.cells ≤ R.cells) (hs : slots + R'.slots ≤ R.slots) :
    Stand p l e R' ((T.setVm s.vm).setFrames (.invoking m args :: below)) m args below meth c T [] 0 0 := by
  have htop : (T.setVm s.vm).topJava?.isSome := X.here.top
  have hF : ((T.setVm s.vm).setFrames (.invoking m args :: below)).frames = .invoking m args :: below := State.frames_setFrames _ (State.cur_lt_of_top htop)
  obtain ⟨g₀, hg0⟩ := Option.isSome_iff_exists.mp htop
  obtain ⟨r, hr⟩ := State.topJava?_eq_some.mp hg0
  have hl9 : e.platform.stackLimits (T.setVm s.vm).me = e.platform.stackLimits s.me := X.limits
  have hb9 : (T.setVm s.vm).me.stackBytes = s.me.stackBytes := X.bytes
  refine ⟨X.admits, X.cas, X.clock, hF, ?_, X.hears, X.method, X.code, X.here, X.tail, X.warmed, ?_, ?_, ?_⟩
  · have h := X.room
    have hU : ((T.setVm s.vm).setFrames (.invoking m args :: below)).localsInUse = s.localsInUse := by
      rw [State.localsInUse_invoking hF (meth := meth) (c := c) X.method X.code, State.localsInUse_invoking X.frames X.method X.code]
    simp only [State.hasRoom, Bool.and_eq_true, decide_eq_true_eq] at h ⊢
    obtain ⟨⟨⟨⟨h1, h2, h3, h4, h5, h6⟩, h7⟩, h8⟩, h9⟩ := h
    rw [X.frames, List.length_cons] at h2 h3
    have q1 := X.heapSize
    have q2 := X.used
    simp only [hF, hU, List.length_cons, State.stackLimits_setFrames, State.stackBytes_setFrames, hl9, hb9]
    refine ⟨⟨⟨⟨by omega, by omega, by omega, by omega, by omega, h6⟩, ?_⟩, ?_⟩, X.book⟩
    · show T.heap.size + R'.cells ≤ e.platform.maxCells
      omega
    · show T.slotsUsed + R'.slots ≤ e.platform.maxSlots
      omega
  · rw [State.stackLimits_setFrames]; rfl
  · rw [State.stackBytes_setFrames]; rfl
  · refine ⟨?_, Nat.le_refl _, Nat.le_refl _, ?_, ?_, fun a c9 h9 => ⟨c9, h9, rfl, rfl, fun _ _ => rfl⟩⟩
    · obtain ⟨t, ht, -⟩ := State.frames_cons hr
      show T.setVm s.vm = { ((T.setVm s.vm).setFrames (.invoking m args :: below)).setFrames (T.setVm s.vm).frames with heap := T.heap, slotsUsed := T.slotsUsed }
      rw [State.setFrames_setFrames, State.setFrames_self ht]
      rfl
    · show T.slotsUsed = T.slotsUsed + ((T.heap.toList.drop T.heap.size).map (·.slots.size)).sum
      rw [List.drop_eq_nil_of_le (Nat.le_of_eq Array.length_toList)]
      rfl
    · show ((T.heap.toList.drop T.heap.size).map (·.slots.size)).sum ≤ 0
      rw [List.drop_eq_nil_of_le (Nat.le_of_eq Array.length_toList)]
      exact Nat.le_refl _
/-- 'throw new E()': new; dup; invokespecial; athrow -/
theorem vx_throw0 {cc : ByteArray} {pc : Nat} (hexec : p.tables.exec = Jvm.exec) (hb : c.code = cc) (hl : l.stackTraces = false) {own cls : String} {names : List String} {ik ic mc ms : Nat} {A : Nat → Prop}
    (hown : s.vm.findClass own = some m.cls) (hcls : Bundle.fit cls = true) (hnames : ∀ n ∈ names, Bundle.fit n = true)
    (hk : (Cond.classLink own ik cls).before args s = true) (hini : (Cond.initialized cls).before args s = true) (hat : ∀ w ∈ vx_at0 own ic cls names, w.before args s = true)
    (hgood : ∀ w ∈ Cond.classLink own ik cls :: Cond.initialized cls :: vx_at0 own ic cls names, vx_ot w = true)
    (hU : vx_Zq Bundle.tN "UNASSIGNED_STACK" Bundle.steD A s s.heap) (hN : vx_Zq Bundle.tN "SUPPRESSED_SENTINEL" Bundle.listD A s s.heap) (hS : va_S A s.heap H locs) (hsize : ls.size = c.maxLocals)
    (d0 : decode cc pc = .ok (.new ik, 3)) (d3 : decode cc (pc + 3) = .ok (.dup, 1)) (d4 : decode cc (pc + 4) = .ok (.invokespecial ic, 3)) (d7 : decode cc (pc + 7) = .ok (.athrow, 1))
    (hout : ∀ x ∈ c.exceptionTable.toList, covers x (pc + 7) = false)
    (hRframes : names.length + 3 < R.frames) (hRlocals : (rest.map fun v => v.category).sum + (13 * (names.length + 1) + 42) ≤ R.locals) (hRcells : cells + 1 ≤ R.cells) (hRslots : slots + 6 ≤ R.slots) (hlocks : meth.locks = false)
    (hx : ∀ t : State, s.vm.Alike t.vm → H.size ≤ t.heap.size → (∀ q : Nat, q < H.size → t.heap[q]? = H[q]?) → XC cls s t)
    (hf : ∀ z ∈ locs, free z.base) (hc : cells + 1 ≤ mc) (hs : slots + 6 ≤ ms) :
    W p l e R s m args below meth c H locs cells slots (vx_MQ below Qc XC args s mc ms free) (F0 m pc ls rest) := by
  intro T hT X
  have htr : e.platform.stackTraces = false := (show e.platform.stackTraces = l.stackTraces by rw [X.admits.platform]).trans hl
  have Y := vx_rebase X (R' := { frames := R.frames, locals := R.locals, cells := 1, slots := 6 }) (Nat.le_refl _) (Nat.le_refl _) hRcells hRslots
  obtain ⟨s', hA⟩ : ∃ z, z = (T.setVm s.vm).setFrames (.invoking m args :: below) := ⟨_, rfl⟩
  rw [← hA] at Y
  have hvm : s'.vm = s.vm := by rw [hA]; rfl
  have hhp : s'.heap = H := by rw [hA]; exact hT
  have hW0 : s.WarmedH s'.vm := by rw [hvm]; exact State.WarmedH.refl s
  have hat' : ∀ w ∈ vx_at0 own ic cls names, w.before args s' = true := fun w hw => vx_ot_at hW0 hvm.symm (hgood w (List.mem_cons_of_mem _ (List.mem_cons_of_mem _ hw))) (hat w hw)
  have hk' : (Cond.classLink own ik cls).before args s' = true := vx_ot_at hW0 hvm.symm (hgood _ List.mem_cons_self) hk
  have hini' : (Cond.initialized cls).before args s' = true := vx_ot_at hW0 hvm.symm (hgood _ (List.mem_cons_of_mem _ List.mem_cons_self)) hini
  have hU' : vx_Zq Bundle.tN "UNASSIGNED_STACK" Bundle.steD A s' s'.heap := by rw [hhp]; exact vx_Zq.moved hW0.alike (hU.kept hS.2.1)
  have hN' : vx_Zq Bundle.tN "SUPPRESSED_SENTINEL" Bundle.listD A s' s'.heap := by rw [hhp]; exact vx_Zq.moved hW0.alike (hN.kept hS.2.1)
  have h : ∀ w ∈ Bundle.ownAtoms0 own ic cls names, w.before args s' = true := vx_own hat' (vx_isRefq hU'.1) (vx_isRefq hN'.1) hU'.2.word hN'.2.word
  have hown' : s'.vm.findClass own = some m.cls := by rw [hvm]; exact hown
  have hins : (Cond.instantiable cls 6).before args s' = true := h _ (by simp [Bundle.ownAtoms0])
  obtain ⟨vm₁, cX, kX, hfX, hkX, -, -, X₁, st1⟩ := Y.newCold hexec (own := own) (C := cls) (index := ik) (n := 6) hown' hk' hins hini'
    (g := F0 m pc ls rest) rfl (by rw [hb]; exact d0) (Nat.le_refl _) (Nat.le_refl _)
  generalize hT1 : (T.setVm vm₁).pushCell { cls := cX, slots := kX.instanceTypes.map defaultValue, vm := .none } = T1 at X₁ st1
  have hcat : (Value.ref T.heap.size).category = 1 := rfl
  have hcellA : T1.heap[T.heap.size]? = some (freshCell cX kX) := by rw [← hT1]; exact State.heap_pushCell_size _ _
  have d3' : decode c.code (pc + 3) = .ok (.dup, 1) := by rw [hb]; exact d3
  obtain ⟨U, hsteps, hrun, hend, hW, hsame, ce, hce, hO⟩ := X₁.ctorThrow0 hexec htr (own := own) (cls := cls) (names := names) (ic := ic) hown' hcls hnames h (fun x hx => nomatch hx) hfX hkX hcellA (by rw [hhp, hT]; exact Nat.le_refl _)
    (g := { method := m, pc := pc + 4, locals := ls, stack := .ref T.heap.size :: .ref T.heap.size :: rest, locked := none }) rfl hsize rfl rfl (rest := rest) rfl
    (by rw [hb]; exact d4) (by rw [hb]; exact d7) hout hRframes (by simp only [List.map_cons, List.sum_cons, hcat]; omega) hlocks
  obtain ⟨f1, f2⟩ := vx_frame hsame
  rw [hhp] at f1 f2
  have hWs : s.WarmedH U.vm := State.WarmedH.trans hW0 hW
  have hcl : s.vm.findClass cls = some ce.cls := by
    have h9 := hO.cls
    rw [hvm] at h9
    exact h9
  have hall : s.sameButNew ({ U with vm := s.vm } : State) locs mc ms := by
    subst hA
    obtain ⟨e1, e2⟩ := hsame
    rw [State.setFrames_setFrames] at e1
    have h2 : (T.setVm s.vm).sameButNew ({ U with vm := s.vm } : State) [] (0 + 1) (0 + 6) := ⟨e1, e2⟩
    have h3 := X.same.trans h2
    rw [List.append_nil] at h3
    exact h3.mono hc hs
  refine ⟨U, ?_, .threw T.heap.size, hrun, hend, Or.inr ⟨T.heap.size, rfl, cls, ce, locs, hx U hWs.alike f1 (fun q hq => f2 q hq (fun z hz => nomatch hz)), hce, hO.vm, hcl, hWs, hall, hf⟩⟩
  refine st1 _ ?_
  show Steps p.tables e below (T1.setTop { method := m, pc := pc + 3, locals := ls, stack := .ref T.heap.size :: rest, locked := none }) _
  jvm_step X₁.here [X₁.here.top, hexec, d3', Value.category]
  exact hsteps
/-- 'throw new E("text")': new; dup; ldc; invokespecial; athrow -/
theorem vx_throwS {cc : ByteArray} {pc : Nat} (hexec : p.tables.exec = Jvm.exec) (hb : c.code = cc) (hl : l.stackTraces = false) {own cls text : String} {names : List String} {ik is ic mc ms sa : Nat} {A : Nat → Prop}
    (hown : s.vm.findClass own = some m.cls) (hcls : Bundle.fit cls = true) (hnames : ∀ n ∈ names, Bundle.fit n = true)
    (hk : (Cond.classLink own ik cls).before args s = true) (hini : (Cond.initialized cls).before args s = true) (hstr : vk_R own is text sa s) (hat : ∀ w ∈ vx_atS own ic cls names, w.before args s = true)
    (hgood : ∀ w ∈ Cond.classLink own ik cls :: Cond.initialized cls :: vx_atS own ic cls names, vx_ot w = true)
    (hU : vx_Zq Bundle.tN "UNASSIGNED_STACK" Bundle.steD A s s.heap) (hN : vx_Zq Bundle.tN "SUPPRESSED_SENTINEL" Bundle.listD A s s.heap) (hS : va_S A s.heap H locs) (hsize : ls.size = c.maxLocals)
    (d0 : decode cc pc = .ok (.new ik, 3)) (d3 : decode cc (pc + 3) = .ok (.dup, 1)) (d4 : decode cc (pc + 4) = .ok (.ldc is, 2)) (d6 : decode cc (pc + 6) = .ok (.invokespecial ic, 3)) (d9 : decode cc (pc + 9) = .ok (.athrow, 1))
    (hout : ∀ x ∈ c.exceptionTable.toList, covers x (pc + 9) = false)
    (hRframes : names.length + 3 < R.frames) (hRlocals : (rest.map fun v => v.category).sum + (13 * (names.length + 1) + 43) ≤ R.locals) (hRcells : cells + 1 ≤ R.cells) (hRslots : slots + 6 ≤ R.slots) (hlocks : meth.locks = false)
    (hx : ∀ t : State, s.vm.Alike t.vm → H.size ≤ t.heap.size → (∀ q : Nat, q < H.size → t.heap[q]? = H[q]?) → XC cls s t)
    (hf : ∀ z ∈ locs, free z.base) (hc : cells + 1 ≤ mc) (hs : slots + 6 ≤ ms) :
    W p l e R s m args below meth c H locs cells slots (vx_MQ below Qc XC args s mc ms free) (F0 m pc ls rest) := by
  intro T hT X
  have htr : e.platform.stackTraces = false := (show e.platform.stackTraces = l.stackTraces by rw [X.admits.platform]).trans hl
  have Y := vx_rebase X (R' := { frames := R.frames, locals := R.locals, cells := 1, slots := 6 }) (Nat.le_refl _) (Nat.le_refl _) hRcells hRslots
  obtain ⟨s', hA⟩ : ∃ z, z = (T.setVm s.vm).setFrames (.invoking m args :: below) := ⟨_, rfl⟩
  rw [← hA] at Y
  have hvm : s'.vm = s.vm := by rw [hA]; rfl
  have hhp : s'.heap = H := by rw [hA]; exact hT
  have hW0 : s.WarmedH s'.vm := by rw [hvm]; exact State.WarmedH.refl s
  have hat' : ∀ w ∈ vx_atS own ic cls names, w.before args s' = true := fun w hw => vx_ot_at hW0 hvm.symm (hgood w (List.mem_cons_of_mem _ (List.mem_cons_of_mem _ hw))) (hat w hw)
  have hk' : (Cond.classLink own ik cls).before args s' = true := vx_ot_at hW0 hvm.symm (hgood _ List.mem_cons_self) hk
  have hini' : (Cond.initialized cls).before args s' = true := vx_ot_at hW0 hvm.symm (hgood _ (List.mem_cons_of_mem _ List.mem_cons_self)) hini
  have hU' : vx_Zq Bundle.tN "UNASSIGNED_STACK" Bundle.steD A s' s'.heap := by rw [hhp]; exact vx_Zq.moved hW0.alike (hU.kept hS.2.1)
  have hN' : vx_Zq Bundle.tN "SUPPRESSED_SENTINEL" Bundle.listD A s' s'.heap := by rw [hhp]; exact vx_Zq.moved hW0.alike (hN.kept hS.2.1)
  have h : ∀ w ∈ Bundle.ownAtoms own ic cls names, w.before args s' = true := vx_own hat' (vx_isRefq hU'.1) (vx_isRefq hN'.1) hU'.2.word hN'.2.word
  have hown' : s'.vm.findClass own = some m.cls := by rw [hvm]; exact hown
  have hins : (Cond.instantiable cls 6).before args s' = true := h _ (by simp [Bundle.ownAtoms])
  obtain ⟨vm₁, cX, kX, hfX, hkX, -, -, X₁, st1⟩ := Y.newCold hexec (own := own) (C := cls) (index := ik) (n := 6) hown' hk' hins hini'
    (g := F0 m pc ls rest) rfl (by rw [hb]; exact d0) (Nat.le_refl _) (Nat.le_refl _)
  generalize hT1 : (T.setVm vm₁).pushCell { cls := cX, slots := kX.instanceTypes.map defaultValue, vm := .none } = T1 at X₁ st1
  have hcat : (Value.ref T.heap.size).category = 1 := rfl
  have hcellA : T1.heap[T.heap.size]? = some (freshCell cX kX) := by rw [← hT1]; exact State.heap_pushCell_size _ _
  have d3' : decode c.code (pc + 3) = .ok (.dup, 1) := by rw [hb]; exact d3
  have d4' : decode c.code (pc + 4) = .ok (.ldc is, 2) := by rw [hb]; exact d4
  have hstr' : vk_R own is text sa s' := vk_R.warm hW0 hstr
  obtain ⟨U, hsteps, hrun, hend, hW, hsame, ce, hce, hO⟩ := X₁.ctorThrowS hexec htr (own := own) (cls := cls) (names := names) (ic := ic) hown' hcls hnames h (fun x hx => nomatch hx) hfX hkX hcellA (by rw [hhp, hT]; exact Nat.le_refl _) (msg := .ref sa) rfl
    (g := { method := m, pc := pc + 6, locals := ls, stack := .ref sa :: .ref T.heap.size :: .ref T.heap.size :: rest, locked := none }) rfl hsize rfl rfl (rest := rest) rfl
    (by rw [hb]; exact d6) (by rw [hb]; exact d9) hout hRframes (by simp only [List.map_cons, List.sum_cons, hcat]; omega) hlocks
  obtain ⟨f1, f2⟩ := vx_frame hsame
  rw [hhp] at f1 f2
  have hWs : s.WarmedH U.vm := State.WarmedH.trans hW0 hW
  have hcl : s.vm.findClass cls = some ce.cls := by
    have h9 := hO.cls
    rw [hvm] at h9
    exact h9
  have hall : s.sameButNew ({ U with vm := s.vm } : State) locs mc ms := by
    subst hA
    obtain ⟨e1, e2⟩ := hsame
    rw [State.setFrames_setFrames] at e1
    have h2 : (T.setVm s.vm).sameButNew ({ U with vm := s.vm } : State) [] (0 + 1) (0 + 6) := ⟨e1, e2⟩
    have h3 := X.same.trans h2
    rw [List.append_nil] at h3
    exact h3.mono hc hs
  refine ⟨U, ?_, .threw T.heap.size, hrun, hend, Or.inr ⟨T.heap.size, rfl, cls, ce, locs, hx U hWs.alike f1 (fun q hq => f2 q hq (fun z hz => nomatch hz)), hce, hO.vm, hcl, hWs, hall, hf⟩⟩
  refine st1 _ ?_
  show Steps p.tables e below (T1.setTop { method := m, pc := pc + 3, locals := ls, stack := .ref T.heap.size :: rest, locked := none }) _
  jvm_step X₁.here [X₁.here.top, hexec, d3', Value.category]
  exact X₁.ldcString hexec (own := own) (text := text) (index := is) (a := sa) hown' hstr'.1 hstr'.2
    (g := { method := m, pc := pc + 4, locals := ls, stack := .ref T.heap.size :: .ref T.heap.size :: rest, locked := none }) rfl d4' _ hsteps
/-- 'throw new E("text")', the text by a wide index -/
theorem vx_throwSW {cc : ByteArray} {pc : Nat} (hexec : p.tables.exec = Jvm.exec) (hb : c.code = cc) (hl : l.stackTraces = false) {own cls text : String} {names : List String} {ik is ic mc ms sa : Nat} {A : Nat → Prop}
    (hown : s.vm.findClass own = some m.cls) (hcls : Bundle.fit cls = true) (hnames : ∀ n ∈ names, Bundle.fit n = true)
    (hk : (Cond.classLink own ik cls).before args s = true) (hini : (Cond.initialized cls).before args s = true) (hstr : vk_R own is text sa s) (hat : ∀ w ∈ vx_atS own ic cls names, w.before args s = true)
    (hgood : ∀ w ∈ Cond.classLink own ik cls :: Cond.initialized cls :: vx_atS own ic cls names, vx_ot w = true)
    (hU : vx_Zq Bundle.tN "UNASSIGNED_STACK" Bundle.steD A s s.heap) (hN : vx_Zq Bundle.tN "SUPPRESSED_SENTINEL" Bundle.listD A s s.heap) (hS : va_S A s.heap H locs) (hsize : ls.size = c.maxLocals)
    (d0 : decode cc pc = .ok (.new ik, 3)) (d3 : decode cc (pc + 3) = .ok (.dup, 1)) (d4 : decode cc (pc + 4) = .ok (.ldc_w is, 3)) (d7 : decode cc (pc + 7) = .ok (.invokespecial ic, 3)) (d10 : decode cc (pc + 10) = .ok (.athrow, 1))
    (hout : ∀ x ∈ c.exceptionTable.toList, covers x (pc + 10) = false)
    (hRframes : names.length + 3 < R.frames) (hRlocals : (rest.map fun v => v.category).sum + (13 * (names.length + 1) + 43) ≤ R.locals) (hRcells : cells + 1 ≤ R.cells) (hRslots : slots + 6 ≤ R.slots) (hlocks : meth.locks = false)
    (hx : ∀ t : State, s.vm.Alike t.vm → H.size ≤ t.heap.size → (∀ q : Nat, q < H.size → t.heap[q]? = H[q]?) → XC cls s t)
    (hf : ∀ z ∈ locs, free z.base) (hc : cells + 1 ≤ mc) (hs : slots + 6 ≤ ms) :
    W p l e R s m args below meth c H locs cells slots (vx_MQ below Qc XC args s mc ms free) (F0 m pc ls rest) := by
  intro T hT X
  have htr : e.platform.stackTraces = false := (show e.platform.stackTraces = l.stackTraces by rw [X.admits.platform]).trans hl
  have Y := vx_rebase X (R' := { frames := R.frames, locals := R.locals, cells := 1, slots := 6 }) (Nat.le_refl _) (Nat.le_refl _) hRcells hRslots
  obtain ⟨s', hA⟩ : ∃ z, z = (T.setVm s.vm).setFrames (.invoking m args :: below) := ⟨_, rfl⟩
  rw [← hA] at Y
  have hvm : s'.vm = s.vm := by rw [hA]; rfl
  have hhp : s'.heap = H := by rw [hA]; exact hT
  have hW0 : s.WarmedH s'.vm := by rw [hvm]; exact State.WarmedH.refl s
  have hat' : ∀ w ∈ vx_atS own ic cls names, w.before args s' = true := fun w hw => vx_ot_at hW0 hvm.symm (hgood w (List.mem_cons_of_mem _ (List.mem_cons_of_mem _ hw))) (hat w hw)
  have hk' : (Cond.classLink own ik cls).before args s' = true := vx_ot_at hW0 hvm.symm (hgood _ List.mem_cons_self) hk
  have hini' : (Cond.initialized cls).before args s' = true := vx_ot_at hW0 hvm.symm (hgood _ (List.mem_cons_of_mem _ List.mem_cons_self)) hini
  have hU' : vx_Zq Bundle.tN "UNASSIGNED_STACK" Bundle.steD A s' s'.heap := by rw [hhp]; exact vx_Zq.moved hW0.alike (hU.kept hS.2.1)
  have hN' : vx_Zq Bundle.tN "SUPPRESSED_SENTINEL" Bundle.listD A s' s'.heap := by rw [hhp]; exact vx_Zq.moved hW0.alike (hN.kept hS.2.1)
  have h : ∀ w ∈ Bundle.ownAtoms own ic cls names, w.before args s' = true := vx_own hat' (vx_isRefq hU'.1) (vx_isRefq hN'.1) hU'.2.word hN'.2.word
  have hown' : s'.vm.findClass own = some m.cls := by rw [hvm]; exact hown
  have hins : (Cond.instantiable cls 6).before args s' = true := h _ (by simp [Bundle.ownAtoms])
  obtain ⟨vm₁, cX, kX, hfX, hkX, -, -, X₁, st1⟩ := Y.newCold hexec (own := own) (C := cls) (index := ik) (n := 6) hown' hk' hins hini'
    (g := F0 m pc ls rest) rfl (by rw [hb]; exact d0) (Nat.le_refl _) (Nat.le_refl _)
  generalize hT1 : (T.setVm vm₁).pushCell { cls := cX, slots := kX.instanceTypes.map defaultValue, vm := .none } = T1 at X₁ st1
  have hcat : (Value.ref T.heap.size).category = 1 := rfl
  have hcellA : T1.heap[T.heap.size]? = some (freshCell cX kX) := by rw [← hT1]; exact State.heap_pushCell_size _ _
  have d3' : decode c.code (pc + 3) = .ok (.dup, 1) := by rw [hb]; exact d3
  have d4' : decode c.code (pc + 4) = .ok (.ldc_w is, 3) := by rw [hb]; exact d4
  have hstr' : vk_R own is text sa s' := vk_R.warm hW0 hstr
  obtain ⟨U, hsteps, hrun, hend, hW, hsame, ce, hce, hO⟩ := X₁.ctorThrowS hexec htr (own := own) (cls := cls) (names := names) (ic := ic) hown' hcls hnames h (fun x hx => nomatch hx) hfX hkX hcellA (by rw [hhp, hT]; exact Nat.le_refl _) (msg := .ref sa) rfl
    (g := { method := m, pc := pc + 7, locals := ls, stack := .ref sa :: .ref T.heap.size :: .ref T.heap.size :: rest, locked := none }) rfl hsize rfl rfl (rest := rest) rfl
    (by rw [hb]; exact d7) (by rw [hb]; exact d10) hout hRframes (by simp only [List.map_cons, List.sum_cons, hcat]; omega) hlocks
  obtain ⟨f1, f2⟩ := vx_frame hsame
  rw [hhp] at f1 f2
  have hWs : s.WarmedH U.vm := State.WarmedH.trans hW0 hW
  have hcl : s.vm.findClass cls = some ce.cls := by
    have h9 := hO.cls
    rw [hvm] at h9
    exact h9
  have hall : s.sameButNew ({ U with vm := s.vm } : State) locs mc ms := by
    subst hA
    obtain ⟨e1, e2⟩ := hsame
    rw [State.setFrames_setFrames] at e1
    have h2 : (T.setVm s.vm).sameButNew ({ U with vm := s.vm } : State) [] (0 + 1) (0 + 6) := ⟨e1, e2⟩
    have h3 := X.same.trans h2
    rw [List.append_nil] at h3
    exact h3.mono hc hs
  refine ⟨U, ?_, .threw T.heap.size, hrun, hend, Or.inr ⟨T.heap.size, rfl, cls, ce, locs, hx U hWs.alike f1 (fun q hq => f2 q hq (fun z hz => nomatch hz)), hce, hO.vm, hcl, hWs, hall, hf⟩⟩
  refine st1 _ ?_
  show Steps p.tables e below (T1.setTop { method := m, pc := pc + 3, locals := ls, stack := .ref T.heap.size :: rest, locked := none }) _
  jvm_step X₁.here [X₁.here.top, hexec, d3', Value.category]
  exact X₁.ldcStringW hexec (own := own) (text := text) (index := is) (a := sa) hown' hstr'.1 hstr'.2
    (g := { method := m, pc := pc + 4, locals := ls, stack := .ref T.heap.size :: .ref T.heap.size :: rest, locked := none }) rfl d4' _ hsteps
end Ends
section Bodies
variable {l : Launch}
theorem vx_ofW {y : MethodName} {ws ws' : List Cond} {rm : Room} {Pc : Array Value → State → Prop} {Qc : Array Value → State → Outcome → State → Prop} {XC : String → State → State → Prop} {mc ms : Nat} {free : Addr → Prop} {cc : ByteArray} {maxL : Nat} {ret : Option FieldType}
    (hy : plainName y.cls = true) (hw : ws = Cond.code y cc maxL ret :: ws')
    (body : ∀ p e s m args below meth c s₁, BodyLoose p l y (headSpec ws rm) cc maxL ret e s m args below meth c s₁ → c.maxLocals = maxL → (∀ x ∈ c.exceptionTable.toList, False) → Pc args s →
      W p l e (headSpec ws rm).room s m args below meth c s.heap [] 0 0 (vx_MQ below Qc XC args s mc ms free) (entryFrame m args maxL)) : vx_Met l y ws rm Pc Qc XC mc ms free := by
  refine MetFree.of_bodyS (code := cc) (maxLocals := maxL) (ret := ret) hy ?_ ?_
  · intro args s m h hn
    obtain ⟨meth, c, h1, h2, h3, h4, h5, h6, -, -⟩ := Cond.code_spec hn (atoms_spec (ws := ws) h _ (by rw [hw]; exact List.mem_cons_self))
    exact ⟨meth, c, h1, h2, h3, h4, h5, h6⟩
  · intro p e s m args below meth c s₁ B hml hP _
    have hh0 : s₁.heap = s.heap := by rw [B.state]; rfl
    have ht : ∀ x ∈ c.exceptionTable.toList, False := by
      obtain ⟨meth9, c9, h1, h2, -, -, -, -, h7, -⟩ := Cond.code_spec B.named (atoms_spec (ws := ws) B.pre _ (by rw [hw]; exact List.mem_cons_self))
      cases Option.some.inj (h1.symm.trans B.method)
      cases Option.some.inj (h2.symm.trans (Stand.of_body B).code)
      intro x hx
      rw [Array.isEmpty_iff.mp h7] at hx
      cases hx
    obtain ⟨t, a1, o, b1, b2, b3⟩ := body p e s m args below meth c s₁ B hml ht hP s₁ hh0 (Stand.of_body B)
    exact ⟨t, o, a1, b1, b2, b3⟩
/-- the table of a body with handlers -/
theorem vx_table {p : Program} {x y : MethodName} {S : Spec} {cc bytes : ByteArray} {maxL maxL' : Nat} {ret ret' : Option FieldType} {e : Env} {s s₁ : State} {m : MethodId} {args : Array Value} {below : List Frame} {meth : Method} {c : Code} {hh : List (Nat × Nat × Nat × Nat)}
    (B : BodyLoose p l y S cc maxL ret e s m args below meth c s₁) (h : (Cond.codeWith y bytes maxL' ret' hh).before args s = true) : c.exceptionTable.toList = tableOf hh := by
  obtain ⟨m9, meth9, c9, hn9, h1, h2, -, -, h6, -⟩ := Cond.codeWith_spec h
  cases Option.some.inj (hn9.symm.trans B.named)
  cases Option.some.inj (h1.symm.trans B.method)
  cases Option.some.inj (h2.symm.trans (Stand.of_body B).code)
  rw [← h6, table_eq]
end Bodies
end VXA
/-! ===== END ===== -/
/-! ===== BEGIN a static call of a method with an exception table ===== -/
section VXS
variable {p : Program} {l : Launch} {e : Env} {R : Room} {s : State} {m : MethodId} {args : Array Value} {below : List Frame} {meth : Method} {c : Code} {T : State} {H : Heap} {locs : List Loc} {cells slots : Nat}
abbrev vx_CSW (R : Room) (s : State) (args : Array Value) (own : String) (index : Nat) (y : MethodName) (bytes : ByteArray) (maxL : Nat) (ret : Option FieldType) (hh : List (Nat × Nat × Nat × Nat)) (ws : List Cond) (rm : Room) (mc ms n : Nat) : Prop :=
  (rm.cells = mc ∧ rm.slots = ms ∧ rm.frames + 1 ≤ R.frames ∧ 8 + (maxL + 11) + rm.locals ≤ R.locals ∧ (∀ w ∈ ws, ∀ (a' : Array Value) (U : State), s.WarmedH U.vm → w.before a' U = true) ∧ Cond.codeWith y bytes maxL ret hh ∈ ws) ∧
  (Cond.codeWith y bytes maxL ret hh).before args s = true ∧ (Cond.initialized y.cls).before args s = true ∧ (y.cls ≠ "java/lang/invoke/MethodHandle" ∧ y.cls ≠ "java/lang/invoke/VarHandle") ∧
  (∀ sig, parseMethodDescriptor y.desc = some sig → n = sig.parameters.length) ∧ (Cond.methodLink own index y).before args s = true ∧ (Cond.static y).before args s = true
theorem vx_cwSW {own : String} {index maxL mc ms : Nat} {y : MethodName} {bytes : ByteArray} {ret : Option FieldType} {hh : List (Nat × Nat × Nat × Nat)} {Ts ws ws' : List Cond} {rm : Room} (n : Nat) (ht : ∀ w ∈ Ts, w.before args s = true) (hT : GoodIn Ts (va_wsS own index y ws)) (hw : ws = Cond.codeWith y bytes maxL ret hh :: ws') (hrc : rm.cells = mc) (hrs : rm.slots = ms)
    (hd : y.cls ≠ "java/lang/invoke/MethodHandle" ∧ y.cls ≠ "java/lang/invoke/VarHandle" ∧ (parseMethodDescriptor y.desc).map (fun d => d.parameters.length) = some n) (hR : rm.frames + 1 ≤ R.frames ∧ 8 + (maxL + 11) + rm.locals ≤ R.locals) :
    vx_CSW R s args own index y bytes maxL ret hh ws rm mc ms n := by
  have ok : ∀ w ∈ va_wsS own index y ws, w.before args s = true := fun w h => ht w (hT w h).1
  have hG : GoodIn Ts ws := fun w h => hT w (by unfold va_wsS; exact List.mem_append_right _ h)
  have hc : Cond.codeWith y bytes maxL ret hh ∈ ws := by rw [hw]; exact List.mem_cons_self
  refine ⟨⟨hrc, hrs, hR.1, hR.2, pay_in ht hG, hc⟩, ht _ (hG _ hc).1, ok _ (by simp [va_wsS]), ⟨hd.1, hd.2.1⟩, fun sig h => ?_, ok _ (by simp [va_wsS]), ok _ (by simp [va_wsS])⟩
  have h2 := hd.2.2
  rw [h] at h2
  exact (Option.some.inj h2).symm
theorem vx_callSW (X : Stand p l e R s m args below meth c T locs cells slots) (hexec : p.tables.exec = Jvm.exec) {own : String} {index : Nat} {y : MethodName} {bytes : ByteArray} {maxL : Nat} {ret : Option FieldType} {hh : List (Nat × Nat × Nat × Nat)}
    (hown : s.vm.findClass own = some m.cls) (hlink : (Cond.methodLink own index y).before args s = true) (hstat : (Cond.static y).before args s = true) (hinit : (Cond.initialized y.cls).before args s = true)
    (hcode : (Cond.codeWith y bytes maxL ret hh).before args s = true) (hy : y.cls ≠ "java/lang/invoke/MethodHandle" ∧ y.cls ≠ "java/lang/invoke/VarHandle")
    {W9 : Nat} {Pre : Pt → Array Value → Prop} {Post : Pt → Array Value → Option Value → Pt → Prop} (hK : Back l R p e below s args y 3 W9 Pre Post)
    {g : JFrame} (hg : g.method = m) (hsize : g.locals.size = c.maxLocals) {argsL rest : List Value} (hlen : ∀ sig, parseMethodDescriptor y.desc = some sig → argsL.length = sig.parameters.length)
    (hstack : g.stack = argsL.reverse ++ rest) (hW : 2 * g.monitorRoom + (rest.map fun v => v.category).sum ≤ W9) (hdg : decode c.code g.pc = .ok (.invokestatic index, 3))
    (hpre : ∀ vm₁, s.WarmedH vm₁ → Pre ⟨T.setVm vm₁, locs, cells, slots⟩ argsL.toArray) :
    ∃ (v : Option Value) (vm₁ : Vm) (B : Pt), s.WarmedH vm₁ ∧ Stand p l e R s m args below meth c B.U B.locs B.cells B.slots ∧ Post ⟨T.setVm vm₁, locs, cells, slots⟩ argsL.toArray v B ∧
      ∀ target, Steps p.tables e below (B.U.setTop { g with pc := g.pc + 3, stack := v.toList ++ rest }) target → Steps p.tables e below (T.setTop g) target := by
  obtain ⟨mk, methM, cM, hnamed, hmethM, -, -, -, -, -, -, hsigM⟩ := Cond.codeWith_spec hcode
  have hstatic : methM.isStatic = true := Cond.static_spec hnamed hmethM hstat
  obtain ⟨kP, hkP, -⟩ := className_of_methodNamed hnamed
  have hinitP : kP.init = .initialized := Cond.initialized_spec (findClass_of_methodNamed hnamed) hkP hinit
  obtain ⟨vm₁, X₁, hstep₁⟩ := X.invokestatic hexec hown hlink hnamed hmethM hstatic hkP hinitP hy (g := g) hg (argsL := argsL) (rest := rest) (hlen _ hsigM) hstack hdg
  obtain ⟨v, B, X', hpost, hsteps⟩ := hK m meth c ⟨T.setVm vm₁, locs, cells, slots⟩ { g with stack := rest } (.invokestatic index) mk argsL.toArray X₁ hg hsize hdg hW (X₁.named hnamed) (hpre vm₁ X₁.warmed)
  exact ⟨v, vm₁, B, X₁.warmed, X', hpost, fun target h => hstep₁ _ fun acts => by rw [doInvoke_state]; exact hsteps.trans h⟩
theorem vx_runSW {y : MethodName} {bytes cc : ByteArray} {maxL nL mc ms n index : Nat} {ret : Option FieldType} {hh : List (Nat × Nat × Nat × Nat)} {ws : List Cond} {rm : Room} {Pc : Array Value → State → Prop} {Qc : Array Value → State → Outcome → State → Prop} {free : Addr → Prop} {Ts : List Cond} {own : String} {As rest : List Value} {g : JFrame}
    (S : CallFix p m c cc nL s args Ts own) (hM : Met l y ws rm Pc Qc mc ms free) (cw : vx_CSW R s args own index y bytes maxL ret hh ws rm mc ms n) (hp : PreS s H Pc As)
    (hg : g.method = m) (hn : As.length = n) (hsize : g.locals.size = nL) (hstack : g.stack = As.reverse ++ rest) (hW : 2 * g.monitorRoom + (rest.map fun v => v.category).sum ≤ 8) (hdg : decode cc g.pc = .ok (.invokestatic index, 3)) (hf : cells + mc ≤ R.cells ∧ slots + ms ≤ R.slots) :
    va_Run p l e R s m args below meth c H locs cells slots mc ms g rest (Qc As.toArray) (free) := by
  obtain ⟨⟨hrc, hrs, hfr, hlo, hws, hcw⟩, hcode, hini, hy, hlen, hl, hstt⟩ := cw
  have hK : Back l R p e below s args y 3 8 (PreOf R mc ms Pc) (PostOf Qc mc ms free) := va_backW (hh := hh) (bytes := bytes) (maxL := maxL) (ret := ret) hM hp.1 hrc hrs hfr hlo hws hcw (fun a' U hW => word_at hW (Or.inl (by first | rfl | simp [Cond.onTables, Cond.keeps, Cond.steady])) hini)
  obtain ⟨hx, hb, hml, ho, -⟩ := S
  intro T hT X
  obtain ⟨v, vm₁, ⟨U', l2, c2, s2⟩, hW₁, X', ⟨g', mk, t, L, e1, e2, hq, h1, hL, h2, h3⟩, st⟩ := vx_callSW X hx (hh := hh) (bytes := bytes) (maxL := maxL) (ret := ret) ho hl hstt hini hcode hy hK hg (hsize.trans hml.symm) (argsL := As) (rest := rest) (fun sig h => hn.trans (hlen sig h)) hstack hW (by rw [hb]; exact hdg)
    (fun vm₁ hW₁ => ⟨hf.1, hf.2, hp.2 (T.setVm vm₁) hT hW₁⟩)
  dsimp only [Pt.U, Pt.locs, Pt.cells, Pt.slots] at X' e1 e2 h1 h2 h3 st
  subst h1; subst h2; subst h3
  exact ⟨v, (T.setVm vm₁).calling g' mk As.toArray, t, U', L, hT, X', hL, e1, e2, hq, st⟩
/-- a thing of a world lies in the heap -/
theorem vx_lt {D : va_G} {cl : List vw_C} {ws : va_W} {H1 : Heap} (h : va_P D cl ws H1) {k : Nat} {q : Nat × va_E} (hk : ws[k]? = some q) : q.1 < H1.size := (h k q hk).lt
end VXS
/-! ===== END ===== -/
/-! ===== BEGIN methods with a table of their own: called by a name, returning or throwing ===== -/
section VXH
/-! vx_backW, vx_callVX, vx_callSX, vx_callVW, vx_runVW, vx_runVX, vx_runSX, vx_ofWH follow the same proofs as their sisters above (Free/Laws.lean, Shelf42/LK1.lean); vx_outP calls Shelf42/NT130.lean (outThrough). -/
section
variable {l : Launch} {R : Room} {p : Program} {e : Env} {below : List Frame} {s : State} {sargs : Array Value} {y : MethodName} {len W9 : Nat}
theorem vx_backW {ws : List Cond} {rm : Room} {Pc : Array Value → State → Prop} {Qc : Array Value → State → Outcome → State → Prop} {XC : String → State → State → Prop} {mc ms : Nat} {free : Addr → Prop} {bytes : ByteArray} {maxL : Nat} {ret : Option FieldType} {hh : List (Nat × Nat × Nat × Nat)}
    (hM : vx_Met l y ws rm Pc Qc XC mc ms free) (hblind : FrameBlind Pc) (hrc : rm.cells = mc) (hrs : rm.slots = ms)
    (hframes : rm.frames + 1 ≤ R.frames) (hlocals : W9 + (maxL + 11) + rm.locals ≤ R.locals)
    (hws : ∀ w ∈ ws, ∀ a' U, s.WarmedH U.vm → w.before a' U = true) (hcode : Cond.codeWith y bytes maxL ret hh ∈ ws) (hinit : ∀ a' U, s.WarmedH U.vm → (Cond.initialized y.cls).before a' U = true) :
    vx_Back l R p e below s sargs y len W9 (PreOf R mc ms Pc) (PostOf Qc mc ms free) (vx_Post XC mc ms free) := by
  intro m meth c A g ig mk a X hg hsize hdg hW hn hp
  have h1 : (headSpec ws rm).pre.before a A.U = true := atoms_intro fun w hw => hws w hw _ _ X.warmed
  have h2 : (Cond.codeWith y bytes maxL ret hh).before a A.U = true := hws _ hcode _ _ X.warmed
  have h3 : (Cond.initialized y.cls).before a A.U = true := hinit _ _ X.warmed
  have h4 : A.cells + (headSpec ws rm).room.cells ≤ R.cells := by rw [show (headSpec ws rm).room.cells = mc from hrc]; exact hp.1
  have h5 : A.slots + (headSpec ws rm).room.slots ≤ R.slots := by rw [show (headSpec ws rm).room.slots = ms from hrs]; exact hp.2.1
  have hPc : Pc a (A.U.calling g mk a) := hblind _ _ _ _ hp.2.2
  obtain ⟨U, Ls, c0, s0⟩ := A
  dsimp only [Pt.U, Pt.locs, Pt.cells, Pt.slots] at h1 h2 h3 h4 h5 X hn hPc ⊢
  obtain ⟨m9, methY, cY, hn9, hmY, hcY, -, hlY, -⟩ := Cond.codeWith_spec h2
  cases Option.some.inj (hn9.symm.trans hn)
  obtain ⟨kY, hkY, -⟩ := className_of_methodNamed hn
  have hinitY : kY.init = .initialized := Cond.initialized_spec (findClass_of_methodNamed hn) hkY h3
  have h : At U g.method c below := by rw [hg]; exact X.here
  have hlocals9 : W9 + (maxL + 11) + (headSpec ws rm).room.locals ≤ R.locals := hlocals
  have happ : (headSpec ws rm).appliesLoose y e.platform (U.calling g mk a) = true :=
    Spec.appliesLoose_calling (g := g) h hdg hn hkY hinitY
      (X.room_calling (g := g) (R' := (headSpec ws rm).room) hsize hmY hcY hframes (by rw [hlY]; omega) h4 h5) h1
  obtain ⟨mid, hmid⟩ := h.above
  have hfr : (U.setTop g).frames = (.java g :: mid) ++ below := by rw [State.frames_setTop' g h.top, hmid]; rfl
  obtain ⟨o, s₂, hsteps, -, hend, hq⟩ := Steps.callFree hM p X.admits X.cas X.clock (acts := []) hfr happ hPc trivial
  have hq' : vx_Q Qc XC mc ms free a (U.calling g mk a) o s₂ := hq
  rw [State.frames_setTop' g h.top] at hend
  obtain ⟨g₀, hg0⟩ := Option.isSome_iff_exists.mp h.top
  obtain ⟨r, hr⟩ := State.topJava?_eq_some.mp hg0
  have hr' : (({ U with heap := s₂.heap, slotsUsed := s₂.slotsUsed } : State).setVm s₂.vm).frames = .java g₀ :: r := hr
  rcases hq' with ⟨hqc, L, hfe, hL⟩ | ⟨q, rfl, E, ce, L, hx, hce, hcv, hcl, hW₂, hsm, hL⟩
  · obtain ⟨⟨v, rfl⟩, hW₂, e2, q2, q3, q4, q5, q6⟩ := id hfe
    have e3 : s₂ = ({ (U.calling g mk a).setFrames s₂.frames with heap := s₂.heap, slotsUsed := s₂.slotsUsed } : State).setVm s₂.vm := by
      have : s₂ = ({ s₂ with vm := (U.calling g mk a).vm } : State).setVm s₂.vm := rfl
      rw [e2] at this
      exact this
    obtain ⟨c₂, i₂, len₂, hc₂, hd₂, hf₂⟩ := hend
    have hW' : U.WarmedH s₂.vm := hW₂
    have hcc : c₂ = c := by
      have h1 : s₂.code? g.method = U.code? g.method := by
        rw [State.code?_eq, State.code?_eq, hW'.alike.method?]
      exact Option.some.inj (hc₂.symm.trans (h1.trans h.code))
    subst hcc
    have hlen : len₂ = len := by rw [hdg] at hd₂; cases hd₂; rfl
    subst hlen
    have hs₂ : s₂ = (({ U with heap := s₂.heap, slotsUsed := s₂.slotsUsed } : State).setVm s₂.vm).setTop { g with pc := g.pc + len₂, stack := v.toList ++ g.stack } := by
      refine e3.trans ?_
      rw [hf₂, State.calling_eq h.top, State.setFrames_setFrames, State.setTop_of_frames _ hr', hr]
      rfl
    have hsame : U.sameButNew ({ U with heap := s₂.heap, slotsUsed := s₂.slotsUsed } : State) L mc ms := by
      refine ⟨?_, q2, q3, q4, q5, q6⟩
      obtain ⟨t, ht, -⟩ := State.frames_cons hr
      show ({ U with heap := s₂.heap, slotsUsed := s₂.slotsUsed } : State) = { U.setFrames U.frames with heap := s₂.heap, slotsUsed := s₂.slotsUsed }
      rw [State.setFrames_self ht]
    subst hg
    refine Or.inl ⟨v, ⟨(({ U with heap := s₂.heap, slotsUsed := s₂.slotsUsed } : State).setVm s₂.vm), Ls ++ L, c0 + mc, s0 + ms⟩,
      ⟨X.admits, X.cas, X.clock, X.frames, X.room, X.hears, X.method, X.code, (X.here.setHeapUsed s₂.heap s₂.slotsUsed).setVm hW'.alike, X.tail, State.WarmedH.trans X.warmed hW', X.limits, X.bytes, X.same.trans (hsame.setVm s.vm)⟩,
      ⟨g, mk, s₂, L, rfl, rfl, hqc, rfl, hL, rfl, rfl⟩, ?_⟩
    show Steps p.tables e below _ ((({ U with heap := s₂.heap, slotsUsed := s₂.slotsUsed } : State).setVm s₂.vm).setTop { g with pc := g.pc + len₂, stack := v.toList ++ g.stack })
    rw [← hs₂]
    exact hsteps
  · obtain ⟨e2, q2, q3, q4, q5, q6⟩ := id hsm
    have e3 : s₂ = ({ (U.calling g mk a).setFrames s₂.frames with heap := s₂.heap, slotsUsed := s₂.slotsUsed } : State).setVm s₂.vm := by
      have : s₂ = ({ s₂ with vm := (U.calling g mk a).vm } : State).setVm s₂.vm := rfl
      rw [e2] at this
      exact this
    have hf₂ : s₂.frames = .throwing q :: .java g :: U.frames.tail := hend
    have hW' : U.WarmedH s₂.vm := hW₂
    have hs₂ : s₂ = ((({ U with heap := s₂.heap, slotsUsed := s₂.slotsUsed } : State).setVm s₂.vm).setTop g).pushFrame (.throwing q) := by
      refine e3.trans ?_
      rw [hf₂, State.calling_eq h.top, State.setFrames_setFrames, State.pushFrame, State.frames_setTop _ hr', State.setTop_of_frames _ hr', State.setFrames_setFrames, hr]
      rfl
    have hsame : U.sameButNew ({ U with heap := s₂.heap, slotsUsed := s₂.slotsUsed } : State) L mc ms := by
      refine ⟨?_, q2, q3, q4, q5, q6⟩
      obtain ⟨t, ht, -⟩ := State.frames_cons hr
      show ({ U with heap := s₂.heap, slotsUsed := s₂.slotsUsed } : State) = { U.setFrames U.frames with heap := s₂.heap, slotsUsed := s₂.slotsUsed }
      rw [State.setFrames_self ht]
    subst hg
    refine Or.inr ⟨q, ⟨(({ U with heap := s₂.heap, slotsUsed := s₂.slotsUsed } : State).setVm s₂.vm), Ls ++ L, c0 + mc, s0 + ms⟩,
      ⟨X.admits, X.cas, X.clock, X.frames, X.room, X.hears, X.method, X.code, (X.here.setHeapUsed s₂.heap s₂.slotsUsed).setVm hW'.alike, X.tail, State.WarmedH.trans X.warmed hW', X.limits, X.bytes, X.same.trans (hsame.setVm s.vm)⟩,
      ⟨g, mk, s₂, L, E, ce, rfl, rfl, hx, hce, hcv, hcl, rfl, hL, rfl, rfl⟩, ?_⟩
    show Steps p.tables e below _ (((({ U with heap := s₂.heap, slotsUsed := s₂.slotsUsed } : State).setVm s₂.vm).setTop g).pushFrame (.throwing q))
    rw [← hs₂]
    exact hsteps
end
variable {p : Program} {l : Launch} {e : Env} {R : Room} {s : State} {m : MethodId} {args : Array Value} {below : List Frame} {meth : Method} {c : Code} {T : State} {H : Heap} {locs : List Loc} {cells slots : Nat}
theorem vx_callVX (X : Stand p l e R s m args below meth c T locs cells slots) (hexec : p.tables.exec = Jvm.exec) {own C : String} {index : Nat} {y : MethodName} {bytes : ByteArray} {maxL : Nat} {ret : Option FieldType} {hh : List (Nat × Nat × Nat × Nat)}
    (hown : s.vm.findClass own = some m.cls) (hlink : (Cond.methodLink own index y).before args s = true) (hinst : (Cond.instanceMethod y).before args s = true) (hsel : (Cond.selects C y y).before args s = true)
    (hcode : (Cond.codeWith y bytes maxL ret hh).before args s = true) (hy : y.cls ≠ "java/lang/invoke/MethodHandle" ∧ y.cls ≠ "java/lang/invoke/VarHandle")
    {W9 : Nat} {Pre : Pt → Array Value → Prop} {Post : Pt → Array Value → Option Value → Pt → Prop} {PostX : Pt → Array Value → Addr → Pt → Prop} (hK : vx_Back l R p e below s args y 3 W9 Pre Post PostX)
    {b : Addr} {cellB : Cell} (hcell : T.heap[b]? = some cellB) (hobj : cellB.vm.isStatics = false) (hcls : s.vm.findClass C = some cellB.cls)
    {g : JFrame} (hg : g.method = m) (hsize : g.locals.size = c.maxLocals) {argsL rest : List Value} (hlen : ∀ sig, parseMethodDescriptor y.desc = some sig → argsL.length = sig.parameters.length)
    (hstack : g.stack = argsL.reverse ++ .ref b :: rest) (hW : 2 * g.monitorRoom + (rest.map fun v => v.category).sum ≤ W9) (hdg : decode c.code g.pc = .ok (.invokevirtual index, 3))
    (hpre : ∀ vm₁, s.WarmedH vm₁ → Pre ⟨T.setVm vm₁, locs, cells, slots⟩ (Value.ref b :: argsL).toArray) :
    (∃ (v : Option Value) (vm₁ : Vm) (B : Pt), s.WarmedH vm₁ ∧ Stand p l e R s m args below meth c B.U B.locs B.cells B.slots ∧ Post ⟨T.setVm vm₁, locs, cells, slots⟩ (Value.ref b :: argsL).toArray v B ∧
      ∀ target, Steps p.tables e below (B.U.setTop { g with pc := g.pc + 3, stack := v.toList ++ rest }) target → Steps p.tables e below (T.setTop g) target) ∨
    (∃ (q : Addr) (vm₁ : Vm) (B : Pt), s.WarmedH vm₁ ∧ Stand p l e R s m args below meth c B.U B.locs B.cells B.slots ∧ PostX ⟨T.setVm vm₁, locs, cells, slots⟩ (Value.ref b :: argsL).toArray q B ∧
      Steps p.tables e below (T.setTop g) ((B.U.setTop { g with stack := rest }).pushFrame (.throwing q))) := by
  obtain ⟨mk, methM, hnamed, hmethM, hstM, habM⟩ := Cond.instanceMethod_spec hinst
  obtain ⟨m8, methM', cM, hn8, hmethM', -, -, -, -, -, -, hsigM⟩ := Cond.codeWith_spec hcode
  cases Option.some.inj (hn8.symm.trans hnamed)
  cases hmethM.symm.trans hmethM'
  obtain ⟨c2, r2, m2, q1, q2, q3, q4, kP, hkP, hkPi⟩ := Cond.selects_spec hsel
  cases hcls.symm.trans q1
  cases (State.methodFound?_of_named hnamed hy).symm.trans q2
  cases hnamed.symm.trans q3
  have hselP : selectMethod e.platform s.vm cellB.cls mk = .method mk := by rw [Launch.admits_selectMethod X.admits]; exact q4
  obtain ⟨vm₁, X₁, hstep₁⟩ := X.invokevirtual hexec hown hlink hnamed hmethM hstM hkP hkPi hy (a := b) (cell := cellB) hcell
    (fun z h => by rw [h] at hobj; cases hobj) hselP hmethM habM hkP hkPi (g := g) hg (argsL := argsL) (rest := rest) (hlen _ hsigM) hstack hdg
  rcases hK m meth c ⟨T.setVm vm₁, locs, cells, slots⟩ { g with stack := rest } (.invokevirtual index) mk (Value.ref b :: argsL).toArray X₁ hg hsize hdg hW (X₁.named hnamed) (hpre vm₁ X₁.warmed) with ⟨v, B, X', hpost, hsteps⟩ | ⟨q, B, X', hpost, hsteps⟩
  · exact Or.inl ⟨v, vm₁, B, X₁.warmed, X', hpost, fun target h => hstep₁ _ fun acts => by rw [doInvoke_state]; exact hsteps.trans h⟩
  · exact Or.inr ⟨q, vm₁, B, X₁.warmed, X', hpost, hstep₁ _ fun acts => by rw [doInvoke_state]; exact hsteps⟩
theorem vx_callSX (X : Stand p l e R s m args below meth c T locs cells slots) (hexec : p.tables.exec = Jvm.exec) {own : String} {index : Nat} {y : MethodName} {bytes : ByteArray} {maxL : Nat} {ret : Option FieldType} {hh : List (Nat × Nat × Nat × Nat)}
    (hown : s.vm.findClass own = some m.cls) (hlink : (Cond.methodLink own index y).before args s = true) (hstat : (Cond.static y).before args s = true) (hinit : (Cond.initialized y.cls).before args s = true)
    (hcode : (Cond.codeWith y bytes maxL ret hh).before args s = true) (hy : y.cls ≠ "java/lang/invoke/MethodHandle" ∧ y.cls ≠ "java/lang/invoke/VarHandle")
    {W9 : Nat} {Pre : Pt → Array Value → Prop} {Post : Pt → Array Value → Option Value → Pt → Prop} {PostX : Pt → Array Value → Addr → Pt → Prop} (hK : vx_Back l R p e below s args y 3 W9 Pre Post PostX)
    {g : JFrame} (hg : g.method = m) (hsize : g.locals.size = c.maxLocals) {argsL rest : List Value} (hlen : ∀ sig, parseMethodDescriptor y.desc = some sig → argsL.length = sig.parameters.length)
    (hstack : g.stack = argsL.reverse ++ rest) (hW : 2 * g.monitorRoom + (rest.map fun v => v.category).sum ≤ W9) (hdg : decode c.code g.pc = .ok (.invokestatic index, 3))
    (hpre : ∀ vm₁, s.WarmedH vm₁ → Pre ⟨T.setVm vm₁, locs, cells, slots⟩ argsL.toArray) :
    (∃ (v : Option Value) (vm₁ : Vm) (B : Pt), s.WarmedH vm₁ ∧ Stand p l e R s m args below meth c B.U B.locs B.cells B.slots ∧ Post ⟨T.setVm vm₁, locs, cells, slots⟩ argsL.toArray v B ∧
      ∀ target, Steps p.tables e below (B.U.setTop { g with pc := g.pc + 3, stack := v.toList ++ rest }) target → Steps p.tables e below (T.setTop g) target) ∨
    (∃ (q : Addr) (vm₁ : Vm) (B : Pt), s.WarmedH vm₁ ∧ Stand p l e R s m args below meth c B.U B.locs B.cells B.slots ∧ PostX ⟨T.setVm vm₁, locs, cells, slots⟩ argsL.toArray q B ∧
      Steps p.tables e below (T.setTop g) ((B.U.setTop { g with stack := rest }).pushFrame (.throwing q))) := by
  obtain ⟨mk, methM, cM, hnamed, hmethM, -, -, -, -, -, -, hsigM⟩ := Cond.codeWith_spec hcode
  have hstatic : methM.isStatic = true := Cond.static_spec hnamed hmethM hstat
  obtain ⟨kP, hkP, -⟩ := className_of_methodNamed hnamed
  have hinitP : kP.init = .initialized := Cond.initialized_spec (findClass_of_methodNamed hnamed) hkP hinit
  obtain ⟨vm₁, X₁, hstep₁⟩ := X.invokestatic hexec hown hlink hnamed hmethM hstatic hkP hinitP hy (g := g) hg (argsL := argsL) (rest := rest) (hlen _ hsigM) hstack hdg
  rcases hK m meth c ⟨T.setVm vm₁, locs, cells, slots⟩ { g with stack := rest } (.invokestatic index) mk argsL.toArray X₁ hg hsize hdg hW (X₁.named hnamed) (hpre vm₁ X₁.warmed) with ⟨v, B, X', hpost, hsteps⟩ | ⟨q, B, X', hpost, hsteps⟩
  · exact Or.inl ⟨v, vm₁, B, X₁.warmed, X', hpost, fun target h => hstep₁ _ fun acts => by rw [doInvoke_state]; exact hsteps.trans h⟩
  · exact Or.inr ⟨q, vm₁, B, X₁.warmed, X', hpost, hstep₁ _ fun acts => by rw [doInvoke_state]; exact hsteps⟩
theorem vx_callVW (X : Stand p l e R s m args below meth c T locs cells slots) (hexec : p.tables.exec = Jvm.exec) {own C : String} {index : Nat} {y : MethodName} {bytes : ByteArray} {maxL : Nat} {ret : Option FieldType} {hh : List (Nat × Nat × Nat × Nat)}
    (hown : s.vm.findClass own = some m.cls) (hlink : (Cond.methodLink own index y).before args s = true) (hinst : (Cond.instanceMethod y).before args s = true) (hsel : (Cond.selects C y y).before args s = true)
    (hcode : (Cond.codeWith y bytes maxL ret hh).before args s = true) (hy : y.cls ≠ "java/lang/invoke/MethodHandle" ∧ y.cls ≠ "java/lang/invoke/VarHandle")
    {W9 : Nat} {Pre : Pt → Array Value → Prop} {Post : Pt → Array Value → Option Value → Pt → Prop} (hK : Back l R p e below s args y 3 W9 Pre Post)
    {b : Addr} {cellB : Cell} (hcell : T.heap[b]? = some cellB) (hobj : cellB.vm.isStatics = false) (hcls : s.vm.findClass C = some cellB.cls)
    {g : JFrame} (hg : g.method = m) (hsize : g.locals.size = c.maxLocals) {argsL rest : List Value} (hlen : ∀ sig, parseMethodDescriptor y.desc = some sig → argsL.length = sig.parameters.length)
    (hstack : g.stack = argsL.reverse ++ .ref b :: rest) (hW : 2 * g.monitorRoom + (rest.map fun v => v.category).sum ≤ W9) (hdg : decode c.code g.pc = .ok (.invokevirtual index, 3))
    (hpre : ∀ vm₁, s.WarmedH vm₁ → Pre ⟨T.setVm vm₁, locs, cells, slots⟩ (Value.ref b :: argsL).toArray) :
    ∃ (v : Option Value) (vm₁ : Vm) (B : Pt), s.WarmedH vm₁ ∧ Stand p l e R s m args below meth c B.U B.locs B.cells B.slots ∧ Post ⟨T.setVm vm₁, locs, cells, slots⟩ (Value.ref b :: argsL).toArray v B ∧
      ∀ target, Steps p.tables e below (B.U.setTop { g with pc := g.pc + 3, stack := v.toList ++ rest }) target → Steps p.tables e below (T.setTop g) target := by
  obtain ⟨mk, methM, hnamed, hmethM, hstM, habM⟩ := Cond.instanceMethod_spec hinst
  obtain ⟨m8, methM', cM, hn8, hmethM', -, -, -, -, -, -, hsigM⟩ := Cond.codeWith_spec hcode
  cases Option.some.inj (hn8.symm.trans hnamed)
  cases hmethM.symm.trans hmethM'
  obtain ⟨c2, r2, m2, q1, q2, q3, q4, kP, hkP, hkPi⟩ := Cond.selects_spec hsel
  cases hcls.symm.trans q1
  cases (State.methodFound?_of_named hnamed hy).symm.trans q2
  cases hnamed.symm.trans q3
  have hselP : selectMethod e.platform s.vm cellB.cls mk = .method mk := by rw [Launch.admits_selectMethod X.admits]; exact q4
  obtain ⟨vm₁, X₁, hstep₁⟩ := X.invokevirtual hexec hown hlink hnamed hmethM hstM hkP hkPi hy (a := b) (cell := cellB) hcell
    (fun z h => by rw [h] at hobj; cases hobj) hselP hmethM habM hkP hkPi (g := g) hg (argsL := argsL) (rest := rest) (hlen _ hsigM) hstack hdg
  obtain ⟨v, B, X', hpost, hsteps⟩ := hK m meth c ⟨T.setVm vm₁, locs, cells, slots⟩ { g with stack := rest } (.invokevirtual index) mk (Value.ref b :: argsL).toArray X₁ hg hsize hdg hW (X₁.named hnamed) (hpre vm₁ X₁.warmed)
  exact ⟨v, vm₁, B, X₁.warmed, X', hpost, fun target h => hstep₁ _ fun acts => by rw [doInvoke_state]; exact hsteps.trans h⟩
abbrev vx_CVW (R : Room) (s : State) (args : Array Value) (own C : String) (index : Nat) (y : MethodName) (bytes : ByteArray) (maxL : Nat) (ret : Option FieldType) (hh : List (Nat × Nat × Nat × Nat)) (ws : List Cond) (rm : Room) (mc ms n : Nat) : Prop :=
  (rm.cells = mc ∧ rm.slots = ms ∧ rm.frames + 1 ≤ R.frames ∧ 8 + (maxL + 11) + rm.locals ≤ R.locals ∧ (∀ w ∈ ws, ∀ (a' : Array Value) (U : State), s.WarmedH U.vm → w.before a' U = true) ∧ Cond.codeWith y bytes maxL ret hh ∈ ws) ∧
  (Cond.codeWith y bytes maxL ret hh).before args s = true ∧ (Cond.initialized y.cls).before args s = true ∧ (y.cls ≠ "java/lang/invoke/MethodHandle" ∧ y.cls ≠ "java/lang/invoke/VarHandle") ∧
  (∀ sig, parseMethodDescriptor y.desc = some sig → n = sig.parameters.length) ∧ (Cond.methodLink own index y).before args s = true ∧ (Cond.instanceMethod y).before args s = true ∧ (Cond.selects C y y).before args s = true
theorem vx_cwVW {own C : String} {index maxL mc ms : Nat} {y : MethodName} {bytes : ByteArray} {ret : Option FieldType} {hh : List (Nat × Nat × Nat × Nat)} {Ts ws ws' : List Cond} {rm : Room} (n : Nat) (ht : ∀ w ∈ Ts, w.before args s = true) (hT : GoodIn Ts (wsV own index C y ws)) (hw : ws = Cond.codeWith y bytes maxL ret hh :: ws') (hrc : rm.cells = mc) (hrs : rm.slots = ms)
    (hd : y.cls = C ∧ y.cls ≠ "java/lang/invoke/MethodHandle" ∧ y.cls ≠ "java/lang/invoke/VarHandle" ∧ (parseMethodDescriptor y.desc).map (fun d => d.parameters.length) = some n) (hR : rm.frames + 1 ≤ R.frames ∧ 8 + (maxL + 11) + rm.locals ≤ R.locals) :
    vx_CVW R s args own C index y bytes maxL ret hh ws rm mc ms n := by
  obtain ⟨hC, hd⟩ := hd
  subst hC
  have ok : ∀ w ∈ wsV own index y.cls y ws, w.before args s = true := fun w h => ht w (hT w h).1
  have hG : GoodIn Ts ws := fun w h => hT w (by unfold wsV; exact List.mem_append_right _ h)
  have hc : Cond.codeWith y bytes maxL ret hh ∈ ws := by rw [hw]; exact List.mem_cons_self
  refine ⟨⟨hrc, hrs, hR.1, hR.2, pay_in ht hG, hc⟩, ht _ (hG _ hc).1, ok _ (by simp [wsV]), ⟨hd.1, hd.2.1⟩, fun sig h => ?_, ok _ (by simp [wsV]), ok _ (by simp [wsV]), ok _ (by simp [wsV])⟩
  have h2 := hd.2.2
  rw [h] at h2
  exact (Option.some.inj h2).symm
theorem vx_runVW {y : MethodName} {bytes cc : ByteArray} {maxL nL mc ms n index : Nat} {ret : Option FieldType} {hh : List (Nat × Nat × Nat × Nat)} {ws : List Cond} {rm : Room} {Pc : Array Value → State → Prop} {Qc : Array Value → State → Outcome → State → Prop} {free : Addr → Prop} {Ts : List Cond} {own C : String} {b : Addr} {As rest : List Value} {g : JFrame}
    (S : CallFix p m c cc nL s args Ts own) (hM : Met l y ws rm Pc Qc mc ms free) (cw : vx_CVW R s args own C index y bytes maxL ret hh ws rm mc ms n) (hp : PreV s H C b Pc As)
    (hg : g.method = m) (hn : As.length = n) (hsize : g.locals.size = nL) (hstack : g.stack = As.reverse ++ .ref b :: rest) (hW : 2 * g.monitorRoom + (rest.map fun v => v.category).sum ≤ 8) (hdg : decode cc g.pc = .ok (.invokevirtual index, 3)) (hf : cells + mc ≤ R.cells ∧ slots + ms ≤ R.slots) :
    va_Run p l e R s m args below meth c H locs cells slots mc ms g rest (Qc (Value.ref b :: As).toArray) free := by
  obtain ⟨⟨hrc, hrs, hfr, hlo, hws, hcw⟩, hcode, hini, hy, hlen, hl, hin, hse⟩ := cw
  have hK : Back l R p e below s args y 3 8 (PreOf R mc ms Pc) (PostOf Qc mc ms free) := va_backW (hh := hh) (bytes := bytes) (maxL := maxL) (ret := ret) hM hp.1 hrc hrs hfr hlo hws hcw (fun a' U hW => word_at hW (Or.inl (by first | rfl | simp [Cond.onTables, Cond.keeps, Cond.steady])) hini)
  obtain ⟨hx, hb, hml, ho, -⟩ := S
  obtain ⟨-, ⟨cellB, hcB, hoB, hclB⟩, hPc⟩ := hp
  intro T hT X
  obtain ⟨v, vm₁, ⟨U', l2, c2, s2⟩, hW₁, X', ⟨g', mk, t, L, e1, e2, hq, h1, hL, h2, h3⟩, st⟩ := vx_callVW X hx (C := C) (hh := hh) (bytes := bytes) (maxL := maxL) (ret := ret) ho hl hin hse hcode hy hK (by rw [hT]; exact hcB) hoB hclB hg (hsize.trans hml.symm) (argsL := As) (rest := rest) (fun sig h => hn.trans (hlen sig h)) hstack hW (by rw [hb]; exact hdg)
    (fun vm₁ hW₁ => ⟨hf.1, hf.2, hPc (T.setVm vm₁) hT hW₁⟩)
  dsimp only [Pt.U, Pt.locs, Pt.cells, Pt.slots] at X' e1 e2 h1 h2 h3 st
  subst h1; subst h2; subst h3
  exact ⟨v, (T.setVm vm₁).calling g' mk (Value.ref b :: As).toArray, t, U', L, hT, X', hL, e1, e2, hq, st⟩
section
variable {y : MethodName} {bytes cc : ByteArray} {maxL nL mc ms n index : Nat} {ret : Option FieldType} {ws : List Cond} {rm : Room} {Pc : Array Value → State → Prop} {Qc : Array Value → State → Outcome → State → Prop} {XC : String → State → State → Prop} {free : Addr → Prop} {Ts : List Cond} {own C : String} {b : Addr} {As rest : List Value} {g : JFrame}
theorem vx_runVX {hh : List (Nat × Nat × Nat × Nat)} (S : CallFix p m c cc nL s args Ts own) (hM : vx_Met l y ws rm Pc Qc XC mc ms free) (cw : vx_CVW R s args own C index y bytes maxL ret hh ws rm mc ms n) (hp : PreV s H C b Pc As)
    (hg : g.method = m) (hn : As.length = n) (hsize : g.locals.size = nL) (hstack : g.stack = As.reverse ++ .ref b :: rest) (hW : 2 * g.monitorRoom + (rest.map fun v => v.category).sum ≤ 8) (hdg : decode cc g.pc = .ok (.invokevirtual index, 3)) (hf : cells + mc ≤ R.cells ∧ slots + ms ≤ R.slots) :
    vx_Run p l e R s m args below meth c H locs cells slots mc ms g rest (Qc (Value.ref b :: As).toArray) XC free := by
  obtain ⟨⟨hrc, hrs, hfr, hlo, hws, hcw⟩, hcode, hini, hy, hlen, hl, hin, hse⟩ := cw
  have hK : vx_Back l R p e below s args y 3 8 (PreOf R mc ms Pc) (PostOf Qc mc ms free) (vx_Post XC mc ms free) := vx_backW (hh := hh) (bytes := bytes) (maxL := maxL) (ret := ret) hM hp.1 hrc hrs hfr hlo hws hcw (fun a' U hW => word_at hW (Or.inl (by first | rfl | simp [Cond.onTables, Cond.keeps, Cond.steady])) hini)
  obtain ⟨hx, hb, hml, ho, -⟩ := S
  obtain ⟨-, ⟨cellB, hcB, hoB, hclB⟩, hPc⟩ := hp
  intro T hT X
  rcases vx_callVX X hx (C := C) (hh := hh) (bytes := bytes) (maxL := maxL) (ret := ret) ho hl hin hse hcode hy hK (by rw [hT]; exact hcB) hoB hclB hg (hsize.trans hml.symm) (argsL := As) (rest := rest) (fun sig h => hn.trans (hlen sig h)) hstack hW (by rw [hb]; exact hdg)
    (fun vm₁ hW₁ => ⟨hf.1, hf.2, hPc (T.setVm vm₁) hT hW₁⟩) with ⟨v, vm₁, ⟨U', l2, c2, s2⟩, hW₁, X', ⟨g', mk, t, L, e1, e2, hq, h1, hL, h2, h3⟩, st⟩ | ⟨q, vm₁, ⟨U', l2, c2, s2⟩, hW₁, X', ⟨g', mk, t, L, E, ce, e1, e2, hq, hce, hcv, hcl, h1, hL, h2, h3⟩, st⟩
  · dsimp only [Pt.U, Pt.locs, Pt.cells, Pt.slots] at X' e1 e2 h1 h2 h3 st
    subst h1; subst h2; subst h3
    exact Or.inl ⟨v, (T.setVm vm₁).calling g' mk (Value.ref b :: As).toArray, t, U', L, hT, X', hL, e1, e2, hq, st⟩
  · dsimp only [Pt.U, Pt.locs, Pt.cells, Pt.slots] at X' e1 e2 h1 h2 h3 st hcl
    subst h1; subst h2; subst h3
    exact Or.inr ⟨q, (T.setVm vm₁).calling g' mk (Value.ref b :: As).toArray, t, U', L, E, ce, hT, X', hL, e1, e2, hq, hce, hcv, vx_cls hW₁ hcl, st⟩
theorem vx_runSX {hh : List (Nat × Nat × Nat × Nat)} (S : CallFix p m c cc nL s args Ts own) (hM : vx_Met l y ws rm Pc Qc XC mc ms free) (cw : vx_CSW R s args own index y bytes maxL ret hh ws rm mc ms n) (hp : PreS s H Pc As)
    (hg : g.method = m) (hn : As.length = n) (hsize : g.locals.size = nL) (hstack : g.stack = As.reverse ++ rest) (hW : 2 * g.monitorRoom + (rest.map fun v => v.category).sum ≤ 8) (hdg : decode cc g.pc = .ok (.invokestatic index, 3)) (hf : cells + mc ≤ R.cells ∧ slots + ms ≤ R.slots) :
    vx_Run p l e R s m args below meth c H locs cells slots mc ms g rest (Qc As.toArray) XC free := by
  obtain ⟨⟨hrc, hrs, hfr, hlo, hws, hcw⟩, hcode, hini, hy, hlen, hl, hstt⟩ := cw
  have hK : vx_Back l R p e below s args y 3 8 (PreOf R mc ms Pc) (PostOf Qc mc ms free) (vx_Post XC mc ms free) := vx_backW (hh := hh) (bytes := bytes) (maxL := maxL) (ret := ret) hM hp.1 hrc hrs hfr hlo hws hcw (fun a' U hW => word_at hW (Or.inl (by first | rfl | simp [Cond.onTables, Cond.keeps, Cond.steady])) hini)
  obtain ⟨hx, hb, hml, ho, -⟩ := S
  intro T hT X
  rcases vx_callSX X hx (hh := hh) (bytes := bytes) (maxL := maxL) (ret := ret) ho hl hstt hini hcode hy hK hg (hsize.trans hml.symm) (argsL := As) (rest := rest) (fun sig h => hn.trans (hlen sig h)) hstack hW (by rw [hb]; exact hdg)
    (fun vm₁ hW₁ => ⟨hf.1, hf.2, hp.2 (T.setVm vm₁) hT hW₁⟩) with ⟨v, vm₁, ⟨U', l2, c2, s2⟩, hW₁, X', ⟨g', mk, t, L, e1, e2, hq, h1, hL, h2, h3⟩, st⟩ | ⟨q, vm₁, ⟨U', l2, c2, s2⟩, hW₁, X', ⟨g', mk, t, L, E, ce, e1, e2, hq, hce, hcv, hcl, h1, hL, h2, h3⟩, st⟩
  · dsimp only [Pt.U, Pt.locs, Pt.cells, Pt.slots] at X' e1 e2 h1 h2 h3 st
    subst h1; subst h2; subst h3
    exact Or.inl ⟨v, (T.setVm vm₁).calling g' mk As.toArray, t, U', L, hT, X', hL, e1, e2, hq, st⟩
  · dsimp only [Pt.U, Pt.locs, Pt.cells, Pt.slots] at X' e1 e2 h1 h2 h3 st hcl
    subst h1; subst h2; subst h3
    exact Or.inr ⟨q, (T.setVm vm₁).calling g' mk As.toArray, t, U', L, E, ce, hT, X', hL, e1, e2, hq, hce, hcv, vx_cls hW₁ hcl, st⟩
end
end VXH
theorem vx_ofWH {l : Launch} {y : MethodName} {ws ws' : List Cond} {rm : Room} {Pc : Array Value → State → Prop} {Qc : Array Value → State → Outcome → State → Prop} {XC : String → State → State → Prop} {mc ms : Nat} {free : Addr → Prop} {cc : ByteArray} {maxL : Nat} {ret : Option FieldType} {hh : List (Nat × Nat × Nat × Nat)}
    (hy : plainName y.cls = true) (hw : ws = Cond.codeWith y cc maxL ret hh :: ws')
    (body : ∀ p e s m args below meth c s₁, BodyLoose p l y (headSpec ws rm) cc maxL ret e s m args below meth c s₁ → c.maxLocals = maxL → Pc args s →
      W p l e (headSpec ws rm).room s m args below meth c s.heap [] 0 0 (vx_MQ below Qc XC args s mc ms free) (entryFrame m args maxL)) : vx_Met l y ws rm Pc Qc XC mc ms free := by
  refine MetFree.of_bodyS (code := cc) (maxLocals := maxL) (ret := ret) hy ?_ ?_
  · intro args s m h hn
    obtain ⟨m9, meth, c, hn9, h1, h2, h3, h4, -, h5, h6, -⟩ := Cond.codeWith_spec (atoms_spec (ws := ws) h _ (by rw [hw]; exact List.mem_cons_self))
    cases hn.symm.trans hn9
    exact ⟨meth, c, h1, h2, h3, h4, h5, h6⟩
  · intro p e s m args below meth c s₁ B hml hP _
    have hh0 : s₁.heap = s.heap := by rw [B.state]; rfl
    obtain ⟨t, a1, o, b1, b2, b3⟩ := body p e s m args below meth c s₁ B hml hP s₁ hh0 (Stand.of_body B)
    exact ⟨t, o, a1, b1, b2, b3⟩
/-! ===== END ===== -/
end
section
def RX0 : String := "GraphTexts$Cursor"
def TX0 : u_T := fun k => match k with
  | 0 => ("GraphTexts$Cursor", "text", "LGraphTexts$Row;", false)
  | 1 => ("GraphTexts$Cursor", "at", "I", false)
  | 2 => ("GraphTexts$Cursor", "now", "I", false)
  | 3 => ("GraphTexts$Cursor", "line", "I", false)
  | 4 => ("GraphTexts$Cursor", "lineStart", "I", false)
  | 5 => ("GraphTexts$Cursor", "faultCode", "I", false)
  | 6 => ("GraphTexts$Cursor", "faultLine", "I", false)
  | _ => ("GraphTexts$Cursor", "faultPlace", "I", false)
def tyX0 : Nat → FieldType := fun k => match k with
  | 0 => .object "GraphTexts$Row"
  | 1 => .int
  | 2 => .int
  | 3 => .int
  | 4 => .int
  | 5 => .int
  | 6 => .int
  | _ => .int
abbrev wsX00 : List Cond := u_ws RX0 TX0 8
theorem nmX0 : ∀ a, a < 8 → ∀ b, b < 8 → a ≠ b → (TX0 a).2.1 ≠ (TX0 b).2.1 := by decide +kernel
theorem tyX0_ok : ∀ k, k < 8 → parseFieldDescriptor (TX0 k).2.2.1 = some (tyX0 k) := by decide +kernel
abbrev cX0_init : ByteArray := prog_2_method_1_code
def yX0_init : MethodName := ⟨RX0, "<init>", "(LGraphTexts$Row;)V"⟩
abbrev cX0_start : ByteArray := prog_2_method_2_code
def yX0_start : MethodName := ⟨RX0, "start", "(LGraphTexts$Row;)V"⟩
abbrev cX0_hasLine : ByteArray := prog_2_method_3_code
def yX0_hasLine : MethodName := ⟨RX0, "hasLine", "()Z"⟩
abbrev cX0_nextLine : ByteArray := prog_2_method_4_code
def yX0_nextLine : MethodName := ⟨RX0, "nextLine", "()V"⟩
abbrev cX0_step : ByteArray := prog_2_method_5_code
def yX0_step : MethodName := ⟨RX0, "step", "()V"⟩
abbrev cX0_skipBlanks : ByteArray := prog_2_method_6_code
def yX0_skipBlanks : MethodName := ⟨RX0, "skipBlanks", "()V"⟩
abbrev cX0_isWordEnd : ByteArray := prog_2_method_7_code
def yX0_isWordEnd : MethodName := ⟨RX0, "isWordEnd", "()Z"⟩
abbrev cX0_placeOf : ByteArray := prog_2_method_8_code
def yX0_placeOf : MethodName := ⟨RX0, "placeOf", "(I)I"⟩
abbrev cX0_wrong : ByteArray := prog_2_method_9_code
def yX0_wrong : MethodName := ⟨RX0, "wrong", "(II)Z"⟩
abbrev cX0_wrongElsewhere : ByteArray := prog_2_method_10_code
def yX0_wrongElsewhere : MethodName := ⟨RX0, "wrongElsewhere", "(III)Z"⟩
def RX1 : String := "GraphTexts$Graph"
def TX1 : u_T := fun k => match k with
  | 0 => ("GraphTexts$Graph", "signs", "LGraphTexts$Row;", true)
  | 1 => ("GraphTexts$Graph", "nodes", "LGraphTexts$Spans;", true)
  | 2 => ("GraphTexts$Graph", "heads", "LGraphTexts$Spans;", true)
  | 3 => ("GraphTexts$Graph", "comments", "LGraphTexts$Spans;", true)
  | 4 => ("GraphTexts$Graph", "kinds", "LGraphTexts$Row;", true)
  | 5 => ("GraphTexts$Graph", "from", "LGraphTexts$Row;", true)
  | 6 => ("GraphTexts$Graph", "to", "LGraphTexts$Row;", true)
  | 7 => ("GraphTexts$Graph", "arcLines", "LGraphTexts$Row;", true)
  | 8 => ("GraphTexts$Graph", "values", "LGraphTexts$Spans;", true)
  | 9 => ("GraphTexts$Graph", "types", "LGraphTexts$Row;", true)
  | 10 => ("GraphTexts$Graph", "thousandths", "LGraphTexts$Row;", true)
  | 11 => ("GraphTexts$Graph", "lines", "LGraphTexts$Row;", true)
  | 12 => ("GraphTexts$Graph", "arcsLeftOut", "I", false)
  | 13 => ("GraphTexts$Graph", "toldNodes", "I", false)
  | _ => ("GraphTexts$Graph", "toldArcs", "I", false)
def tyX1 : Nat → FieldType := fun k => match k with
  | 0 => .object "GraphTexts$Row"
  | 1 => .object "GraphTexts$Spans"
  | 2 => .object "GraphTexts$Spans"
  | 3 => .object "GraphTexts$Spans"
  | 4 => .object "GraphTexts$Row"
  | 5 => .object "GraphTexts$Row"
  | 6 => .object "GraphTexts$Row"
  | 7 => .object "GraphTexts$Row"
  | 8 => .object "GraphTexts$Spans"
  | 9 => .object "GraphTexts$Row"
  | 10 => .object "GraphTexts$Row"
  | 11 => .object "GraphTexts$Row"
  | 12 => .int
  | 13 => .int
  | _ => .int
abbrev wsX10 : List Cond := u_ws RX1 TX1 15
theorem nmX1 : ∀ a, a < 15 → ∀ b, b < 15 → a ≠ b → (TX1 a).2.1 ≠ (TX1 b).2.1 := by decide +kernel
theorem tyX1_ok : ∀ k, k < 15 → parseFieldDescriptor (TX1 k).2.2.1 = some (tyX1 k) := by decide +kernel
abbrev cX1_init : ByteArray := prog_3_method_1_code
def yX1_init : MethodName := ⟨RX1, "<init>", "()V"⟩
abbrev cX1_clear : ByteArray := prog_3_method_2_code
def yX1_clear : MethodName := ⟨RX1, "clear", "()V"⟩
abbrev cX1_arcCount : ByteArray := prog_3_method_3_code
def yX1_arcCount : MethodName := ⟨RX1, "arcCount", "()I"⟩
abbrev cX1_hasValue : ByteArray := prog_3_method_4_code
def yX1_hasValue : MethodName := ⟨RX1, "hasValue", "(II)Z"⟩
abbrev cX1_roomOf : ByteArray := prog_3_method_5_code
def yX1_roomOf : MethodName := ⟨RX1, "roomOf", "(II)I"⟩
abbrev cX1_missingOf : ByteArray := prog_3_method_6_code
def yX1_missingOf : MethodName := ⟨RX1, "missingOf", "(I)I"⟩
abbrev cX1_hasArc : ByteArray := prog_3_method_7_code
def yX1_hasArc : MethodName := ⟨RX1, "hasArc", "(II)Z"⟩
abbrev cX1_addArc : ByteArray := prog_3_method_8_code
def yX1_addArc : MethodName := ⟨RX1, "addArc", "(III)V"⟩
abbrev cX1_addValue : ByteArray := prog_3_method_9_code
def yX1_addValue : MethodName := ⟨RX1, "addValue", "(III)V"⟩
abbrev cX1_leaveArcOut : ByteArray := prog_3_method_10_code
def yX1_leaveArcOut : MethodName := ⟨RX1, "leaveArcOut", "()V"⟩
abbrev cX1_settleKinds : ByteArray := prog_3_method_11_code
def yX1_settleKinds : MethodName := ⟨RX1, "settleKinds", "()V"⟩
abbrev cX1_guessKind : ByteArray := prog_3_method_12_code
def yX1_guessKind : MethodName := ⟨RX1, "guessKind", "(I)I"⟩
def RX2 : String := "GraphTexts$Reader"
def TX2 : u_T := fun k => match k with
  | 0 => ("GraphTexts$Reader", "cursor", "LGraphTexts$Cursor;", true)
  | 1 => ("GraphTexts$Reader", "graph", "LGraphTexts$Graph;", false)
  | 2 => ("GraphTexts$Reader", "manner", "I", false)
  | 3 => ("GraphTexts$Reader", "arcWasRead", "Z", false)
  | 4 => ("GraphTexts$Reader", "countLine", "I", false)
  | 5 => ("GraphTexts$Reader", "nodesPlace", "I", false)
  | 6 => ("GraphTexts$Reader", "arcsPlace", "I", false)
  | 7 => ("GraphTexts$Reader", "number", "I", false)
  | 8 => ("GraphTexts$Reader", "nameAt", "I", false)
  | 9 => ("GraphTexts$Reader", "nameStart", "I", false)
  | 10 => ("GraphTexts$Reader", "valueType", "I", false)
  | 11 => ("GraphTexts$Reader", "valueStart", "I", false)
  | 12 => ("GraphTexts$Reader", "arcAt", "I", false)
  | 13 => ("GraphTexts$Reader", "first", "I", false)
  | 14 => ("GraphTexts$Reader", "second", "I", false)
  | _ => ("GraphTexts$Reader", "doubled", "Z", false)
def tyX2 : Nat → FieldType := fun k => match k with
  | 0 => .object "GraphTexts$Cursor"
  | 1 => .object "GraphTexts$Graph"
  | 2 => .int
  | 3 => .boolean
  | 4 => .int
  | 5 => .int
  | 6 => .int
  | 7 => .int
  | 8 => .int
  | 9 => .int
  | 10 => .int
  | 11 => .int
  | 12 => .int
  | 13 => .int
  | 14 => .int
  | _ => .boolean
abbrev wsX20 : List Cond := u_ws RX2 TX2 16
theorem nmX2 : ∀ a, a < 16 → ∀ b, b < 16 → a ≠ b → (TX2 a).2.1 ≠ (TX2 b).2.1 := by decide +kernel
theorem tyX2_ok : ∀ k, k < 16 → parseFieldDescriptor (TX2 k).2.2.1 = some (tyX2 k) := by decide +kernel
abbrev cX2_init : ByteArray := prog_4_method_1_code
def yX2_init : MethodName := ⟨RX2, "<init>", "(LGraphTexts$Row;LGraphTexts$Graph;)V"⟩
abbrev cX2_readText : ByteArray := prog_4_method_2_code
def yX2_readText : MethodName := ⟨RX2, "readText", "(LGraphTexts$Row;LGraphTexts$Graph;I)Z"⟩
abbrev cX2_countIsTrue : ByteArray := prog_4_method_3_code
def yX2_countIsTrue : MethodName := ⟨RX2, "countIsTrue", "()Z"⟩
abbrev cX2_readLine : ByteArray := prog_4_method_4_code
def yX2_readLine : MethodName := ⟨RX2, "readLine", "()Z"⟩
abbrev cX2_readComment : ByteArray := prog_4_method_5_code
def yX2_readComment : MethodName := ⟨RX2, "readComment", "()Z"⟩
abbrev cX2_readCount : ByteArray := prog_4_method_6_code
def yX2_readCount : MethodName := ⟨RX2, "readCount", "()Z"⟩
abbrev cX2_readNumber : ByteArray := prog_4_method_7_code
def yX2_readNumber : MethodName := ⟨RX2, "readNumber", "()Z"⟩
abbrev cX2_readHead : ByteArray := prog_4_method_8_code
def yX2_readHead : MethodName := ⟨RX2, "readHead", "()Z"⟩
abbrev cX2_kindOfLetter : ByteArray := prog_4_method_9_code
def yX2_kindOfLetter : MethodName := ⟨RX2, "kindOfLetter", "(I)I"⟩
abbrev cX2_readEnds : ByteArray := prog_4_method_10_code
def yX2_readEnds : MethodName := ⟨RX2, "readEnds", "()Z"⟩
abbrev cX2_endArc : ByteArray := prog_4_method_11_code
def yX2_endArc : MethodName := ⟨RX2, "endArc", "()Z"⟩
abbrev cX2_takeNode : ByteArray := prog_4_method_12_code
def yX2_takeNode : MethodName := ⟨RX2, "takeNode", "()I"⟩
abbrev cX2_readValues : ByteArray := prog_4_method_13_code
def yX2_readValues : MethodName := ⟨RX2, "readValues", "()Z"⟩
abbrev cX2_readValue : ByteArray := prog_4_method_14_code
def yX2_readValue : MethodName := ⟨RX2, "readValue", "(I)Z"⟩
abbrev cX2_readFigures : ByteArray := prog_4_method_15_code
def yX2_readFigures : MethodName := ⟨RX2, "readFigures", "(IZ)Z"⟩
abbrev cX2_readFraction : ByteArray := prog_4_method_16_code
def yX2_readFraction : MethodName := ⟨RX2, "readFraction", "(I)Z"⟩
abbrev cX2_readGuessed : ByteArray := prog_4_method_17_code
def yX2_readGuessed : MethodName := ⟨RX2, "readGuessed", "()Z"⟩
abbrev cX2_figuresOnly : ByteArray := prog_4_method_18_code
def yX2_figuresOnly : MethodName := ⟨RX2, "figuresOnly", "(I)Z"⟩
abbrev cX2_thousandthsRead : ByteArray := prog_4_method_19_code
def yX2_thousandthsRead : MethodName := ⟨RX2, "thousandthsRead", "()I"⟩
abbrev cX2_readName : ByteArray := prog_4_method_20_code
def yX2_readName : MethodName := ⟨RX2, "readName", "()Z"⟩
abbrev cX2_readPlain : ByteArray := prog_4_method_21_code
def yX2_readPlain : MethodName := ⟨RX2, "readPlain", "()Z"⟩
abbrev cX2_readQuoted : ByteArray := prog_4_method_22_code
def yX2_readQuoted : MethodName := ⟨RX2, "readQuoted", "()Z"⟩
abbrev cX2_readGap : ByteArray := prog_4_method_23_code
def yX2_readGap : MethodName := ⟨RX2, "readGap", "()Z"⟩
abbrev cX2_readLineEnd : ByteArray := prog_4_method_24_code
def yX2_readLineEnd : MethodName := ⟨RX2, "readLineEnd", "()Z"⟩
def RX3 : String := "GraphTexts$Row"
def TX3 : u_T := fun k => match k with
  | 0 => ("GraphTexts$Row", "cells", "[I", true)
  | _ => ("GraphTexts$Row", "length", "I", false)
def tyX3 : Nat → FieldType := fun k => match k with
  | 0 => .array .int
  | _ => .int
abbrev wsX30 : List Cond := u_ws RX3 TX3 2
theorem nmX3 : ∀ a, a < 2 → ∀ b, b < 2 → a ≠ b → (TX3 a).2.1 ≠ (TX3 b).2.1 := by decide +kernel
theorem tyX3_ok : ∀ k, k < 2 → parseFieldDescriptor (TX3 k).2.2.1 = some (tyX3 k) := by decide +kernel
abbrev cX3_init : ByteArray := prog_5_method_1_code
def yX3_init : MethodName := ⟨RX3, "<init>", "(I)V"⟩
abbrev cX3_clear : ByteArray := prog_5_method_2_code
def yX3_clear : MethodName := ⟨RX3, "clear", "()V"⟩
abbrev cX3_cut : ByteArray := prog_5_method_3_code
def yX3_cut : MethodName := ⟨RX3, "cut", "(I)V"⟩
abbrev cX3_add : ByteArray := prog_5_method_4_code
def yX3_add : MethodName := ⟨RX3, "add", "(I)V"⟩
abbrev cX3_put : ByteArray := prog_5_method_5_code
def yX3_put : MethodName := ⟨RX3, "put", "(II)V"⟩
abbrev cX3_has : ByteArray := prog_5_method_6_code
def yX3_has : MethodName := ⟨RX3, "has", "(I)Z"⟩
abbrev cX3_at : ByteArray := prog_5_method_7_code
def yX3_at : MethodName := ⟨RX3, "at", "(I)I"⟩
def RX4 : String := "GraphTexts$Spans"
def TX4 : u_T := fun k => match k with
  | 0 => ("GraphTexts$Spans", "signs", "LGraphTexts$Row;", true)
  | 1 => ("GraphTexts$Spans", "starts", "LGraphTexts$Row;", true)
  | 2 => ("GraphTexts$Spans", "lengths", "LGraphTexts$Row;", true)
  | _ => ("GraphTexts$Spans", "count", "I", false)
def tyX4 : Nat → FieldType := fun k => match k with
  | 0 => .object "GraphTexts$Row"
  | 1 => .object "GraphTexts$Row"
  | 2 => .object "GraphTexts$Row"
  | _ => .int
abbrev wsX40 : List Cond := u_ws RX4 TX4 4
theorem nmX4 : ∀ a, a < 4 → ∀ b, b < 4 → a ≠ b → (TX4 a).2.1 ≠ (TX4 b).2.1 := by decide +kernel
theorem tyX4_ok : ∀ k, k < 4 → parseFieldDescriptor (TX4 k).2.2.1 = some (tyX4 k) := by decide +kernel
abbrev cX4_init : ByteArray := prog_6_method_1_code
def yX4_init : MethodName := ⟨RX4, "<init>", "(LGraphTexts$Row;I)V"⟩
abbrev cX4_clear : ByteArray := prog_6_method_2_code
def yX4_clear : MethodName := ⟨RX4, "clear", "()V"⟩
abbrev cX4_cut : ByteArray := prog_6_method_3_code
def yX4_cut : MethodName := ⟨RX4, "cut", "(I)V"⟩
abbrev cX4_add : ByteArray := prog_6_method_4_code
def yX4_add : MethodName := ⟨RX4, "add", "(II)V"⟩
abbrev cX4_has : ByteArray := prog_6_method_5_code
def yX4_has : MethodName := ⟨RX4, "has", "(I)Z"⟩
abbrev cX4_lengthOf : ByteArray := prog_6_method_6_code
def yX4_lengthOf : MethodName := ⟨RX4, "lengthOf", "(I)I"⟩
abbrev cX4_signAt : ByteArray := prog_6_method_7_code
def yX4_signAt : MethodName := ⟨RX4, "signAt", "(II)I"⟩
abbrev cX4_indexOf : ByteArray := prog_6_method_8_code
def yX4_indexOf : MethodName := ⟨RX4, "indexOf", "(LGraphTexts$Row;II)I"⟩
abbrev cX4_isSame : ByteArray := prog_6_method_9_code
def yX4_isSame : MethodName := ⟨RX4, "isSame", "(ILGraphTexts$Row;II)Z"⟩
abbrev cX4_isPlainName : ByteArray := prog_6_method_10_code
def yX4_isPlainName : MethodName := ⟨RX4, "isPlainName", "(I)Z"⟩
def RX5 : String := "GraphTexts$Writer"
def TX5 : u_T := fun k => match k with
  | _ => ("GraphTexts$Writer", "written", "LGraphTexts$Row;", true)
def tyX5 : Nat → FieldType := fun k => match k with
  | _ => .object "GraphTexts$Row"
abbrev wsX50 : List Cond := u_ws RX5 TX5 1
theorem nmX5 : ∀ a, a < 1 → ∀ b, b < 1 → a ≠ b → (TX5 a).2.1 ≠ (TX5 b).2.1 := by decide +kernel
theorem tyX5_ok : ∀ k, k < 1 → parseFieldDescriptor (TX5 k).2.2.1 = some (tyX5 k) := by decide +kernel
abbrev cX5_init : ByteArray := prog_7_method_1_code
def yX5_init : MethodName := ⟨RX5, "<init>", "(LGraphTexts$Row;)V"⟩
abbrev cX5_writeGraph : ByteArray := prog_7_method_2_code
def yX5_writeGraph : MethodName := ⟨RX5, "writeGraph", "(LGraphTexts$Graph;)V"⟩
abbrev cX5_writeComment : ByteArray := prog_7_method_3_code
def yX5_writeComment : MethodName := ⟨RX5, "writeComment", "(LGraphTexts$Graph;I)V"⟩
abbrev cX5_writeCount : ByteArray := prog_7_method_4_code
def yX5_writeCount : MethodName := ⟨RX5, "writeCount", "(LGraphTexts$Graph;)V"⟩
abbrev cX5_writeHead : ByteArray := prog_7_method_5_code
def yX5_writeHead : MethodName := ⟨RX5, "writeHead", "(LGraphTexts$Graph;I)V"⟩
abbrev cX5_letterOfKind : ByteArray := prog_7_method_6_code
def yX5_letterOfKind : MethodName := ⟨RX5, "letterOfKind", "(I)I"⟩
abbrev cX5_writeArc : ByteArray := prog_7_method_7_code
def yX5_writeArc : MethodName := ⟨RX5, "writeArc", "(LGraphTexts$Graph;I)V"⟩
abbrev cX5_writeValue : ByteArray := prog_7_method_8_code
def yX5_writeValue : MethodName := ⟨RX5, "writeValue", "(LGraphTexts$Graph;II)V"⟩
abbrev cX5_writeName : ByteArray := prog_7_method_9_code
def yX5_writeName : MethodName := ⟨RX5, "writeName", "(LGraphTexts$Spans;I)V"⟩
abbrev cX5_writeThousandths : ByteArray := prog_7_method_10_code
def yX5_writeThousandths : MethodName := ⟨RX5, "writeThousandths", "(I)V"⟩
abbrev cX5_writeWhole : ByteArray := prog_7_method_11_code
def yX5_writeWhole : MethodName := ⟨RX5, "writeWhole", "(I)V"⟩
def RX6 : String := "GraphTexts"
def TX6 : u_T := fun k => match k with
  | 0 => ("GraphTexts", "text", "LGraphTexts$Row;", true)
  | 1 => ("GraphTexts", "written", "LGraphTexts$Row;", true)
  | 2 => ("GraphTexts", "reader", "LGraphTexts$Reader;", true)
  | 3 => ("GraphTexts", "writer", "LGraphTexts$Writer;", true)
  | 4 => ("GraphTexts", "graph", "LGraphTexts$Graph;", false)
  | 5 => ("GraphTexts", "spare", "LGraphTexts$Graph;", false)
  | 6 => ("GraphTexts", "graphIsThere", "Z", false)
  | _ => ("GraphTexts", "mannerNow", "I", false)
def tyX6 : Nat → FieldType := fun k => match k with
  | 0 => .object "GraphTexts$Row"
  | 1 => .object "GraphTexts$Row"
  | 2 => .object "GraphTexts$Reader"
  | 3 => .object "GraphTexts$Writer"
  | 4 => .object "GraphTexts$Graph"
  | 5 => .object "GraphTexts$Graph"
  | 6 => .boolean
  | _ => .int
abbrev wsX60 : List Cond := u_ws RX6 TX6 8
theorem nmX6 : ∀ a, a < 8 → ∀ b, b < 8 → a ≠ b → (TX6 a).2.1 ≠ (TX6 b).2.1 := by decide +kernel
theorem tyX6_ok : ∀ k, k < 8 → parseFieldDescriptor (TX6 k).2.2.1 = some (tyX6 k) := by decide +kernel
abbrev cX6_init : ByteArray := prog_1_method_1_code
def yX6_init : MethodName := ⟨RX6, "<init>", "()V"⟩
abbrev cX6_feed : ByteArray := prog_1_method_2_code
def yX6_feed : MethodName := ⟨RX6, "feed", "(IJ)I"⟩
abbrev cX6_read : ByteArray := prog_1_method_3_code
def yX6_read : MethodName := ⟨RX6, "read", "()I"⟩
abbrev cX6_fault : ByteArray := prog_1_method_4_code
def yX6_fault : MethodName := ⟨RX6, "fault", "(I)I"⟩
abbrev cX6_manner : ByteArray := prog_1_method_5_code
def yX6_manner : MethodName := ⟨RX6, "manner", "(I)I"⟩
abbrev cX6_find : ByteArray := prog_1_method_6_code
def yX6_find : MethodName := ⟨RX6, "find", "()I"⟩
abbrev cX6_node : ByteArray := prog_1_method_7_code
def yX6_node : MethodName := ⟨RX6, "node", "(II)I"⟩
abbrev cX6_arc : ByteArray := prog_1_method_8_code
def yX6_arc : MethodName := ⟨RX6, "arc", "(II)I"⟩
abbrev cX6_kind : ByteArray := prog_1_method_9_code
def yX6_kind : MethodName := ⟨RX6, "kind", "(I)I"⟩
abbrev cX6_head : ByteArray := prog_1_method_10_code
def yX6_head : MethodName := ⟨RX6, "head", "(II)I"⟩
abbrev cX6_value : ByteArray := prog_1_method_11_code
def yX6_value : MethodName := ⟨RX6, "value", "(II)I"⟩
abbrev cX6_sign : ByteArray := prog_1_method_12_code
def yX6_sign : MethodName := ⟨RX6, "sign", "(III)I"⟩
abbrev cX6_comment : ByteArray := prog_1_method_13_code
def yX6_comment : MethodName := ⟨RX6, "comment", "(II)I"⟩
abbrev cX6_print : ByteArray := prog_1_method_14_code
def yX6_print : MethodName := ⟨RX6, "print", "()I"⟩
abbrev cX6_out : ByteArray := prog_1_method_15_code
def yX6_out : MethodName := ⟨RX6, "out", "(I)I"⟩
abbrev cX6_about : ByteArray := prog_1_method_16_code
def yX6_about : MethodName := ⟨RX6, "about", "(I)I"⟩
abbrev cX6_signOfSpan : ByteArray := prog_1_method_17_code
def yX6_signOfSpan : MethodName := ⟨RX6, "signOfSpan", "(LGraphTexts$Spans;II)I"⟩
abbrev cX6_isFigure : ByteArray := prog_1_method_18_code
def yX6_isFigure : MethodName := ⟨RX6, "isFigure", "(I)Z"⟩
abbrev cX6_isPlain : ByteArray := prog_1_method_19_code
def yX6_isPlain : MethodName := ⟨RX6, "isPlain", "(I)Z"⟩
abbrev cX6_isPrintable : ByteArray := prog_1_method_20_code
def yX6_isPrintable : MethodName := ⟨RX6, "isPrintable", "(I)Z"⟩
def RX7 : String := "GraphTextsModel"
def TX7 : u_T := fun k => match k with
  | 0 => ("GraphTextsModel", "thrown", "I", false)
  | 1 => ("GraphTextsModel", "text", "[I", true)
  | 2 => ("GraphTextsModel", "size", "I", false)
  | 3 => ("GraphTextsModel", "manner", "I", false)
  | 4 => ("GraphTextsModel", "faultLine", "I", false)
  | 5 => ("GraphTextsModel", "faultPlace", "I", false)
  | 6 => ("GraphTextsModel", "isThere", "Z", false)
  | 7 => ("GraphTextsModel", "nodes", "[I", true)
  | 8 => ("GraphTextsModel", "nodeName", "[I", true)
  | 9 => ("GraphTextsModel", "arcs", "[I", true)
  | 10 => ("GraphTextsModel", "arcFrom", "[I", true)
  | 11 => ("GraphTextsModel", "arcTo", "[I", true)
  | 12 => ("GraphTextsModel", "arcLine", "[I", true)
  | 13 => ("GraphTextsModel", "columns", "[I", true)
  | 14 => ("GraphTextsModel", "columnKind", "[I", true)
  | 15 => ("GraphTextsModel", "columnName", "[I", true)
  | 16 => ("GraphTextsModel", "valueSort", "[I", true)
  | 17 => ("GraphTextsModel", "valueOf", "[I", true)
  | 18 => ("GraphTextsModel", "valueSigns", "[I", true)
  | 19 => ("GraphTextsModel", "leftOut", "[I", true)
  | 20 => ("GraphTextsModel", "comments", "[I", true)
  | 21 => ("GraphTextsModel", "commentText", "[I", true)
  | 22 => ("GraphTextsModel", "lineMany", "[I", true)
  | 23 => ("GraphTextsModel", "lineSort", "[I", true)
  | 24 => ("GraphTextsModel", "countOf", "[I", true)
  | 25 => ("GraphTextsModel", "out", "[I", true)
  | 26 => ("GraphTextsModel", "outMany", "I", false)
  | 27 => ("GraphTextsModel", "at", "I", false)
  | 28 => ("GraphTextsModel", "line", "I", false)
  | 29 => ("GraphTextsModel", "lineFrom", "I", false)
  | 30 => ("GraphTextsModel", "fault", "I", false)
  | 31 => ("GraphTextsModel", "faultAt", "I", false)
  | 32 => ("GraphTextsModel", "name", "[I", true)
  | 33 => ("GraphTextsModel", "sort", "I", false)
  | 34 => ("GraphTextsModel", "thousandths", "I", false)
  | 35 => ("GraphTextsModel", "hasCount", "Z", false)
  | 36 => ("GraphTextsModel", "countAt", "[I", true)
  | 37 => ("GraphTextsModel", "countLine", "[I", true)
  | 38 => ("GraphTextsModel", "hasArc", "Z", false)
  | 39 => ("GraphTextsModel", "ownSort", "[I", true)
  | 40 => ("GraphTextsModel", "ownValue", "[I", true)
  | _ => ("GraphTextsModel", "ownSigns", "[I", true)
def tyX7 : Nat → FieldType := fun k => match k with
  | 0 => .int
  | 1 => .array .int
  | 2 => .int
  | 3 => .int
  | 4 => .int
  | 5 => .int
  | 6 => .boolean
  | 7 => .array .int
  | 8 => .array .int
  | 9 => .array .int
  | 10 => .array .int
  | 11 => .array .int
  | 12 => .array .int
  | 13 => .array .int
  | 14 => .array .int
  | 15 => .array .int
  | 16 => .array .int
  | 17 => .array .int
  | 18 => .array .int
  | 19 => .array .int
  | 20 => .array .int
  | 21 => .array .int
  | 22 => .array .int
  | 23 => .array .int
  | 24 => .array .int
  | 25 => .array .int
  | 26 => .int
  | 27 => .int
  | 28 => .int
  | 29 => .int
  | 30 => .int
  | 31 => .int
  | 32 => .array .int
  | 33 => .int
  | 34 => .int
  | 35 => .boolean
  | 36 => .array .int
  | 37 => .array .int
  | 38 => .boolean
  | 39 => .array .int
  | 40 => .array .int
  | _ => .array .int
abbrev wsX70 : List Cond := u_ws RX7 TX7 42
theorem nmX7 : ∀ a, a < 42 → ∀ b, b < 42 → a ≠ b → (TX7 a).2.1 ≠ (TX7 b).2.1 := by decide +kernel
theorem tyX7_ok : ∀ k, k < 42 → parseFieldDescriptor (TX7 k).2.2.1 = some (tyX7 k) := by decide +kernel
abbrev cX7_init : ByteArray := prog_9_method_1_code
def yX7_init : MethodName := ⟨RX7, "<init>", "()V"⟩
abbrev cX7_thrown : ByteArray := prog_9_method_2_code
def yX7_thrown : MethodName := ⟨RX7, "thrown", "()I"⟩
abbrev cX7_in : ByteArray := prog_9_method_3_code
def yX7_in : MethodName := ⟨RX7, "in", "(III)Z"⟩
abbrev cX7_feed : ByteArray := prog_9_method_4_code
def yX7_feed : MethodName := ⟨RX7, "feed", "(IJ)I"⟩
abbrev cX7_here : ByteArray := prog_9_method_5_code
def yX7_here : MethodName := ⟨RX7, "here", "()I"⟩
abbrev cX7_wrong : ByteArray := prog_9_method_6_code
def yX7_wrong : MethodName := ⟨RX7, "wrong", "(II)V"⟩
abbrev cX7_isFigure : ByteArray := prog_9_method_7_code
def yX7_isFigure : MethodName := ⟨RX7, "isFigure", "(I)Z"⟩
abbrev cX7_isPlain : ByteArray := prog_9_method_8_code
def yX7_isPlain : MethodName := ⟨RX7, "isPlain", "(I)Z"⟩
abbrev cX7_blanks : ByteArray := prog_9_method_9_code
def yX7_blanks : MethodName := ⟨RX7, "blanks", "()V"⟩
abbrev cX7_ended : ByteArray := prog_9_method_10_code
def yX7_ended : MethodName := ⟨RX7, "ended", "()V"⟩
abbrev cX7_sign : ByteArray := prog_9_method_11_code
def yX7_sign : MethodName := ⟨RX7, "sign", "(II)V"⟩
abbrev cX7_readName : ByteArray := prog_9_method_12_code
def yX7_readName : MethodName := ⟨RX7, "readName", "()V"⟩
abbrev cX7_readQuoted : ByteArray := prog_9_method_13_code
def yX7_readQuoted : MethodName := ⟨RX7, "readQuoted", "()V"⟩
abbrev cX7_readNumber : ByteArray := prog_9_method_14_code
def yX7_readNumber : MethodName := ⟨RX7, "readNumber", "(Z)V"⟩
abbrev cX7_readDecimals : ByteArray := prog_9_method_15_code
def yX7_readDecimals : MethodName := ⟨RX7, "readDecimals", "()V"⟩
abbrev cX7_plainSort : ByteArray := prog_9_method_16_code
def yX7_plainSort : MethodName := ⟨RX7, "plainSort", "()I"⟩
abbrev cX7_readPlainDecimal : ByteArray := prog_9_method_17_code
def yX7_readPlainDecimal : MethodName := ⟨RX7, "readPlainDecimal", "()V"⟩
abbrev cX7_readValue : ByteArray := prog_9_method_18_code
def yX7_readValue : MethodName := ⟨RX7, "readValue", "(I)V"⟩
abbrev cX7_readAny : ByteArray := prog_9_method_19_code
def yX7_readAny : MethodName := ⟨RX7, "readAny", "(I)V"⟩
abbrev cX7_isSame : ByteArray := prog_9_method_20_code
def yX7_isSame : MethodName := ⟨RX7, "isSame", "([II)Z"⟩
abbrev cX7_layName : ByteArray := prog_9_method_21_code
def yX7_layName : MethodName := ⟨RX7, "layName", "([II)V"⟩
abbrev cX7_laySort : ByteArray := prog_9_method_22_code
def yX7_laySort : MethodName := ⟨RX7, "laySort", "(I)V"⟩
abbrev cX7_readComment : ByteArray := prog_9_method_23_code
def yX7_readComment : MethodName := ⟨RX7, "readComment", "()V"⟩
abbrev cX7_readCount : ByteArray := prog_9_method_24_code
def yX7_readCount : MethodName := ⟨RX7, "readCount", "()V"⟩
abbrev cX7_readHead : ByteArray := prog_9_method_25_code
def yX7_readHead : MethodName := ⟨RX7, "readHead", "()V"⟩
abbrev cX7_nodeOf : ByteArray := prog_9_method_26_code
def yX7_nodeOf : MethodName := ⟨RX7, "nodeOf", "(I)I"⟩
abbrev cX7_isDoubled : ByteArray := prog_9_method_27_code
def yX7_isDoubled : MethodName := ⟨RX7, "isDoubled", "(II)Z"⟩
abbrev cX7_readArc : ByteArray := prog_9_method_28_code
def yX7_readArc : MethodName := ⟨RX7, "readArc", "()V"⟩
abbrev cX7_layArc : ByteArray := prog_9_method_29_code
def yX7_layArc : MethodName := ⟨RX7, "layArc", "(II)V"⟩
abbrev cX7_readLine : ByteArray := prog_9_method_30_code
def yX7_readLine : MethodName := ⟨RX7, "readLine", "()V"⟩
abbrev cX7_guessKinds : ByteArray := prog_9_method_31_code
def yX7_guessKinds : MethodName := ⟨RX7, "guessKinds", "()V"⟩
abbrev cX7_takeOver : ByteArray := prog_9_method_32_code
def yX7_takeOver : MethodName := ⟨RX7, "takeOver", "()V"⟩
abbrev cX7_takeRow : ByteArray := prog_9_method_33_code
def yX7_takeRow : MethodName := ⟨RX7, "takeRow", "([II)V"⟩
abbrev cX7_read : ByteArray := prog_9_method_34_code
def yX7_read : MethodName := ⟨RX7, "read", "()I"⟩
abbrev cX7_lie : ByteArray := prog_9_method_35_code
def yX7_lie : MethodName := ⟨RX7, "lie", "(II)V"⟩
abbrev cX7_fault : ByteArray := prog_9_method_36_code
def yX7_fault : MethodName := ⟨RX7, "fault", "(I)I"⟩
abbrev cX7_manner : ByteArray := prog_9_method_37_code
def yX7_manner : MethodName := ⟨RX7, "manner", "(I)I"⟩
abbrev cX7_find : ByteArray := prog_9_method_38_code
def yX7_find : MethodName := ⟨RX7, "find", "()I"⟩
abbrev cX7_node : ByteArray := prog_9_method_39_code
def yX7_node : MethodName := ⟨RX7, "node", "(II)I"⟩
abbrev cX7_arc : ByteArray := prog_9_method_40_code
def yX7_arc : MethodName := ⟨RX7, "arc", "(II)I"⟩
abbrev cX7_isColumn : ByteArray := prog_9_method_41_code
def yX7_isColumn : MethodName := ⟨RX7, "isColumn", "(I)Z"⟩
abbrev cX7_kind : ByteArray := prog_9_method_42_code
def yX7_kind : MethodName := ⟨RX7, "kind", "(I)I"⟩
abbrev cX7_head : ByteArray := prog_9_method_43_code
def yX7_head : MethodName := ⟨RX7, "head", "(II)I"⟩
abbrev cX7_value : ByteArray := prog_9_method_44_code
def yX7_value : MethodName := ⟨RX7, "value", "(II)I"⟩
abbrev cX7_sign_ : ByteArray := prog_9_method_45_code
def yX7_sign_ : MethodName := ⟨RX7, "sign", "(III)I"⟩
abbrev cX7_comment : ByteArray := prog_9_method_46_code
def yX7_comment : MethodName := ⟨RX7, "comment", "(II)I"⟩
abbrev cX7_put : ByteArray := prog_9_method_47_code
def yX7_put : MethodName := ⟨RX7, "put", "(I)V"⟩
abbrev cX7_putName : ByteArray := prog_9_method_48_code
def yX7_putName : MethodName := ⟨RX7, "putName", "([II)V"⟩
abbrev cX7_putWhole : ByteArray := prog_9_method_49_code
def yX7_putWhole : MethodName := ⟨RX7, "putWhole", "(I)V"⟩
abbrev cX7_putNumber : ByteArray := prog_9_method_50_code
def yX7_putNumber : MethodName := ⟨RX7, "putNumber", "(I)V"⟩
abbrev cX7_putArc : ByteArray := prog_9_method_51_code
def yX7_putArc : MethodName := ⟨RX7, "putArc", "(I)V"⟩
abbrev cX7_print : ByteArray := prog_9_method_52_code
def yX7_print : MethodName := ⟨RX7, "print", "()I"⟩
abbrev cX7_out : ByteArray := prog_9_method_53_code
def yX7_out : MethodName := ⟨RX7, "out", "(I)I"⟩
abbrev cX7_about : ByteArray := prog_9_method_54_code
def yX7_about : MethodName := ⟨RX7, "about", "(I)I"⟩
def RJx00060 : String := "java/lang/ArrayIndexOutOfBoundsException"
def TJx00060 : u_T := fun k => match k with
  | 0 => ("java/lang/Throwable", "backtrace", "Ljava/lang/Object;", false)
  | 1 => ("java/lang/Throwable", "detailMessage", "Ljava/lang/String;", false)
  | 2 => ("java/lang/Throwable", "cause", "Ljava/lang/Throwable;", false)
  | 3 => ("java/lang/Throwable", "stackTrace", "[Ljava/lang/StackTraceElement;", false)
  | 4 => ("java/lang/Throwable", "depth", "I", false)
  | _ => ("java/lang/Throwable", "suppressedExceptions", "Ljava/util/List;", false)
def tyJx00060 : Nat → FieldType := fun k => match k with
  | 0 => .object "java/lang/Object"
  | 1 => .object "java/lang/String"
  | 2 => .object "java/lang/Throwable"
  | 3 => .array (.object "java/lang/StackTraceElement")
  | 4 => .int
  | _ => .object "java/util/List"
abbrev wsJx000600 : List Cond := u_ws RJx00060 TJx00060 6
theorem nmJx00060 : ∀ a, a < 6 → ∀ b, b < 6 → a ≠ b → (TJx00060 a).2.1 ≠ (TJx00060 b).2.1 := by decide +kernel
theorem tyJx00060_ok : ∀ k, k < 6 → parseFieldDescriptor (TJx00060 k).2.2.1 = some (tyJx00060 k) := by decide +kernel
abbrev cJx00060_init_a7421 : ByteArray := prog_10_method_2_code
def yJx00060_init_a7421 : MethodName := ⟨RJx00060, "<init>", "(Ljava/lang/String;)V"⟩
def RJx3273f : String := "java/lang/ClassCastException"
def TJx3273f : u_T := fun k => match k with
  | 0 => ("java/lang/Throwable", "backtrace", "Ljava/lang/Object;", false)
  | 1 => ("java/lang/Throwable", "detailMessage", "Ljava/lang/String;", false)
  | 2 => ("java/lang/Throwable", "cause", "Ljava/lang/Throwable;", false)
  | 3 => ("java/lang/Throwable", "stackTrace", "[Ljava/lang/StackTraceElement;", false)
  | 4 => ("java/lang/Throwable", "depth", "I", false)
  | _ => ("java/lang/Throwable", "suppressedExceptions", "Ljava/util/List;", false)
def tyJx3273f : Nat → FieldType := fun k => match k with
  | 0 => .object "java/lang/Object"
  | 1 => .object "java/lang/String"
  | 2 => .object "java/lang/Throwable"
  | 3 => .array (.object "java/lang/StackTraceElement")
  | 4 => .int
  | _ => .object "java/util/List"
abbrev wsJx3273f0 : List Cond := u_ws RJx3273f TJx3273f 6
theorem nmJx3273f : ∀ a, a < 6 → ∀ b, b < 6 → a ≠ b → (TJx3273f a).2.1 ≠ (TJx3273f b).2.1 := by decide +kernel
theorem tyJx3273f_ok : ∀ k, k < 6 → parseFieldDescriptor (TJx3273f k).2.2.1 = some (tyJx3273f k) := by decide +kernel
abbrev cJx3273f_init_a7421 : ByteArray := prog_11_method_2_code
def yJx3273f_init_a7421 : MethodName := ⟨RJx3273f, "<init>", "(Ljava/lang/String;)V"⟩
def RJ9 : String := "java/lang/Math"
def TJ9 : u_T := fun k => match k with
  | _ => ("", "", "", false)
def tyJ9 : Nat → FieldType := fun k => match k with
  | _ => .int
abbrev wsJ90 : List Cond := u_ws RJ9 TJ9 0
theorem nmJ9 : ∀ a, a < 0 → ∀ b, b < 0 → a ≠ b → (TJ9 a).2.1 ≠ (TJ9 b).2.1 := by decide +kernel
theorem tyJ9_ok : ∀ k, k < 0 → parseFieldDescriptor (TJ9 k).2.2.1 = some (tyJ9 k) := by decide +kernel
abbrev cJ9_max_7cf53 : ByteArray := prog_14_method_65_code
def yJ9_max_7cf53 : MethodName := ⟨RJ9, "max", "(II)I"⟩
abbrev cJ9_min_7cf53 : ByteArray := prog_14_method_69_code
def yJ9_min_7cf53 : MethodName := ⟨RJ9, "min", "(II)I"⟩
def RJx5d777 : String := "java/lang/NullPointerException"
def TJx5d777 : u_T := fun k => match k with
  | 0 => ("java/lang/Throwable", "backtrace", "Ljava/lang/Object;", false)
  | 1 => ("java/lang/Throwable", "detailMessage", "Ljava/lang/String;", false)
  | 2 => ("java/lang/Throwable", "cause", "Ljava/lang/Throwable;", false)
  | 3 => ("java/lang/Throwable", "stackTrace", "[Ljava/lang/StackTraceElement;", false)
  | 4 => ("java/lang/Throwable", "depth", "I", false)
  | 5 => ("java/lang/Throwable", "suppressedExceptions", "Ljava/util/List;", false)
  | 6 => ("java/lang/NullPointerException", "extendedMessageState", "I", false)
  | _ => ("java/lang/NullPointerException", "extendedMessage", "Ljava/lang/String;", false)
def tyJx5d777 : Nat → FieldType := fun k => match k with
  | 0 => .object "java/lang/Object"
  | 1 => .object "java/lang/String"
  | 2 => .object "java/lang/Throwable"
  | 3 => .array (.object "java/lang/StackTraceElement")
  | 4 => .int
  | 5 => .object "java/util/List"
  | 6 => .int
  | _ => .object "java/lang/String"
abbrev wsJx5d7770 : List Cond := u_ws RJx5d777 TJx5d777 8
theorem nmJx5d777 : ∀ a, a < 8 → ∀ b, b < 8 → a ≠ b → (TJx5d777 a).2.1 ≠ (TJx5d777 b).2.1 := by decide +kernel
theorem tyJx5d777_ok : ∀ k, k < 8 → parseFieldDescriptor (TJx5d777 k).2.2.1 = some (tyJx5d777 k) := by decide +kernel
abbrev cJx5d777_init_da8c8 : ByteArray := prog_15_method_1_code
def yJx5d777_init_da8c8 : MethodName := ⟨RJx5d777, "<init>", "()V"⟩
abbrev cJx5d777_init_a7421 : ByteArray := prog_15_method_2_code
def yJx5d777_init_a7421 : MethodName := ⟨RJx5d777, "<init>", "(Ljava/lang/String;)V"⟩
abbrev cJx5d777_fillInStackTrace_cddbd : ByteArray := prog_15_method_3_code
def yJx5d777_fillInStackTrace_cddbd : MethodName := ⟨RJx5d777, "fillInStackTrace", "()Ljava/lang/Throwable;"⟩
def RJ0 : String := "java/lang/String"
def TJ0 : u_T := fun k => match k with
  | 0 => ("java/lang/String", "value", "[B", true)
  | _ => ("java/lang/String", "coder", "B", true)
def tyJ0 : Nat → FieldType := fun k => match k with
  | 0 => .array .byte
  | _ => .byte
abbrev wsJ00 : List Cond := u_ws RJ0 TJ0 2
theorem nmJ0 : ∀ a, a < 2 → ∀ b, b < 2 → a ≠ b → (TJ0 a).2.1 ≠ (TJ0 b).2.1 := by decide +kernel
theorem tyJ0_ok : ∀ k, k < 2 → parseFieldDescriptor (TJ0 k).2.2.1 = some (tyJ0 k) := by decide +kernel
def RL : String := "GraphTextsLaw"
abbrev cL_node : ByteArray := method_3_code
def yL_node : MethodName := ⟨RL, "node", "(LGraphTexts;II[J)I"⟩
abbrev cL_head : ByteArray := method_4_code
def yL_head : MethodName := ⟨RL, "head", "(LGraphTexts;II[J)I"⟩
abbrev cL_value : ByteArray := method_5_code
def yL_value : MethodName := ⟨RL, "value", "(LGraphTexts;II[J)I"⟩
abbrev cL_sign : ByteArray := method_6_code
def yL_sign : MethodName := ⟨RL, "sign", "(LGraphTexts;III[J)I"⟩
abbrev cL_comment : ByteArray := method_7_code
def yL_comment : MethodName := ⟨RL, "comment", "(LGraphTexts;II[J)I"⟩
abbrev cL_out : ByteArray := method_8_code
def yL_out : MethodName := ⟨RL, "out", "(LGraphTexts;I[J)I"⟩
abbrev cL_law : ByteArray := code
def yL_law : MethodName := ⟨RL, "law", "([I)Z"⟩
end
section
def mi_cl : List vw_C := [(RX0, TX0, 8), (RX1, TX1, 15), (RX2, TX2, 16), (RX3, TX3, 2), (RX4, TX4, 4), (RX5, TX5, 1), (RX6, TX6, 8), (RX7, TX7, 42)]
def mi_str : List (String × Nat × String) := [("GraphTexts", 184, "no such sign"), ("GraphTexts", 144, "the VALUE is MISSING"), ("GraphTexts", 151, "the VALUE is a NAME"), ("GraphTexts", 157, "the VALUE is a number"), ("GraphTexts", 171, "no such byte was WRITTEN")]
def mi_ncs : List (String × String) := [("java/lang/ClassCastException", "java/lang/NullPointerException"), ("java/lang/ArrayIndexOutOfBoundsException", "java/lang/NullPointerException"), ("java/lang/ArrayIndexOutOfBoundsException", "java/lang/ClassCastException")]
def mi_thr : List Nat := [80, 83, 84, 85, 86, 88, 90]
end
section
/-! A SMALL MACHINE. Its heap is a list of cells at b, b + 1, ..; its values are the machine's, but that a reference is told from b on, and the script by a float. A method's code is a list of small steps; a step is a function. mi_Ok: a step is the machine's. -/
section MI0
abbrev mL : Type := List (Option Value)
abbrev mC : Type := (Nat × List Value) ⊕ (List Int32 ⊕ List Int64)
abbrev mH : Type := List mC
abbrev mR : Type := Option Value ⊕ String
abbrev mS : Type := Nat × mL × List Value × mH
abbrev mF : Type := Bool → Nat → (Nat → Int32) → mL → List Value → mH → Option mS
def mi_v (b bs : Nat) (v : Value) : Value := match v with
  | .ref a => .ref (b + a)
  | .float _ => .ref bs
  | .int x => .int x
  | .long x => .long x
  | .double x => .double x
  | .null => .null
  | .retAddr q => .retAddr q
theorem mi_v_cat (b bs : Nat) (v : Value) : (mi_v b bs v).category = v.category := by cases v <;> rfl
def mi_e (b bs : Nat) (cI cL : ClassId) (c : mC) : va_E := match c with
  | .inl o => .inr (o.1, o.2.map (mi_v b bs))
  | .inr (.inl xs) => .inl (cI, xs.length, .inl (fun j => xs.getD j 0))
  | .inr (.inr xs) => .inl (cL, xs.length, .inr (.inl (fun j => xs.getD j 0)))
def mi_w (b bs : Nat) (cI cL : ClassId) : Nat → mH → va_W
  | _, [] => []
  | k, c :: h => (b + k, mi_e b bs cI cL c) :: mi_w b bs cI cL (k + 1) h
theorem mi_w_get {b bs : Nat} {cI cL : ClassId} : ∀ (h : mH) (k i : Nat), (mi_w b bs cI cL k h)[i]? = (h[i]?).map (fun c => (b + (k + i), mi_e b bs cI cL c))
  | [], k, i => by simp [mi_w]
  | c :: h, k, 0 => by simp [mi_w]
  | c :: h, k, i + 1 => by
    simp only [mi_w, List.getElem?_cons_succ]
    rw [mi_w_get h (k + 1) i]
    have e : k + 1 + i = k + (i + 1) := by omega
    rw [e]
theorem mi_w_set {b bs : Nat} {cI cL : ClassId} : ∀ (h : mH) (k i : Nat) (c : mC), (mi_w b bs cI cL k h).set i (b + (k + i), mi_e b bs cI cL c) = mi_w b bs cI cL k (h.set i c)
  | [], k, i, c => by simp [mi_w]
  | c0 :: h, k, 0, c => by simp [mi_w]
  | c0 :: h, k, i + 1, c => by
    simp only [mi_w, List.set_cons_succ]
    have e : k + (i + 1) = k + 1 + i := by omega
    rw [e, mi_w_set h (k + 1) i c]
theorem mi_w_push {b bs : Nat} {cI cL : ClassId} : ∀ (h : mH) (k : Nat) (c : mC), mi_w b bs cI cL k (h ++ [c]) = mi_w b bs cI cL k h ++ [(b + (k + h.length), mi_e b bs cI cL c)]
  | [], k, c => by simp [mi_w]
  | c0 :: h, k, c => by
    simp only [mi_w, List.cons_append, List.length_cons]
    rw [mi_w_push h (k + 1) c]
    have e : k + 1 + h.length = k + (h.length + 1) := by omega
    rw [e]
theorem mi_w_len {b bs : Nat} {cI cL : ClassId} : ∀ (h : mH) (k : Nat), (mi_w b bs cI cL k h).length = h.length
  | [], k => rfl
  | c :: h, k => by simp [mi_w, mi_w_len h (k + 1)]
/-- the cells lie apart, from b on -/
theorem mi_w_D {b bs : Nat} {cI cL : ClassId} (h : mH) : va_D (fun q => b ≤ q) (mi_w b bs cI cL 0 h) := by
  refine ⟨fun i j p q hi hj hpq => ?_, fun k q hk => ?_⟩
  · rw [mi_w_get] at hi hj
    cases h1 : h[i]? with
    | none => rw [h1] at hi; cases hi
    | some c1 =>
      cases h2 : h[j]? with
      | none => rw [h2] at hj; cases hj
      | some c2 =>
        rw [h1] at hi; rw [h2] at hj
        cases hi; cases hj
        have e : b + (0 + i) = b + (0 + j) := hpq
        omega
  · rw [mi_w_get] at hk
    cases h1 : h[k]? with
    | none => rw [h1] at hk; cases hk
    | some c1 =>
      rw [h1] at hk
      cases hk
      exact Nat.le_add_right _ _
/-- how many places a cell has, and a heap -/
def mi_zc (c : mC) : Nat := match c with
  | .inl o => o.2.length
  | .inr (.inl xs) => xs.length
  | .inr (.inr xs) => xs.length
def mi_z : mH → Nat
  | [] => 0
  | c :: h => mi_zc c + mi_z h
theorem mi_z_set : ∀ (h : mH) (i : Nat) (c c0 : mC), h[i]? = some c0 → mi_zc c = mi_zc c0 → mi_z (h.set i c) = mi_z h
  | [], i, c, c0, h1, _ => by simp at h1
  | d :: h, 0, c, c0, h1, h2 => by
    simp only [List.getElem?_cons_zero, Option.some.injEq] at h1
    subst h1
    simp [mi_z, h2]
  | d :: h, i + 1, c, c0, h1, h2 => by
    simp only [List.getElem?_cons_succ] at h1
    simp [mi_z, mi_z_set h i c c0 h1 h2]
theorem mi_z_push : ∀ (h : mH) (c : mC), mi_z (h ++ [c]) = mi_z h + mi_zc c
  | [], c => by simp [mi_z]
  | d :: h, c => by simp [mi_z, mi_z_push h c]; omega
/-- the locals -/
def mi_has (b bs : Nat) (ls : Array Slot) (nL : Nat) (lo : mL) : Prop := ls.size = nL ∧ lv_wf ls ∧ ∀ (i : Nat) (v : Value), lo[i]? = some (some v) → ls[i]? = some (.val (mi_v b bs v))
def mi_lv (b bs : Nat) (lo : mL) : List (Nat × Value) := lo.zipIdx.filterMap (fun q => q.1.map (fun v => (q.2, mi_v b bs v)))
theorem mi_lv_mem {b bs : Nat} {lo : mL} {q : Nat × Value} : q ∈ mi_lv b bs lo ↔ ∃ v, lo[q.1]? = some (some v) ∧ q.2 = mi_v b bs v := by
  obtain ⟨i, w⟩ := q
  constructor
  · intro h
    obtain ⟨⟨o, j⟩, h1, h2⟩ := List.mem_filterMap.mp h
    rw [List.mem_zipIdx_iff_getElem?] at h1
    cases o with
    | none => cases h2
    | some v =>
      simp only [Option.map_some, Option.some.injEq, Prod.mk.injEq] at h2
      obtain ⟨rfl, rfl⟩ := h2
      exact ⟨v, h1, rfl⟩
  · rintro ⟨v, h1, h2⟩
    refine List.mem_filterMap.mpr ⟨(some v, i), ?_, ?_⟩
    · rw [List.mem_zipIdx_iff_getElem?]
      exact h1
    · simp only [Option.map_some]
      exact congrArg (fun z => some (i, z)) h2.symm
theorem mi_has_lv {b bs : Nat} {ls : Array Slot} {nL : Nat} {lo : mL} (h : mi_has b bs ls nL lo) : lv_has ls nL (mi_lv b bs lo) := by
  refine ⟨h.1, h.2.1, fun q hq => ?_⟩
  obtain ⟨v, h1, h2⟩ := mi_lv_mem.mp hq
  rw [h2]
  exact h.2.2 q.1 v h1
/-- a store of a value of one slot: not behind a long's first half -/
def mi_st (lo : mL) (i : Nat) (v : Value) : Option mL := match lo[i]? with
  | none => none
  | some (some _) => some (lo.set i (some v))
  | some none => match i with
    | 0 => some (lo.set 0 (some v))
    | j + 1 => match lo[j]? with
      | some (some (.long _)) => none
      | some (some (.double _)) => none
      | _ => some (lo.set (j + 1) (some v))
theorem mi_st_has {b bs : Nat} {ls ls' : Array Slot} {nL i : Nat} {lo lo' : mL} {v : Value} (h : mi_has b bs ls nL lo) (hs : mi_st lo i v = some lo')
    (h' : lv_has ls' nL ((i, mi_v b bs v) :: (mi_lv b bs lo).filter (fun q => !(q.1 == i) && !(q.1 + 1 == i && q.2.category == 2)))) : mi_has b bs ls' nL lo' := by
  have key : lo' = lo.set i (some v) ∧ i < lo.length ∧ ∀ (j : Nat) (w : Value), j + 1 = i → lo[j]? = some (some w) → ¬ w.category = 2 := by
    unfold mi_st at hs
    cases h1 : lo[i]? with
    | none => rw [h1] at hs; cases hs
    | some o =>
      have hi := (List.getElem?_eq_some_iff.mp h1).1
      rw [h1] at hs
      cases o with
      | some w0 =>
        simp only [Option.some.injEq] at hs
        refine ⟨hs.symm, hi, fun j w hj hw hc => ?_⟩
        subst hj
        have a1 := h.2.1.1 j _ (h.2.2 j w hw) (by rw [mi_v_cat]; exact hc)
        have a2 := h.2.2 (j + 1) w0 h1
        rw [a1] at a2
        cases a2
      | none =>
        cases i with
        | zero =>
          simp only [Option.some.injEq] at hs
          exact ⟨hs.symm, hi, fun j w hj _ _ => by omega⟩
        | succ j0 =>
          simp only at hs
          refine ⟨?_, hi, fun j w hj hw hc => ?_⟩
          · revert hs
            split
            · intro q; cases q
            · intro q; cases q
            · intro q; exact (Option.some.inj q).symm
          · have : j = j0 := by omega
            subst this
            rw [hw] at hs
            cases w <;> simp [Value.category] at hc <;> simp at hs
  obtain ⟨rfl, hi, hc⟩ := key
  refine ⟨h'.1, h'.2.1, fun j w hj => ?_⟩
  by_cases hji : j = i
  · subst hji
    rw [List.getElem?_set_self hi] at hj
    cases hj
    exact h'.2.2 (j, mi_v b bs v) List.mem_cons_self
  · rw [List.getElem?_set_ne (Ne.symm hji)] at hj
    refine h'.2.2 (j, mi_v b bs w) (List.mem_cons_of_mem _ (List.mem_filter.mpr ⟨mi_lv_mem.mpr ⟨w, hj, rfl⟩, ?_⟩))
    simp only [Bool.and_eq_true, Bool.not_eq_true', beq_eq_false_iff_ne, ne_eq, Bool.and_eq_false_iff]
    refine ⟨hji, ?_⟩
    by_cases hj1 : j + 1 = i
    · right
      rw [mi_v_cat]
      exact hc j w hj1 hj
    · left
      exact hj1
end MI0
end
section
/-! THE STATIC SIDE: the classes' tables, the words, what is known of a state all the time. -/
section MI1
def mi_good : List Cond := lw_tbl.filter goodWord
def mi_isNest (w : Cond) : Bool := match w with
  | .fieldLinkNest _ _ _ _ _ _ => true
  | .methodLinkNest _ _ _ _ => true
  | .declares _ => true
  | .castable _ _ => true
  | _ => false
def mi_nw : List Cond := lw_tbl.filter mi_isNest
theorem mi_good_ok {w : Cond} (h : w ∈ mi_good) : goodWord w = true := (List.mem_filter.mp h).2
theorem mi_good_tbl {w : Cond} (h : w ∈ mi_good) : w ∈ lw_tbl := (List.mem_filter.mp h).1
/-- a class of the list: its words, its fields' types, their names apart -/
def mi_CF (ci : Nat) (C : String) (T : u_T) (N : Nat) (ty : Nat → FieldType) : Prop :=
  mi_cl[ci]? = some (C, T, N) ∧ (∀ w ∈ u_ws C T N, w ∈ mi_good) ∧ (∀ k, k < N → parseFieldDescriptor (T k).2.2.1 = some (ty k)) ∧ (∀ a, a < N → ∀ b, b < N → a ≠ b → (T a).2.1 ≠ (T b).2.1)
/-- entry 'index' of the class own names field k of class ci, of type fty, final or not -/
def mi_FL (own : String) (index ci k : Nat) (fty : FieldType) (fin : Bool) : Prop :=
  ∃ (C : String) (T : u_T) (N : Nat) (ty : Nat → FieldType), mi_CF ci C T N ty ∧ k < N ∧ ty k = fty ∧ (T k).2.2.2 = fin ∧ (T k).1 = C ∧
    (Cond.fieldLink own index (T k).1 (T k).2.1 (T k).2.2.1 ∈ mi_good ∨ ∃ host, Cond.fieldLinkNest own index (T k).1 (T k).2.1 (T k).2.2.1 host ∈ mi_nw)
/-- what is known of a state all the time -/
def mi_K (b bs : Nat) (cI cL : ClassId) (D : va_G) (LS : Nat) (xs : Nat → Int32) (U : State) : Prop :=
  va_K D mi_cl [(cI, .int), (cL, .long)] U ∧ (∀ w ∈ mi_nw, va_Nw w U) ∧ va_X bs LS xs U U.heap ∧ bs < b ∧ bs < U.heap.size ∧
  (vx_Zq Bundle.tN "UNASSIGNED_STACK" Bundle.steD (fun q => b ≤ q) U U.heap ∧ vx_Zq Bundle.tN "SUPPRESSED_SENTINEL" Bundle.listD (fun q => b ≤ q) U U.heap ∧ (∀ q ∈ mi_str, ∃ a, vk_R q.1 q.2.1 q.2.2 a U) ∧ ∀ q ∈ mi_ncs, va_Nc q.1 q.2 U)
theorem mi_nw_warm {w : Cond} (hw : w ∈ mi_nw) {s U : State} (hW : s.WarmedH U.vm) (h : va_Nw w s) : va_Nw w U := by
  have hn : mi_isNest w = true := (List.mem_filter.mp hw).2
  cases w <;> first | (cases hn; done) | exact va_Nw.warmF hW h | exact va_Nw.warmM hW h | exact va_Nw.warmD hW h | exact va_tabs rfl (rfl : (s.setVm U.vm).vm = U.vm) (by rw [Cond.castable_setVm hW.alike]; exact h)
theorem mi_K.warm {b bs : Nat} {cI cL : ClassId} {D : va_G} {LS : Nat} {xs : Nat → Int32} {s U : State} {H : Heap} {locs : List Loc} (h : mi_K b bs cI cL D LS xs s) (hS : va_S (fun q => b ≤ q) s.heap H locs) (hU : U.heap = H) (hW : s.WarmedH U.vm) : mi_K b bs cI cL D LS xs U := by
  obtain ⟨h1, h2, h3, h4, h5, h6, h7, h8, h9⟩ := h
  have hkp : ∀ a : Nat, a < s.heap.size → ¬ (fun q => b ≤ q) a → U.heap[a]? = s.heap[a]? := fun a ha hn => by rw [hU]; exact hS.2.1 a ha hn
  refine ⟨va_K.moved hW.alike h1, fun w hw => mi_nw_warm hw hW (h2 w hw), va_X.moved hW.alike (h3.kept (hkp bs h5 (Nat.not_le.mpr h4))), h4, ?_, ?_, ?_, fun q hq => ?_, fun q hq => (h9 q hq).moved hW.alike⟩
  · rw [hU]; exact Nat.lt_of_lt_of_le h5 hS.1
  · exact vx_Zq.moved hW.alike (h6.kept hkp)
  · exact vx_Zq.moved hW.alike (h7.kept hkp)
  · obtain ⟨a, ha⟩ := h8 q hq
    exact ⟨a, ha.warm hW⟩
theorem mi_K.calling {b bs : Nat} {cI cL : ClassId} {D : va_G} {LS : Nat} {xs : Nat → Int32} {U : State} (h : mi_K b bs cI cL D LS xs U) (g : JFrame) (mk : MethodId) (a : Array Value) : mi_K b bs cI cL D LS xs (U.calling g mk a) :=
  mi_K.warm (U := U.calling g mk a) (H := U.heap) (locs := []) h va_S.rf rfl (State.WarmedH.refl U)
/-- the heap holds the cells -/
def mi_R (b bs : Nat) (cI cL : ClassId) (D : va_G) (h : mH) (H : Heap) : Prop := va_P D mi_cl (mi_w b bs cI cL 0 h) H
theorem mi_R.size {b bs : Nat} {cI cL : ClassId} {D : va_G} {h : mH} {H : Heap} (hR : mi_R b bs cI cL D h H) (hb : b ≤ H.size) : b + h.length ≤ H.size := by
  cases hl : h.length with
  | zero => exact hb
  | succ n =>
    have h1 : n < h.length := by omega
    have h2 : (mi_w b bs cI cL 0 h)[n]? = some (b + (0 + n), mi_e b bs cI cL h[n]) := by rw [mi_w_get, List.getElem?_eq_getElem h1]; rfl
    have h3 : b + (0 + n) < H.size := (hR n _ h2).lt
    omega
/-- where a method stands: fixed -/
def mi_X (b bs : Nat) (cI cL : ClassId) (D : va_G) (LS : Nat) (xs : Nat → Int32) (own : String) (cc : ByteArray) (nL : Nat) (ini : Bool) (p : Program) (l : Launch) (R : Room) (s : State) (m : MethodId) (args : Array Value) (meth : Method) (c : Code) : Prop :=
  p.tables.exec = Jvm.exec ∧ c.code = cc ∧ c.maxLocals = nL ∧ s.vm.findClass own = some m.cls ∧ (∀ w ∈ mi_good, w.before args s = true) ∧ mi_K b bs cI cL D LS xs s ∧ b ≤ s.heap.size ∧ (ini = true → meth.name = "<init>") ∧ meth.locks = false ∧ 1 ≤ R.frames ∧ 40 ≤ R.locals ∧ l.stackTraces = false
/-- the machine comes to Q from the small state -/
def mi_W (b bs : Nat) (cI cL : ClassId) (D : va_G) (nL : Nat) (p : Program) (l : Launch) (e : Env) (R : Room) (s : State) (m : MethodId) (args : Array Value) (below : List Frame) (meth : Method) (c : Code) (Q : State → Prop) (kc ks n0 z0 : Nat) (x : mS) : Prop :=
  ∀ (H : Heap) (locs : List Loc) (ls : Array Slot), mi_R b bs cI cL D x.2.2.2 H → mi_has b bs ls nL x.2.1 → va_S (fun q => b ≤ q) s.heap H locs →
    W p l e R s m args below meth c H locs (x.2.2.2.length + kc - n0) (mi_z x.2.2.2 + ks - z0) Q (F0 m x.1 ls (x.2.2.1.map (mi_v b bs)))
/-- a step of the small machine is one of the machine -/
def mi_Ok (own : String) (cc : ByteArray) (nL : Nat) (ini : Bool) (pc : Nat) (f : mF) : Prop :=
  ∀ (al : Bool) (LS : Nat) (xs : Nat → Int32) (lo : mL) (st : List Value) (h : mH) (x : mS), f al LS xs lo st h = some x →
    (h.length ≤ x.2.2.2.length ∧ mi_z h ≤ mi_z x.2.2.2) ∧
    ∀ (b bs : Nat) (cI cL : ClassId) (D : va_G) (p : Program) (l : Launch) (e : Env) (R : Room) (s : State) (m : MethodId) (args : Array Value) (below : List Frame) (meth : Method) (c : Code) (Q : State → Prop) (kc ks n0 z0 : Nat),
      mi_X b bs cI cL D LS xs own cc nL ini p l R s m args meth c → (al = true → s.heap.size = b + n0 ∧ kc = 0) → n0 ≤ h.length → z0 ≤ mi_z h → x.2.2.2.length + kc - n0 ≤ R.cells → mi_z x.2.2.2 + ks - z0 ≤ R.slots →
      mi_W b bs cI cL D nL p l e R s m args below meth c Q kc ks n0 z0 x → mi_W b bs cI cL D nL p l e R s m args below meth c Q kc ks n0 z0 (pc, lo, st, h)
end MI1
end
section
/-! THE STEPS, and that each is the machine's. -/
section MI2
variable {own : String} {cc : ByteArray} {nL : Nat} {ini : Bool} {pc nx tgt : Nat}
def mi_push (v : Value) (nx : Nat) : mF := fun _ _ _ lo st h => some (nx, lo, v :: st, h)
theorem mi_iconst_ok {n : Int} {v : Int32} (hv : Int32.ofInt n = v) (d : decode cc pc = .ok (.iconst n, 1)) (hn : pc + 1 = nx) : mi_Ok own cc nL ini pc (mi_push (.int v) nx) := by
  intro al LS xs lo st h x hf
  cases hf
  subst hn
  refine ⟨⟨Nat.le_refl _, Nat.le_refl _⟩, fun b bs cI cL D p l e R s m args below meth c Q kc ks n0 z0 X hal _ _ _ _ hW H locs ls hR hh hS => ?_⟩
  exact lv_iconst X.1 X.2.1 d hv (hW H locs ls hR hh hS)
theorem mi_bipush_ok {n : Int} {v : Int32} (hv : (Int8.ofInt n).toInt32 = v) (d : decode cc pc = .ok (.bipush n, 2)) (hn : pc + 2 = nx) : mi_Ok own cc nL ini pc (mi_push (.int v) nx) := by
  intro al LS xs lo st h x hf
  cases hf
  subst hn
  refine ⟨⟨Nat.le_refl _, Nat.le_refl _⟩, fun b bs cI cL D p l e R s m args below meth c Q kc ks n0 z0 X hal _ _ _ _ hW H locs ls hR hh hS => ?_⟩
  exact lv_bipush X.1 X.2.1 d hv (hW H locs ls hR hh hS)
theorem mi_sipush_ok {n : Int} {v : Int32} (hv : (Int16.ofInt n).toInt32 = v) (d : decode cc pc = .ok (.sipush n, 3)) (hn : pc + 3 = nx) : mi_Ok own cc nL ini pc (mi_push (.int v) nx) := by
  intro al LS xs lo st h x hf
  cases hf
  subst hn
  refine ⟨⟨Nat.le_refl _, Nat.le_refl _⟩, fun b bs cI cL D p l e R s m args below meth c Q kc ks n0 z0 X hal _ _ _ _ hW H locs ls hR hh hS => ?_⟩
  exact lv_sipush X.1 X.2.1 d hv (hW H locs ls hR hh hS)
theorem mi_ldc_ok {index : Nat} {v : Int32} (d : decode cc pc = .ok (.ldc index, 2)) (hc : Cond.constant own index v ∈ mi_good) (hn : pc + 2 = nx) : mi_Ok own cc nL ini pc (mi_push (.int v) nx) := by
  intro al LS xs lo st h x hf
  cases hf
  subst hn
  refine ⟨⟨Nat.le_refl _, Nat.le_refl _⟩, fun b bs cI cL D p l e R s m args below meth c Q kc ks n0 z0 X hal _ _ _ _ hW H locs ls hR hh hS => ?_⟩
  exact lv_ldc X.1 X.2.1 X.2.2.2.1 (X.2.2.2.2.1 _ hc) d (hW H locs ls hR hh hS)
theorem mi_ldc2_ok {index : Nat} {v : Int64} (d : decode cc pc = .ok (.ldc2_w index, 3)) (hc : Cond.constantLong own index v ∈ mi_good) (hn : pc + 3 = nx) : mi_Ok own cc nL ini pc (mi_push (.long v) nx) := by
  intro al LS xs lo st h x hf
  cases hf
  subst hn
  refine ⟨⟨Nat.le_refl _, Nat.le_refl _⟩, fun b bs cI cL D p l e R s m args below meth c Q kc ks n0 z0 X hal _ _ _ _ hW H locs ls hR hh hS => ?_⟩
  exact lv_ldc2 X.1 X.2.1 X.2.2.2.1 (X.2.2.2.2.1 _ hc) d (hW H locs ls hR hh hS)
def mi_ild (i nx : Nat) : mF := fun _ _ _ lo st h => match lo[i]? with
  | some (some (.int x)) => some (nx, lo, .int x :: st, h)
  | _ => none
def mi_lld (i nx : Nat) : mF := fun _ _ _ lo st h => match lo[i]? with
  | some (some (.long x)) => some (nx, lo, .long x :: st, h)
  | _ => none
def mi_ald (i nx : Nat) : mF := fun _ _ _ lo st h => match lo[i]? with
  | some (some (.ref x)) => some (nx, lo, .ref x :: st, h)
  | some (some (.float x)) => some (nx, lo, .float x :: st, h)
  | _ => none
theorem mi_iload_n_ok {k : Fin 4} {i : Nat} (d : decode cc pc = .ok (.iload_n k, 1)) (hk : (k : Nat) = i) (hn : pc + 1 = nx) : mi_Ok own cc nL ini pc (mi_ild i nx) := by
  intro al LS xs lo st h x hf
  subst hn
  unfold mi_ild at hf
  split at hf
  · next x0 h0 =>
    cases hf
    refine ⟨⟨Nat.le_refl _, Nat.le_refl _⟩, fun b bs cI cL D p l e R s m args below meth c Q kc ks n0 z0 X hal _ _ _ _ hW H locs ls hR hh hS => ?_⟩
    exact lv_iload_n X.1 X.2.1 d hk (hh.2.2 i _ h0) (hW H locs ls hR hh hS)
  · cases hf
theorem mi_iload_ok {i : Nat} (d : decode cc pc = .ok (.iload i, 2)) (hn : pc + 2 = nx) : mi_Ok own cc nL ini pc (mi_ild i nx) := by
  intro al LS xs lo st h x hf
  subst hn
  unfold mi_ild at hf
  split at hf
  · next x0 h0 =>
    cases hf
    refine ⟨⟨Nat.le_refl _, Nat.le_refl _⟩, fun b bs cI cL D p l e R s m args below meth c Q kc ks n0 z0 X hal _ _ _ _ hW H locs ls hR hh hS => ?_⟩
    exact lv_iload X.1 X.2.1 d (hh.2.2 i _ h0) (hW H locs ls hR hh hS)
  · cases hf
theorem mi_lload_n_ok {k : Fin 4} {i : Nat} (d : decode cc pc = .ok (.lload_n k, 1)) (hk : (k : Nat) = i) (hn : pc + 1 = nx) : mi_Ok own cc nL ini pc (mi_lld i nx) := by
  intro al LS xs lo st h x hf
  subst hn
  unfold mi_lld at hf
  split at hf
  · next x0 h0 =>
    cases hf
    refine ⟨⟨Nat.le_refl _, Nat.le_refl _⟩, fun b bs cI cL D p l e R s m args below meth c Q kc ks n0 z0 X hal _ _ _ _ hW H locs ls hR hh hS => ?_⟩
    exact lv_lload_n X.1 X.2.1 d hk (hh.2.2 i _ h0) (hW H locs ls hR hh hS)
  · cases hf
theorem mi_aload_n_ok {k : Fin 4} {i : Nat} (d : decode cc pc = .ok (.aload_n k, 1)) (hk : (k : Nat) = i) (hn : pc + 1 = nx) : mi_Ok own cc nL ini pc (mi_ald i nx) := by
  intro al LS xs lo st h x hf
  subst hn
  unfold mi_ald at hf
  split at hf
  · next x0 h0 =>
    cases hf
    refine ⟨⟨Nat.le_refl _, Nat.le_refl _⟩, fun b bs cI cL D p l e R s m args below meth c Q kc ks n0 z0 X hal _ _ _ _ hW H locs ls hR hh hS => ?_⟩
    exact lv_aload_n X.1 X.2.1 d hk (hh.2.2 i _ h0) (hW H locs ls hR hh hS)
  · next x0 h0 =>
    cases hf
    refine ⟨⟨Nat.le_refl _, Nat.le_refl _⟩, fun b bs cI cL D p l e R s m args below meth c Q kc ks n0 z0 X hal _ _ _ _ hW H locs ls hR hh hS => ?_⟩
    exact lv_aload_n X.1 X.2.1 d hk (hh.2.2 i _ h0) (hW H locs ls hR hh hS)
  · cases hf
theorem mi_aload_ok {i : Nat} (d : decode cc pc = .ok (.aload i, 2)) (hn : pc + 2 = nx) : mi_Ok own cc nL ini pc (mi_ald i nx) := by
  intro al LS xs lo st h x hf
  subst hn
  unfold mi_ald at hf
  split at hf
  · next x0 h0 =>
    cases hf
    refine ⟨⟨Nat.le_refl _, Nat.le_refl _⟩, fun b bs cI cL D p l e R s m args below meth c Q kc ks n0 z0 X hal _ _ _ _ hW H locs ls hR hh hS => ?_⟩
    exact lv_aload X.1 X.2.1 d (hh.2.2 i _ h0) (hW H locs ls hR hh hS)
  · next x0 h0 =>
    cases hf
    refine ⟨⟨Nat.le_refl _, Nat.le_refl _⟩, fun b bs cI cL D p l e R s m args below meth c Q kc ks n0 z0 X hal _ _ _ _ hW H locs ls hR hh hS => ?_⟩
    exact lv_aload X.1 X.2.1 d (hh.2.2 i _ h0) (hW H locs ls hR hh hS)
  · cases hf
def mi_ist (i nx : Nat) : mF := fun _ _ _ lo st h => match st with
  | .int x :: r => (match mi_st lo i (.int x) with
    | some lo' => some (nx, lo', r, h)
    | none => none)
  | _ => none
def mi_ast (i nx : Nat) : mF := fun _ _ _ lo st h => match st with
  | .ref x :: r => (match mi_st lo i (.ref x) with
    | some lo' => some (nx, lo', r, h)
    | none => none)
  | _ => none
def mi_inc (i : Nat) (n : Int) (nx : Nat) : mF := fun _ _ _ lo st h => match lo[i]? with
  | some (some (.int x)) => some (nx, lo.set i (some (.int (x + Int32.ofInt n))), st, h)
  | _ => none
theorem mi_istore_n_ok {k : Fin 4} {i : Nat} (d : decode cc pc = .ok (.istore_n k, 1)) (hk : (k : Nat) = i) (hi : i < nL) (hn : pc + 1 = nx) : mi_Ok own cc nL ini pc (mi_ist i nx) := by
  intro al LS xs lo st h x hf
  subst hn
  unfold mi_ist at hf
  split at hf
  · next x0 r =>
    split at hf
    · next lo1 h1 =>
      cases hf
      refine ⟨⟨Nat.le_refl _, Nat.le_refl _⟩, fun b bs cI cL D p l e R s m args below meth c Q kc ks n0 z0 X hal _ _ _ _ hW H locs ls hR hh hS => ?_⟩
      exact lv_istore_n X.1 X.2.1 d hk (mi_has_lv hh) hi rfl (fun ls1 hl1 => hW H locs ls1 hR (mi_st_has hh h1 hl1) hS)
    · cases hf
  · cases hf
theorem mi_istore_ok {i : Nat} (d : decode cc pc = .ok (.istore i, 2)) (hi : i < nL) (hn : pc + 2 = nx) : mi_Ok own cc nL ini pc (mi_ist i nx) := by
  intro al LS xs lo st h x hf
  subst hn
  unfold mi_ist at hf
  split at hf
  · next x0 r =>
    split at hf
    · next lo1 h1 =>
      cases hf
      refine ⟨⟨Nat.le_refl _, Nat.le_refl _⟩, fun b bs cI cL D p l e R s m args below meth c Q kc ks n0 z0 X hal _ _ _ _ hW H locs ls hR hh hS => ?_⟩
      exact lv_istore X.1 X.2.1 d (mi_has_lv hh) hi rfl (fun ls1 hl1 => hW H locs ls1 hR (mi_st_has hh h1 hl1) hS)
    · cases hf
  · cases hf
theorem mi_astore_n_ok {k : Fin 4} {i : Nat} (d : decode cc pc = .ok (.astore_n k, 1)) (hk : (k : Nat) = i) (hi : i < nL) (hn : pc + 1 = nx) : mi_Ok own cc nL ini pc (mi_ast i nx) := by
  intro al LS xs lo st h x hf
  subst hn
  unfold mi_ast at hf
  split at hf
  · next x0 r =>
    split at hf
    · next lo1 h1 =>
      cases hf
      refine ⟨⟨Nat.le_refl _, Nat.le_refl _⟩, fun b bs cI cL D p l e R s m args below meth c Q kc ks n0 z0 X hal _ _ _ _ hW H locs ls hR hh hS => ?_⟩
      exact lv_astore_n X.1 X.2.1 d hk (mi_has_lv hh) hi rfl (fun ls1 hl1 => hW H locs ls1 hR (mi_st_has hh h1 hl1) hS)
    · cases hf
  · cases hf
theorem mi_astore_ok {i : Nat} (d : decode cc pc = .ok (.astore i, 2)) (hi : i < nL) (hn : pc + 2 = nx) : mi_Ok own cc nL ini pc (mi_ast i nx) := by
  intro al LS xs lo st h x hf
  subst hn
  unfold mi_ast at hf
  split at hf
  · next x0 r =>
    split at hf
    · next lo1 h1 =>
      cases hf
      refine ⟨⟨Nat.le_refl _, Nat.le_refl _⟩, fun b bs cI cL D p l e R s m args below meth c Q kc ks n0 z0 X hal _ _ _ _ hW H locs ls hR hh hS => ?_⟩
      exact lv_astore X.1 X.2.1 d (mi_has_lv hh) hi rfl (fun ls1 hl1 => hW H locs ls1 hR (mi_st_has hh h1 hl1) hS)
    · cases hf
  · cases hf
theorem mi_inc_ok {i : Nat} {n : Int} (d : decode cc pc = .ok (.iinc i n, 3)) (hi : i < nL) (hn : pc + 3 = nx) : mi_Ok own cc nL ini pc (mi_inc i n nx) := by
  intro al LS xs lo st h x hf
  subst hn
  unfold mi_inc at hf
  split at hf
  · next x0 h0 =>
    cases hf
    refine ⟨⟨Nat.le_refl _, Nat.le_refl _⟩, fun b bs cI cL D p l e R s m args below meth c Q kc ks n0 z0 X hal _ _ _ _ hW H locs ls hR hh hS => ?_⟩
    obtain ⟨k, hk⟩ := List.getElem?_of_mem (mi_lv_mem.mpr ⟨_, h0, rfl⟩ : (i, mi_v b bs (.int x0)) ∈ mi_lv b bs lo)
    refine lv_iinc X.1 X.2.1 d (mi_has_lv hh) (k := k) hk rfl hi rfl (fun ls1 hl1 => hW H locs ls1 hR (mi_st_has (i := i) (v := .int (x0 + Int32.ofInt n)) hh ?_ hl1) hS)
    unfold mi_st
    rw [h0]
  · cases hf
def mi_i2 (op : Int32 → Int32 → Int32) (nx : Nat) : mF := fun _ _ _ lo st h => match st with
  | .int y :: .int x :: r => some (nx, lo, .int (op x y) :: r, h)
  | _ => none
def mi_d2 (op : Int32 → Int32 → Int32) (nx : Nat) : mF := fun _ _ _ lo st h => match st with
  | .int y :: .int x :: r => if y = 0 then none else some (nx, lo, .int (op x y) :: r, h)
  | _ => none
def mi_l2 (op : Int64 → Int64 → Int64) (nx : Nat) : mF := fun _ _ _ lo st h => match st with
  | .long y :: .long x :: r => some (nx, lo, .long (op x y) :: r, h)
  | _ => none
def mi_ls (op : Int64 → Int32 → Int64) (nx : Nat) : mF := fun _ _ _ lo st h => match st with
  | .int y :: .long x :: r => some (nx, lo, .long (op x y) :: r, h)
  | _ => none
def mi_lc (nx : Nat) : mF := fun _ _ _ lo st h => match st with
  | .long y :: .long x :: r => some (nx, lo, .int (lg_cmp x y) :: r, h)
  | _ => none
def mi_i1 (op : Int32 → Int32) (nx : Nat) : mF := fun _ _ _ lo st h => match st with
  | .int x :: r => some (nx, lo, .int (op x) :: r, h)
  | _ => none
def mi_il (nx : Nat) : mF := fun _ _ _ lo st h => match st with
  | .int x :: r => some (nx, lo, .long x.toInt64 :: r, h)
  | _ => none
def mi_li (nx : Nat) : mF := fun _ _ _ lo st h => match st with
  | .long x :: r => some (nx, lo, .int x.toInt32 :: r, h)
  | _ => none
abbrev mi_ushr (x : Int64) (y : Int32) : Int64 := (x.toUInt64 >>> (y.toInt64.toUInt64 &&& Int64.toUInt64 63)).toInt64
abbrev mi_sshr (x : Int64) (y : Int32) : Int64 := x >>> (y.toInt64 &&& 63)
abbrev mi_sshl (x : Int64) (y : Int32) : Int64 := x <<< (y.toInt64 &&& 63)
abbrev mi_irem (x y : Int32) : Int32 := x - x / y * y
theorem mi_iadd_ok (d : decode cc pc = .ok (.iadd, 1)) (hn : pc + 1 = nx) : mi_Ok own cc nL ini pc (mi_i2 (fun x y => x + y) nx) := by
  intro al LS xs lo st h x hf
  subst hn
  unfold mi_i2 at hf
  split at hf
  · next y0 x0 r =>
    cases hf
    refine ⟨⟨Nat.le_refl _, Nat.le_refl _⟩, fun b bs cI cL D p l e R s m args below meth c Q kc ks n0 z0 X hal _ _ _ _ hW H locs ls hR hh hS => ?_⟩
    exact lv_iadd X.1 X.2.1 d (hW H locs ls hR hh hS)
  · cases hf
theorem mi_isub_ok (d : decode cc pc = .ok (.isub, 1)) (hn : pc + 1 = nx) : mi_Ok own cc nL ini pc (mi_i2 (fun x y => x - y) nx) := by
  intro al LS xs lo st h x hf
  subst hn
  unfold mi_i2 at hf
  split at hf
  · next y0 x0 r =>
    cases hf
    refine ⟨⟨Nat.le_refl _, Nat.le_refl _⟩, fun b bs cI cL D p l e R s m args below meth c Q kc ks n0 z0 X hal _ _ _ _ hW H locs ls hR hh hS => ?_⟩
    exact lv_isub X.1 X.2.1 d (hW H locs ls hR hh hS)
  · cases hf
theorem mi_imul_ok (d : decode cc pc = .ok (.imul, 1)) (hn : pc + 1 = nx) : mi_Ok own cc nL ini pc (mi_i2 (fun x y => x * y) nx) := by
  intro al LS xs lo st h x hf
  subst hn
  unfold mi_i2 at hf
  split at hf
  · next y0 x0 r =>
    cases hf
    refine ⟨⟨Nat.le_refl _, Nat.le_refl _⟩, fun b bs cI cL D p l e R s m args below meth c Q kc ks n0 z0 X hal _ _ _ _ hW H locs ls hR hh hS => ?_⟩
    exact lv_imul X.1 X.2.1 d (hW H locs ls hR hh hS)
  · cases hf
theorem mi_iand_ok (d : decode cc pc = .ok (.iand, 1)) (hn : pc + 1 = nx) : mi_Ok own cc nL ini pc (mi_i2 (fun x y => x &&& y) nx) := by
  intro al LS xs lo st h x hf
  subst hn
  unfold mi_i2 at hf
  split at hf
  · next y0 x0 r =>
    cases hf
    refine ⟨⟨Nat.le_refl _, Nat.le_refl _⟩, fun b bs cI cL D p l e R s m args below meth c Q kc ks n0 z0 X hal _ _ _ _ hW H locs ls hR hh hS => ?_⟩
    exact lv_iand X.1 X.2.1 d (hW H locs ls hR hh hS)
  · cases hf
theorem mi_land_ok (d : decode cc pc = .ok (.land, 1)) (hn : pc + 1 = nx) : mi_Ok own cc nL ini pc (mi_l2 (fun x y => x &&& y) nx) := by
  intro al LS xs lo st h x hf
  subst hn
  unfold mi_l2 at hf
  split at hf
  · next y0 x0 r =>
    cases hf
    refine ⟨⟨Nat.le_refl _, Nat.le_refl _⟩, fun b bs cI cL D p l e R s m args below meth c Q kc ks n0 z0 X hal _ _ _ _ hW H locs ls hR hh hS => ?_⟩
    exact lv_land X.1 X.2.1 d (hW H locs ls hR hh hS)
  · cases hf
theorem mi_lor_ok (d : decode cc pc = .ok (.lor, 1)) (hn : pc + 1 = nx) : mi_Ok own cc nL ini pc (mi_l2 (fun x y => x ||| y) nx) := by
  intro al LS xs lo st h x hf
  subst hn
  unfold mi_l2 at hf
  split at hf
  · next y0 x0 r =>
    cases hf
    refine ⟨⟨Nat.le_refl _, Nat.le_refl _⟩, fun b bs cI cL D p l e R s m args below meth c Q kc ks n0 z0 X hal _ _ _ _ hW H locs ls hR hh hS => ?_⟩
    exact lv_lor X.1 X.2.1 d (hW H locs ls hR hh hS)
  · cases hf
theorem mi_lushr_ok (d : decode cc pc = .ok (.lushr, 1)) (hn : pc + 1 = nx) : mi_Ok own cc nL ini pc (mi_ls mi_ushr nx) := by
  intro al LS xs lo st h x hf
  subst hn
  unfold mi_ls at hf
  split at hf
  · next y0 x0 r =>
    cases hf
    refine ⟨⟨Nat.le_refl _, Nat.le_refl _⟩, fun b bs cI cL D p l e R s m args below meth c Q kc ks n0 z0 X hal _ _ _ _ hW H locs ls hR hh hS => ?_⟩
    exact lv_lushr X.1 X.2.1 d rfl (hW H locs ls hR hh hS)
  · cases hf
theorem mi_lshr_ok (d : decode cc pc = .ok (.lshr, 1)) (hn : pc + 1 = nx) : mi_Ok own cc nL ini pc (mi_ls mi_sshr nx) := by
  intro al LS xs lo st h x hf
  subst hn
  unfold mi_ls at hf
  split at hf
  · next y0 x0 r =>
    cases hf
    refine ⟨⟨Nat.le_refl _, Nat.le_refl _⟩, fun b bs cI cL D p l e R s m args below meth c Q kc ks n0 z0 X hal _ _ _ _ hW H locs ls hR hh hS => ?_⟩
    exact lv_lshr X.1 X.2.1 d rfl (hW H locs ls hR hh hS)
  · cases hf
theorem mi_lshl_ok (d : decode cc pc = .ok (.lshl, 1)) (hn : pc + 1 = nx) : mi_Ok own cc nL ini pc (mi_ls mi_sshl nx) := by
  intro al LS xs lo st h x hf
  subst hn
  unfold mi_ls at hf
  split at hf
  · next y0 x0 r =>
    cases hf
    refine ⟨⟨Nat.le_refl _, Nat.le_refl _⟩, fun b bs cI cL D p l e R s m args below meth c Q kc ks n0 z0 X hal _ _ _ _ hW H locs ls hR hh hS => ?_⟩
    exact lv_lshl X.1 X.2.1 d rfl (hW H locs ls hR hh hS)
  · cases hf
theorem mi_ineg_ok (d : decode cc pc = .ok (.ineg, 1)) (hn : pc + 1 = nx) : mi_Ok own cc nL ini pc (mi_i1 (fun x => -x) nx) := by
  intro al LS xs lo st h x hf
  subst hn
  unfold mi_i1 at hf
  split at hf
  · next x0 r =>
    cases hf
    refine ⟨⟨Nat.le_refl _, Nat.le_refl _⟩, fun b bs cI cL D p l e R s m args below meth c Q kc ks n0 z0 X hal _ _ _ _ hW H locs ls hR hh hS => ?_⟩
    exact lv_ineg X.1 X.2.1 d (hW H locs ls hR hh hS)
  · cases hf
theorem mi_i2l_ok (d : decode cc pc = .ok (.i2l, 1)) (hn : pc + 1 = nx) : mi_Ok own cc nL ini pc (mi_il nx) := by
  intro al LS xs lo st h x hf
  subst hn
  unfold mi_il at hf
  split at hf
  · next x0 r =>
    cases hf
    refine ⟨⟨Nat.le_refl _, Nat.le_refl _⟩, fun b bs cI cL D p l e R s m args below meth c Q kc ks n0 z0 X hal _ _ _ _ hW H locs ls hR hh hS => ?_⟩
    exact lv_i2l X.1 X.2.1 d rfl (hW H locs ls hR hh hS)
  · cases hf
theorem mi_l2i_ok (d : decode cc pc = .ok (.l2i, 1)) (hn : pc + 1 = nx) : mi_Ok own cc nL ini pc (mi_li nx) := by
  intro al LS xs lo st h x hf
  subst hn
  unfold mi_li at hf
  split at hf
  · next x0 r =>
    cases hf
    refine ⟨⟨Nat.le_refl _, Nat.le_refl _⟩, fun b bs cI cL D p l e R s m args below meth c Q kc ks n0 z0 X hal _ _ _ _ hW H locs ls hR hh hS => ?_⟩
    exact lv_l2i X.1 X.2.1 d rfl (hW H locs ls hR hh hS)
  · cases hf
theorem mi_lcmp_ok (d : decode cc pc = .ok (.lcmp, 1)) (hn : pc + 1 = nx) : mi_Ok own cc nL ini pc (mi_lc nx) := by
  intro al LS xs lo st h x hf
  subst hn
  unfold mi_lc at hf
  split at hf
  · next y0 x0 r =>
    cases hf
    refine ⟨⟨Nat.le_refl _, Nat.le_refl _⟩, fun b bs cI cL D p l e R s m args below meth c Q kc ks n0 z0 X hal _ _ _ _ hW H locs ls hR hh hS => ?_⟩
    exact W.lcmp X.1 X.2.1 d (hW H locs ls hR hh hS)
  · cases hf
theorem mi_idiv_ok (d : decode cc pc = .ok (.idiv, 1)) (hn : pc + 1 = nx) : mi_Ok own cc nL ini pc (mi_d2 (fun x y => x / y) nx) := by
  intro al LS xs lo st h x hf
  subst hn
  unfold mi_d2 at hf
  split at hf
  · next y0 x0 r =>
    split at hf
    · cases hf
    · next hy =>
      cases hf
      refine ⟨⟨Nat.le_refl _, Nat.le_refl _⟩, fun b bs cI cL D p l e R s m args below meth c Q kc ks n0 z0 X hal _ _ _ _ hW H locs ls hR hh hS => ?_⟩
      exact lv_idiv X.1 X.2.1 d hy (hW H locs ls hR hh hS)
  · cases hf
theorem mi_irem_ok (d : decode cc pc = .ok (.irem, 1)) (hn : pc + 1 = nx) : mi_Ok own cc nL ini pc (mi_d2 mi_irem nx) := by
  intro al LS xs lo st h x hf
  subst hn
  unfold mi_d2 at hf
  split at hf
  · next y0 x0 r =>
    split at hf
    · cases hf
    · next hy =>
      cases hf
      refine ⟨⟨Nat.le_refl _, Nat.le_refl _⟩, fun b bs cI cL D p l e R s m args below meth c Q kc ks n0 z0 X hal _ _ _ _ hW H locs ls hR hh hS => ?_⟩
      exact lv_irem X.1 X.2.1 d hy (hW H locs ls hR hh hS)
  · cases hf
def mi_dup (nx : Nat) : mF := fun _ _ _ lo st h => match st with
  | v :: r => if v.category = 1 then some (nx, lo, v :: v :: r, h) else none
  | _ => none
def mi_dup2 (nx : Nat) : mF := fun _ _ _ lo st h => match st with
  | v :: u :: r => if v.category = 1 ∧ u.category = 1 then some (nx, lo, v :: u :: v :: u :: r, h) else none
  | _ => none
def mi_pop (nx : Nat) : mF := fun _ _ _ lo st h => match st with
  | v :: r => if v.category = 1 then some (nx, lo, r, h) else none
  | _ => none
theorem mi_dup_ok (d : decode cc pc = .ok (.dup, 1)) (hn : pc + 1 = nx) : mi_Ok own cc nL ini pc (mi_dup nx) := by
  intro al LS xs lo st h x hf
  subst hn
  unfold mi_dup at hf
  split at hf
  · next v r =>
    split at hf
    · next hc =>
      cases hf
      refine ⟨⟨Nat.le_refl _, Nat.le_refl _⟩, fun b bs cI cL D p l e R s m args below meth c Q kc ks n0 z0 X hal _ _ _ _ hW H locs ls hR hh hS => ?_⟩
      exact lv_dup X.1 X.2.1 d (by rw [mi_v_cat]; exact hc) (hW H locs ls hR hh hS)
    · cases hf
  · cases hf
theorem mi_pop_ok (d : decode cc pc = .ok (.pop, 1)) (hn : pc + 1 = nx) : mi_Ok own cc nL ini pc (mi_pop nx) := by
  intro al LS xs lo st h x hf
  subst hn
  unfold mi_pop at hf
  split at hf
  · next v r =>
    split at hf
    · next hc =>
      cases hf
      refine ⟨⟨Nat.le_refl _, Nat.le_refl _⟩, fun b bs cI cL D p l e R s m args below meth c Q kc ks n0 z0 X hal _ _ _ _ hW H locs ls hR hh hS => ?_⟩
      exact lv_pop X.1 X.2.1 d (by rw [mi_v_cat]; exact hc) (hW H locs ls hR hh hS)
    · cases hf
  · cases hf
theorem mi_dup2_ok (d : decode cc pc = .ok (.dup2, 1)) (hn : pc + 1 = nx) : mi_Ok own cc nL ini pc (mi_dup2 nx) := by
  intro al LS xs lo st h x hf
  subst hn
  unfold mi_dup2 at hf
  split at hf
  · next v u r =>
    split at hf
    · next hc =>
      cases hf
      refine ⟨⟨Nat.le_refl _, Nat.le_refl _⟩, fun b bs cI cL D p l e R s m args below meth c Q kc ks n0 z0 X hal _ _ _ _ hW H locs ls hR hh hS => ?_⟩
      exact lv_dup2_11 X.1 X.2.1 d (by rw [mi_v_cat]; exact hc.1) (by rw [mi_v_cat]; exact hc.2) (hW H locs ls hR hh hS)
    · cases hf
  · cases hf
def mi_b1 (t : Int32 → Bool) (tgt nx : Nat) : mF := fun _ _ _ lo st h => match st with
  | .int x :: r => some (if t x = true then tgt else nx, lo, r, h)
  | _ => none
def mi_b2 (t : Int32 → Int32 → Bool) (tgt nx : Nat) : mF := fun _ _ _ lo st h => match st with
  | .int y :: .int x :: r => some (if t x y = true then tgt else nx, lo, r, h)
  | _ => none
def mi_go (tgt : Nat) : mF := fun _ _ _ lo st h => some (tgt, lo, st, h)
theorem mi_if_eq_ok {off : Int} (d : decode cc pc = .ok (.ifCond .eq off, 3)) (ht : (pc : Int) + off = (tgt : Int)) (hn : pc + 3 = nx) : mi_Ok own cc nL ini pc (mi_b1 (fun x => decide (x = 0)) tgt nx) := by
  intro al LS xs lo st h x hf
  subst hn
  unfold mi_b1 at hf
  split at hf
  · next x0 r =>
    cases hf
    refine ⟨⟨Nat.le_refl _, Nat.le_refl _⟩, fun b bs cI cL D p l e R s m args below meth c Q kc ks n0 z0 X hal _ _ _ _ hW H locs ls hR hh hS => ?_⟩
    have hW1 := hW H locs ls hR hh hS
    dsimp only at hW1
    refine lv_if_eq X.1 X.2.1 d ht (fun hc0 => ?_) (fun hc0 => ?_)
    · rw [if_pos (by simp [hc0])] at hW1; exact hW1
    · rw [if_neg (by simp [hc0])] at hW1; exact hW1
  · cases hf
theorem mi_icmp_eq_ok {off : Int} (d : decode cc pc = .ok (.if_icmp .eq off, 3)) (ht : (pc : Int) + off = (tgt : Int)) (hn : pc + 3 = nx) : mi_Ok own cc nL ini pc (mi_b2 (fun x y => decide (x = y)) tgt nx) := by
  intro al LS xs lo st h x hf
  subst hn
  unfold mi_b2 at hf
  split at hf
  · next y0 x0 r =>
    cases hf
    refine ⟨⟨Nat.le_refl _, Nat.le_refl _⟩, fun b bs cI cL D p l e R s m args below meth c Q kc ks n0 z0 X hal _ _ _ _ hW H locs ls hR hh hS => ?_⟩
    have hW1 := hW H locs ls hR hh hS
    dsimp only at hW1
    refine lv_icmp_eq X.1 X.2.1 d ht (fun hc0 => ?_) (fun hc0 => ?_)
    · rw [if_pos (by simp [hc0])] at hW1; exact hW1
    · rw [if_neg (by simp [hc0])] at hW1; exact hW1
  · cases hf
theorem mi_if_ne_ok {off : Int} (d : decode cc pc = .ok (.ifCond .ne off, 3)) (ht : (pc : Int) + off = (tgt : Int)) (hn : pc + 3 = nx) : mi_Ok own cc nL ini pc (mi_b1 (fun x => decide (¬ x = 0)) tgt nx) := by
  intro al LS xs lo st h x hf
  subst hn
  unfold mi_b1 at hf
  split at hf
  · next x0 r =>
    cases hf
    refine ⟨⟨Nat.le_refl _, Nat.le_refl _⟩, fun b bs cI cL D p l e R s m args below meth c Q kc ks n0 z0 X hal _ _ _ _ hW H locs ls hR hh hS => ?_⟩
    have hW1 := hW H locs ls hR hh hS
    dsimp only at hW1
    refine lv_if_ne X.1 X.2.1 d ht (fun hc0 => ?_) (fun hc0 => ?_)
    · rw [if_pos (by simp [hc0])] at hW1; exact hW1
    · rw [if_neg (by simp [hc0])] at hW1; exact hW1
  · cases hf
theorem mi_icmp_ne_ok {off : Int} (d : decode cc pc = .ok (.if_icmp .ne off, 3)) (ht : (pc : Int) + off = (tgt : Int)) (hn : pc + 3 = nx) : mi_Ok own cc nL ini pc (mi_b2 (fun x y => decide (¬ x = y)) tgt nx) := by
  intro al LS xs lo st h x hf
  subst hn
  unfold mi_b2 at hf
  split at hf
  · next y0 x0 r =>
    cases hf
    refine ⟨⟨Nat.le_refl _, Nat.le_refl _⟩, fun b bs cI cL D p l e R s m args below meth c Q kc ks n0 z0 X hal _ _ _ _ hW H locs ls hR hh hS => ?_⟩
    have hW1 := hW H locs ls hR hh hS
    dsimp only at hW1
    refine lv_icmp_ne X.1 X.2.1 d ht (fun hc0 => ?_) (fun hc0 => ?_)
    · rw [if_pos (by simp [hc0])] at hW1; exact hW1
    · rw [if_neg (by simp [hc0])] at hW1; exact hW1
  · cases hf
theorem mi_if_lt_ok {off : Int} (d : decode cc pc = .ok (.ifCond .lt off, 3)) (ht : (pc : Int) + off = (tgt : Int)) (hn : pc + 3 = nx) : mi_Ok own cc nL ini pc (mi_b1 (fun x => decide (x < 0)) tgt nx) := by
  intro al LS xs lo st h x hf
  subst hn
  unfold mi_b1 at hf
  split at hf
  · next x0 r =>
    cases hf
    refine ⟨⟨Nat.le_refl _, Nat.le_refl _⟩, fun b bs cI cL D p l e R s m args below meth c Q kc ks n0 z0 X hal _ _ _ _ hW H locs ls hR hh hS => ?_⟩
    have hW1 := hW H locs ls hR hh hS
    dsimp only at hW1
    refine lv_if_lt X.1 X.2.1 d ht (fun hc0 => ?_) (fun hc0 => ?_)
    · rw [if_pos (by simp [hc0])] at hW1; exact hW1
    · rw [if_neg (by simp [hc0])] at hW1; exact hW1
  · cases hf
theorem mi_icmp_lt_ok {off : Int} (d : decode cc pc = .ok (.if_icmp .lt off, 3)) (ht : (pc : Int) + off = (tgt : Int)) (hn : pc + 3 = nx) : mi_Ok own cc nL ini pc (mi_b2 (fun x y => decide (x < y)) tgt nx) := by
  intro al LS xs lo st h x hf
  subst hn
  unfold mi_b2 at hf
  split at hf
  · next y0 x0 r =>
    cases hf
    refine ⟨⟨Nat.le_refl _, Nat.le_refl _⟩, fun b bs cI cL D p l e R s m args below meth c Q kc ks n0 z0 X hal _ _ _ _ hW H locs ls hR hh hS => ?_⟩
    have hW1 := hW H locs ls hR hh hS
    dsimp only at hW1
    refine lv_icmp_lt X.1 X.2.1 d ht (fun hc0 => ?_) (fun hc0 => ?_)
    · rw [if_pos (by simp [hc0])] at hW1; exact hW1
    · rw [if_neg (by simp [hc0])] at hW1; exact hW1
  · cases hf
theorem mi_if_ge_ok {off : Int} (d : decode cc pc = .ok (.ifCond .ge off, 3)) (ht : (pc : Int) + off = (tgt : Int)) (hn : pc + 3 = nx) : mi_Ok own cc nL ini pc (mi_b1 (fun x => decide (0 ≤ x)) tgt nx) := by
  intro al LS xs lo st h x hf
  subst hn
  unfold mi_b1 at hf
  split at hf
  · next x0 r =>
    cases hf
    refine ⟨⟨Nat.le_refl _, Nat.le_refl _⟩, fun b bs cI cL D p l e R s m args below meth c Q kc ks n0 z0 X hal _ _ _ _ hW H locs ls hR hh hS => ?_⟩
    have hW1 := hW H locs ls hR hh hS
    dsimp only at hW1
    refine lv_if_ge X.1 X.2.1 d ht (fun hc0 => ?_) (fun hc0 => ?_)
    · rw [if_pos (by simp [hc0])] at hW1; exact hW1
    · rw [if_neg (by simp [hc0])] at hW1; exact hW1
  · cases hf
theorem mi_icmp_ge_ok {off : Int} (d : decode cc pc = .ok (.if_icmp .ge off, 3)) (ht : (pc : Int) + off = (tgt : Int)) (hn : pc + 3 = nx) : mi_Ok own cc nL ini pc (mi_b2 (fun x y => decide (y ≤ x)) tgt nx) := by
  intro al LS xs lo st h x hf
  subst hn
  unfold mi_b2 at hf
  split at hf
  · next y0 x0 r =>
    cases hf
    refine ⟨⟨Nat.le_refl _, Nat.le_refl _⟩, fun b bs cI cL D p l e R s m args below meth c Q kc ks n0 z0 X hal _ _ _ _ hW H locs ls hR hh hS => ?_⟩
    have hW1 := hW H locs ls hR hh hS
    dsimp only at hW1
    refine lv_icmp_ge X.1 X.2.1 d ht (fun hc0 => ?_) (fun hc0 => ?_)
    · rw [if_pos (by simp [hc0])] at hW1; exact hW1
    · rw [if_neg (by simp [hc0])] at hW1; exact hW1
  · cases hf
theorem mi_if_gt_ok {off : Int} (d : decode cc pc = .ok (.ifCond .gt off, 3)) (ht : (pc : Int) + off = (tgt : Int)) (hn : pc + 3 = nx) : mi_Ok own cc nL ini pc (mi_b1 (fun x => decide (0 < x)) tgt nx) := by
  intro al LS xs lo st h x hf
  subst hn
  unfold mi_b1 at hf
  split at hf
  · next x0 r =>
    cases hf
    refine ⟨⟨Nat.le_refl _, Nat.le_refl _⟩, fun b bs cI cL D p l e R s m args below meth c Q kc ks n0 z0 X hal _ _ _ _ hW H locs ls hR hh hS => ?_⟩
    have hW1 := hW H locs ls hR hh hS
    dsimp only at hW1
    refine lv_if_gt X.1 X.2.1 d ht (fun hc0 => ?_) (fun hc0 => ?_)
    · rw [if_pos (by simp [hc0])] at hW1; exact hW1
    · rw [if_neg (by simp [hc0])] at hW1; exact hW1
  · cases hf
theorem mi_icmp_gt_ok {off : Int} (d : decode cc pc = .ok (.if_icmp .gt off, 3)) (ht : (pc : Int) + off = (tgt : Int)) (hn : pc + 3 = nx) : mi_Ok own cc nL ini pc (mi_b2 (fun x y => decide (y < x)) tgt nx) := by
  intro al LS xs lo st h x hf
  subst hn
  unfold mi_b2 at hf
  split at hf
  · next y0 x0 r =>
    cases hf
    refine ⟨⟨Nat.le_refl _, Nat.le_refl _⟩, fun b bs cI cL D p l e R s m args below meth c Q kc ks n0 z0 X hal _ _ _ _ hW H locs ls hR hh hS => ?_⟩
    have hW1 := hW H locs ls hR hh hS
    dsimp only at hW1
    refine lv_icmp_gt X.1 X.2.1 d ht (fun hc0 => ?_) (fun hc0 => ?_)
    · rw [if_pos (by simp [hc0])] at hW1; exact hW1
    · rw [if_neg (by simp [hc0])] at hW1; exact hW1
  · cases hf
theorem mi_if_le_ok {off : Int} (d : decode cc pc = .ok (.ifCond .le off, 3)) (ht : (pc : Int) + off = (tgt : Int)) (hn : pc + 3 = nx) : mi_Ok own cc nL ini pc (mi_b1 (fun x => decide (x ≤ 0)) tgt nx) := by
  intro al LS xs lo st h x hf
  subst hn
  unfold mi_b1 at hf
  split at hf
  · next x0 r =>
    cases hf
    refine ⟨⟨Nat.le_refl _, Nat.le_refl _⟩, fun b bs cI cL D p l e R s m args below meth c Q kc ks n0 z0 X hal _ _ _ _ hW H locs ls hR hh hS => ?_⟩
    have hW1 := hW H locs ls hR hh hS
    dsimp only at hW1
    refine lv_if_le X.1 X.2.1 d ht (fun hc0 => ?_) (fun hc0 => ?_)
    · rw [if_pos (by simp [hc0])] at hW1; exact hW1
    · rw [if_neg (by simp [hc0])] at hW1; exact hW1
  · cases hf
theorem mi_icmp_le_ok {off : Int} (d : decode cc pc = .ok (.if_icmp .le off, 3)) (ht : (pc : Int) + off = (tgt : Int)) (hn : pc + 3 = nx) : mi_Ok own cc nL ini pc (mi_b2 (fun x y => decide (x ≤ y)) tgt nx) := by
  intro al LS xs lo st h x hf
  subst hn
  unfold mi_b2 at hf
  split at hf
  · next y0 x0 r =>
    cases hf
    refine ⟨⟨Nat.le_refl _, Nat.le_refl _⟩, fun b bs cI cL D p l e R s m args below meth c Q kc ks n0 z0 X hal _ _ _ _ hW H locs ls hR hh hS => ?_⟩
    have hW1 := hW H locs ls hR hh hS
    dsimp only at hW1
    refine lv_icmp_le X.1 X.2.1 d ht (fun hc0 => ?_) (fun hc0 => ?_)
    · rw [if_pos (by simp [hc0])] at hW1; exact hW1
    · rw [if_neg (by simp [hc0])] at hW1; exact hW1
  · cases hf
theorem mi_goto_ok {off : Int} (d : decode cc pc = .ok (.goto off, 3)) (ht : (pc : Int) + off = (tgt : Int)) : mi_Ok own cc nL ini pc (mi_go tgt) := by
  intro al LS xs lo st h x hf
  cases hf
  refine ⟨⟨Nat.le_refl _, Nat.le_refl _⟩, fun b bs cI cL D p l e R s m args below meth c Q kc ks n0 z0 X hal _ _ _ _ hW H locs ls hR hh hS => ?_⟩
  exact lv_goto X.1 X.2.1 d ht (hW H locs ls hR hh hS)
end MI2
end
section
/-! STEPS ON THE HEAP. -/
section MI3
variable {own : String} {cc : ByteArray} {nL : Nat} {ini : Bool} {pc nx tgt : Nat}
def mi_okT (ty : FieldType) : Bool := match ty with
  | .int => true
  | .boolean => true
  | .long => true
  | .object _ => true
  | .array _ => true
  | _ => false
theorem mi_fit {b bs : Nat} {ty : FieldType} {v : Value} (hT : mi_okT ty = true) (h : fits ty v = true) : fits ty (mi_v b bs v) = true ∧ narrow ty (mi_v b bs v) = mi_v b bs v := by
  cases ty <;> first | (cases hT; done) | skip
  case boolean =>
    cases v <;> first | (simp [fits] at h; done) | skip
    next x =>
      simp only [fits, Bool.or_eq_true, beq_iff_eq] at h
      rcases h with rfl | rfl
      · show fits .boolean (.int 0) = true ∧ narrow .boolean (.int 0) = .int 0
        decide
      · show fits .boolean (.int 1) = true ∧ narrow .boolean (.int 1) = .int 1
        decide
  all_goals cases v <;> first | (simp [fits] at h; done) | exact ⟨rfl, rfl⟩
theorem mi_at {b bs : Nat} {cI cL : ClassId} {h : mH} {a : Nat} {c : mC} (ha : h[a]? = some c) : (mi_w b bs cI cL 0 h)[a]? = some (b + a, mi_e b bs cI cL c) := by
  rw [mi_w_get, ha]
  simp
theorem mi_set {b bs : Nat} {cI cL : ClassId} (h : mH) (a : Nat) (c : mC) : (mi_w b bs cI cL 0 h).set a (b + a, mi_e b bs cI cL c) = mi_w b bs cI cL 0 (h.set a c) := by
  have := mi_w_set (b := b) (bs := bs) (cI := cI) (cL := cL) h 0 a c
  rwa [Nat.zero_add] at this
def mi_get (ci k nx : Nat) : mF := fun _ _ _ lo st h => match st with
  | .ref a :: r => (match h[a]? with
    | some (.inl (c, fs)) => if c = ci then (match fs[k]? with
      | some v => some (nx, lo, v :: r, h)
      | none => none) else none
    | _ => none)
  | _ => none
def mi_put (ci k : Nat) (ty : FieldType) (nx : Nat) : mF := fun _ _ _ lo st h => match st with
  | v :: .ref a :: r => (match h[a]? with
    | some (.inl (c, fs)) => if c = ci ∧ fits ty v = true ∧ k < fs.length then some (nx, lo, r, h.set a (.inl (c, fs.set k v))) else none
    | _ => none)
  | _ => none
theorem mi_get_ok {index ci k : Nat} {fty : FieldType} {fin : Bool} (d : decode cc pc = .ok (.getfield index, 3)) (hF : mi_FL own index ci k fty fin) (hn : pc + 3 = nx) : mi_Ok own cc nL ini pc (mi_get ci k nx) := by
  intro al LS xs lo st h x hf
  subst hn
  unfold mi_get at hf
  split at hf
  · next a r =>
    split at hf
    · next c1 fs ha =>
      split at hf
      · next hc =>
        subst hc
        split at hf
        · next v hv =>
          cases hf
          refine ⟨⟨Nat.le_refl _, Nat.le_refl _⟩, fun b bs cI cL D p l e R s m args below meth c Q kc ks n0 z0 X hal _ _ _ _ hW H locs ls hR hh hS => ?_⟩
          obtain ⟨C, T, N, ty, ⟨hcl, hin, hty, hnm⟩, hk, -, -, -, hlk⟩ := hF
          have hv1 : (fs.map (mi_v b bs))[k]? = some (mi_v b bs v) := by rw [List.getElem?_map, hv]; rfl
          rcases hlk with hlk | ⟨host, hlk⟩
          · exact va_get (D := D) X.1 X.2.1 X.2.2.2.2.1 hin X.2.2.2.1 X.2.2.2.2.2.1.1 hR a (mi_at ha) hcl k hk (X.2.2.2.2.1 _ hlk) (fun _ h9 => h9) hv1 d (hW H locs ls hR hh hS)
          · exact va_getN (D := D) X.1 X.2.1 X.2.2.2.2.1 hin X.2.2.2.1 X.2.2.2.2.2.1.1 hR a (mi_at ha) hcl k hk (va_Nw.use rfl (X.2.2.2.2.2.1.2.1 _ hlk)) (fun _ h9 => h9) hv1 d (hW H locs ls hR hh hS)
        · cases hf
      · cases hf
    · cases hf
  · cases hf
theorem mi_put_ok {index ci k : Nat} {fty : FieldType} (d : decode cc pc = .ok (.putfield index, 3)) (hF : mi_FL own index ci k fty false) (hT : mi_okT fty = true) (hn : pc + 3 = nx) : mi_Ok own cc nL ini pc (mi_put ci k fty nx) := by
  intro al LS xs lo st h x hf
  subst hn
  unfold mi_put at hf
  split at hf
  · next v a r =>
    split at hf
    · next c1 fs ha =>
      split at hf
      · next hc =>
        obtain ⟨hc, hfv, hkl⟩ := hc
        subst hc
        cases hf
        have hz : mi_z (h.set a (.inl (c1, fs.set k v))) = mi_z h := mi_z_set h a _ _ ha (by simp [mi_zc])
        have hl : (h.set a (.inl (c1, fs.set k v) : mC)).length = h.length := List.length_set
        refine ⟨⟨by dsimp only; rw [hl]; exact Nat.le_refl _, by dsimp only; rw [hz]; exact Nat.le_refl _⟩, fun b bs cI cL D p l e R s m args below meth c Q kc ks n0 z0 X hal _ _ _ _ hW H locs ls hR hh hS => ?_⟩
        obtain ⟨C, T, N, ty, ⟨hcl, hin, hty, hnm⟩, hk, hft, hfi, hdc, hlk⟩ := hF
        have hfit := mi_fit (b := b) (bs := bs) hT hfv
        have hd : parseFieldDescriptor (T k).2.2.1 = some fty := by rw [hty k hk, hft]
        have hkk : ∀ (H1 : Heap) (locs1 : List Loc), va_P D mi_cl ((mi_w b bs cI cL 0 h).set a (b + a, .inr (c1, (fs.map (mi_v b bs)).set k (mi_v b bs v)))) H1 → va_S (fun q => b ≤ q) s.heap H1 locs1 → W p l e R s m args below meth c H1 locs1 (h.length + kc - n0) (mi_z h + ks - z0) Q (F0 m (pc + 3) ls (r.map (mi_v b bs))) := by
          intro H1 locs1 hP1 hS1
          have e1 : (mi_w b bs cI cL 0 h).set a (b + a, .inr (c1, (fs.map (mi_v b bs)).set k (mi_v b bs v))) = mi_w b bs cI cL 0 (h.set a (.inl (c1, fs.set k v))) := by
            rw [← mi_set]
            simp [mi_e, List.map_set]
          rw [e1] at hP1
          have := hW H1 locs1 ls hP1 hh hS1
          dsimp only at this
          rw [hl, hz] at this
          exact this
        have hkl1 : k < (fs.map (mi_v b bs)).length := by simpa using hkl
        rcases hlk with hlk | ⟨host, hlk⟩
        · exact va_put (D := D) X.1 X.2.1 X.2.2.2.2.1 hin ty hty hnm X.2.2.2.1 X.2.2.2.2.2.1.1 hR (mi_w_D h) hS a (mi_at ha) hcl k hk (X.2.2.2.2.1 _ hlk) (fun _ h9 => h9) hfi hd hfit.2 hfit.1 hkl1 d (fun H1 locs1 hP1 _ hS1 => hkk H1 locs1 hP1 hS1)
        · exact va_putN (D := D) X.1 X.2.1 X.2.2.2.2.1 hin ty hty hnm X.2.2.2.1 X.2.2.2.2.2.1.1 hR (mi_w_D h) hS a (mi_at ha) hcl k hk (va_Nw.use rfl (X.2.2.2.2.2.1.2.1 _ hlk)) (fun _ h9 => h9) hfi hd hfit.2 hfit.1 hkl1 d (fun H1 locs1 hP1 _ hS1 => hkk H1 locs1 hP1 hS1)
      · cases hf
    · cases hf
  · cases hf
theorem mi_putF_ok {index ci k : Nat} {fty : FieldType} (d : decode cc pc = .ok (.putfield index, 3)) (hF : mi_FL own index ci k fty true) (hT : mi_okT fty = true) (hi : ini = true) (ho : ∀ C T N, mi_cl[ci]? = some (C, T, N) → C = own) (hg : ∀ C T N, mi_cl[ci]? = some (C, T, N) → Cond.fieldLink own index (T k).1 (T k).2.1 (T k).2.2.1 ∈ mi_good) (hn : pc + 3 = nx) : mi_Ok own cc nL ini pc (mi_put ci k fty nx) := by
  intro al LS xs lo st h x hf
  subst hn
  unfold mi_put at hf
  split at hf
  · next v a r =>
    split at hf
    · next c1 fs ha =>
      split at hf
      · next hc =>
        obtain ⟨hc, hfv, hkl⟩ := hc
        subst hc
        cases hf
        have hz : mi_z (h.set a (.inl (c1, fs.set k v))) = mi_z h := mi_z_set h a _ _ ha (by simp [mi_zc])
        have hl : (h.set a (.inl (c1, fs.set k v) : mC)).length = h.length := List.length_set
        refine ⟨⟨by dsimp only; rw [hl]; exact Nat.le_refl _, by dsimp only; rw [hz]; exact Nat.le_refl _⟩, fun b bs cI cL D p l e R s m args below meth c Q kc ks n0 z0 X hal _ _ _ _ hW H locs ls hR hh hS => ?_⟩
        obtain ⟨C, T, N, ty, ⟨hcl, hin, hty, hnm⟩, hk, hft, hfi, hdc, hlk⟩ := hF
        have hfit := mi_fit (b := b) (bs := bs) hT hfv
        have hd : parseFieldDescriptor (T k).2.2.1 = some fty := by rw [hty k hk, hft]
        have hkk : ∀ (H1 : Heap) (locs1 : List Loc), va_P D mi_cl ((mi_w b bs cI cL 0 h).set a (b + a, .inr (c1, (fs.map (mi_v b bs)).set k (mi_v b bs v)))) H1 → va_S (fun q => b ≤ q) s.heap H1 locs1 → W p l e R s m args below meth c H1 locs1 (h.length + kc - n0) (mi_z h + ks - z0) Q (F0 m (pc + 3) ls (r.map (mi_v b bs))) := by
          intro H1 locs1 hP1 hS1
          have e1 : (mi_w b bs cI cL 0 h).set a (b + a, .inr (c1, (fs.map (mi_v b bs)).set k (mi_v b bs v))) = mi_w b bs cI cL 0 (h.set a (.inl (c1, fs.set k v))) := by
            rw [← mi_set]
            simp [mi_e, List.map_set]
          rw [e1] at hP1
          have := hW H1 locs1 ls hP1 hh hS1
          dsimp only at this
          rw [hl, hz] at this
          exact this
        have hkl1 : k < (fs.map (mi_v b bs)).length := by simpa using hkl
        exact va_putF (D := D) X.1 X.2.1 X.2.2.2.2.1 hin ty hty hnm X.2.2.2.1 X.2.2.2.2.2.1.1 hR (mi_w_D h) hS a (mi_at ha) hcl k hk (X.2.2.2.2.1 _ (hg C T N hcl)) (fun _ h9 => h9) hfi (X.2.2.2.2.2.2.2.1 hi) (by rw [hdc]; exact ho C T N hcl) hd hfit.2 hfit.1 hkl1 d (fun H1 locs1 hP1 _ hS1 => hkk H1 locs1 hP1 hS1)
      · cases hf
    · cases hf
  · cases hf
def mi_in (i : Int32) (n : Nat) : Bool := decide (0 ≤ i) && decide (i.toNatClampNeg < n)
theorem mi_in_vp {i : Int32} {n : Nat} (h : mi_in i n = true) : vp_in i n := by
  unfold mi_in at h
  simp only [Bool.and_eq_true, decide_eq_true_eq] at h
  intro q
  rcases q with q | q
  · exact absurd h.1 (Int32.not_le.mpr q)
  · omega
def mi_iald (nx : Nat) : mF := fun _ LS xs lo st h => match st with
  | .int i :: .ref a :: r => (match h[a]? with
    | some (.inr (.inl ys)) => if mi_in i ys.length = true then some (nx, lo, .int (ys.getD i.toNatClampNeg 0) :: r, h) else none
    | _ => none)
  | .int i :: .float _ :: r => if mi_in i LS = true then some (nx, lo, .int (xs i.toNatClampNeg) :: r, h) else none
  | _ => none
def mi_lald (nx : Nat) : mF := fun _ _ _ lo st h => match st with
  | .int i :: .ref a :: r => (match h[a]? with
    | some (.inr (.inr ys)) => if mi_in i ys.length = true then some (nx, lo, .long (ys.getD i.toNatClampNeg 0) :: r, h) else none
    | _ => none)
  | _ => none
def mi_iast (nx : Nat) : mF := fun _ _ _ lo st h => match st with
  | .int x :: .int i :: .ref a :: r => (match h[a]? with
    | some (.inr (.inl ys)) => if mi_in i ys.length = true then some (nx, lo, r, h.set a (.inr (.inl (ys.set i.toNatClampNeg x)))) else none
    | _ => none)
  | _ => none
def mi_last (nx : Nat) : mF := fun _ _ _ lo st h => match st with
  | .long x :: .int i :: .ref a :: r => (match h[a]? with
    | some (.inr (.inr ys)) => if mi_in i ys.length = true then some (nx, lo, r, h.set a (.inr (.inr (ys.set i.toNatClampNeg x)))) else none
    | _ => none)
  | _ => none
def mi_alen (nx : Nat) : mF := fun _ LS _ lo st h => match st with
  | .ref a :: r => (match h[a]? with
    | some (.inr (.inl ys)) => some (nx, lo, .int (Int32.ofNat ys.length) :: r, h)
    | _ => none)
  | .float _ :: r => some (nx, lo, .int (Int32.ofNat LS) :: r, h)
  | _ => none
theorem mi_iald_ok (d : decode cc pc = .ok (.iaload, 1)) (hn : pc + 1 = nx) : mi_Ok own cc nL ini pc (mi_iald nx) := by
  intro al LS xs lo st h x hf
  subst hn
  unfold mi_iald at hf
  split at hf
  · next i a r =>
    split at hf
    · next ys ha =>
      split at hf
      · next hi =>
        cases hf
        refine ⟨⟨Nat.le_refl _, Nat.le_refl _⟩, fun b bs cI cL D p l e R s m args below meth c Q kc ks n0 z0 X hal _ _ _ _ hW H locs ls hR hh hS => ?_⟩
        exact va_iald (D := D) X.1 X.2.1 X.2.2.2.2.2.1.1 hR a 0 (mi_at ha) rfl (mi_in_vp hi) d (hW H locs ls hR hh hS)
      · cases hf
    · cases hf
  · next i u r =>
    split at hf
    · next hi =>
      cases hf
      refine ⟨⟨Nat.le_refl _, Nat.le_refl _⟩, fun b bs cI cL D p l e R s m args below meth c Q kc ks n0 z0 X hal _ _ _ _ hW H locs ls hR hh hS => ?_⟩
      exact va_sld X.1 X.2.1 X.2.2.2.2.2.1.2.2.1 X.2.2.2.2.2.1.2.2.2.2.1 (Nat.not_le.mpr X.2.2.2.2.2.1.2.2.2.1) hS (mi_in_vp hi) d (hW H locs ls hR hh hS)
    · cases hf
  · cases hf
theorem mi_lald_ok (d : decode cc pc = .ok (.laload, 1)) (hn : pc + 1 = nx) : mi_Ok own cc nL ini pc (mi_lald nx) := by
  intro al LS xs lo st h x hf
  subst hn
  unfold mi_lald at hf
  split at hf
  · next i a r =>
    split at hf
    · next ys ha =>
      split at hf
      · next hi =>
        cases hf
        refine ⟨⟨Nat.le_refl _, Nat.le_refl _⟩, fun b bs cI cL D p l e R s m args below meth c Q kc ks n0 z0 X hal _ _ _ _ hW H locs ls hR hh hS => ?_⟩
        exact va_lald (D := D) X.1 X.2.1 X.2.2.2.2.2.1.1 hR a 1 (mi_at ha) rfl (mi_in_vp hi) d (hW H locs ls hR hh hS)
      · cases hf
    · cases hf
  · cases hf
theorem mi_alen_ok (d : decode cc pc = .ok (.arraylength, 1)) (hn : pc + 1 = nx) : mi_Ok own cc nL ini pc (mi_alen nx) := by
  intro al LS xs lo st h x hf
  subst hn
  unfold mi_alen at hf
  split at hf
  · next a r =>
    split at hf
    · next ys ha =>
      cases hf
      refine ⟨⟨Nat.le_refl _, Nat.le_refl _⟩, fun b bs cI cL D p l e R s m args below meth c Q kc ks n0 z0 X hal _ _ _ _ hW H locs ls hR hh hS => ?_⟩
      exact va_alen (D := D) X.1 X.2.1 X.2.2.2.2.2.1.1 hR a 0 (mi_at ha) rfl rfl d (hW H locs ls hR hh hS)
    · cases hf
  · next u r =>
    cases hf
    refine ⟨⟨Nat.le_refl _, Nat.le_refl _⟩, fun b bs cI cL D p l e R s m args below meth c Q kc ks n0 z0 X hal _ _ _ _ hW H locs ls hR hh hS => ?_⟩
    exact va_slen X.1 X.2.1 X.2.2.2.2.2.1.2.2.1 X.2.2.2.2.2.1.2.2.2.2.1 (Nat.not_le.mpr X.2.2.2.2.2.1.2.2.2.1) hS d (hW H locs ls hR hh hS)
  · cases hf
theorem mi_iast_ok (d : decode cc pc = .ok (.iastore, 1)) (hn : pc + 1 = nx) : mi_Ok own cc nL ini pc (mi_iast nx) := by
  intro al LS xs lo st h x hf
  subst hn
  unfold mi_iast at hf
  split at hf
  · next x0 i a r =>
    split at hf
    · next ys ha =>
      split at hf
      · next hi =>
        cases hf
        have hz : mi_z (h.set a (.inr (.inl (ys.set i.toNatClampNeg x0)))) = mi_z h := mi_z_set h a _ _ ha (by simp [mi_zc])
        have hl : (h.set a (.inr (.inl (ys.set i.toNatClampNeg x0)) : mC)).length = h.length := List.length_set
        refine ⟨⟨by dsimp only; rw [hl]; exact Nat.le_refl _, by dsimp only; rw [hz]; exact Nat.le_refl _⟩, fun b bs cI cL D p l e R s m args below meth c Q kc ks n0 z0 X hal _ _ _ _ hW H locs ls hR hh hS => ?_⟩
        refine va_iast (D := D) X.1 X.2.1 X.2.2.2.2.2.1.1 hR (mi_w_D h) hS a 0 (mi_at ha) rfl (mi_in_vp hi) d (fun H1 locs1 hP1 _ hS1 => ?_)
        have e1 : (mi_w b bs cI cL 0 h).set a (b + a, .inl (cI, ys.length, .inl (upd (fun j => ys.getD j 0) i.toNatClampNeg x0))) = mi_w b bs cI cL 0 (h.set a (.inr (.inl (ys.set i.toNatClampNeg x0)))) := by
          rw [← mi_set]
          have hlt : i.toNatClampNeg < ys.length := by
            unfold mi_in at hi
            simp only [Bool.and_eq_true, decide_eq_true_eq] at hi
            exact hi.2
          have hfn : (fun j => (ys.set i.toNatClampNeg x0).getD j 0) = upd (fun j => ys.getD j 0) i.toNatClampNeg x0 := by
            funext j
            unfold upd
            by_cases hj : j = i.toNatClampNeg
            · subst hj
              simp [List.getD, hlt]
            · rw [if_neg hj]
              simp [List.getD, List.getElem?_set_ne (Ne.symm hj)]
          simp only [mi_e, List.length_set, hfn]
        rw [e1] at hP1
        have := hW H1 locs1 ls hP1 hh hS1
        dsimp only at this
        rw [hl, hz] at this
        exact this
      · cases hf
    · cases hf
  · cases hf
theorem mi_last_ok (d : decode cc pc = .ok (.lastore, 1)) (hn : pc + 1 = nx) : mi_Ok own cc nL ini pc (mi_last nx) := by
  intro al LS xs lo st h x hf
  subst hn
  unfold mi_last at hf
  split at hf
  · next x0 i a r =>
    split at hf
    · next ys ha =>
      split at hf
      · next hi =>
        cases hf
        have hz : mi_z (h.set a (.inr (.inr (ys.set i.toNatClampNeg x0)))) = mi_z h := mi_z_set h a _ _ ha (by simp [mi_zc])
        have hl : (h.set a (.inr (.inr (ys.set i.toNatClampNeg x0)) : mC)).length = h.length := List.length_set
        refine ⟨⟨by dsimp only; rw [hl]; exact Nat.le_refl _, by dsimp only; rw [hz]; exact Nat.le_refl _⟩, fun b bs cI cL D p l e R s m args below meth c Q kc ks n0 z0 X hal _ _ _ _ hW H locs ls hR hh hS => ?_⟩
        refine va_last (D := D) X.1 X.2.1 X.2.2.2.2.2.1.1 hR (mi_w_D h) hS a 1 (mi_at ha) rfl (mi_in_vp hi) d (fun H1 locs1 hP1 _ hS1 => ?_)
        have e1 : (mi_w b bs cI cL 0 h).set a (b + a, .inl (cL, ys.length, .inr (.inl (vp_updL (fun j => ys.getD j 0) i.toNatClampNeg x0)))) = mi_w b bs cI cL 0 (h.set a (.inr (.inr (ys.set i.toNatClampNeg x0)))) := by
          rw [← mi_set]
          have hlt : i.toNatClampNeg < ys.length := by
            unfold mi_in at hi
            simp only [Bool.and_eq_true, decide_eq_true_eq] at hi
            exact hi.2
          have hfn : (fun j => (ys.set i.toNatClampNeg x0).getD j 0) = vp_updL (fun j => ys.getD j 0) i.toNatClampNeg x0 := by
            funext j
            unfold vp_updL
            by_cases hj : j = i.toNatClampNeg
            · subst hj
              simp [List.getD, hlt]
            · rw [if_neg hj]
              simp [List.getD, List.getElem?_set_ne (Ne.symm hj)]
          simp only [mi_e, List.length_set, hfn]
        rw [e1] at hP1
        have := hW H1 locs1 ls hP1 hh hS1
        dsimp only at this
        rw [hl, hz] at this
        exact this
      · cases hf
    · cases hf
  · cases hf
end MI3
end
section
/-! NEW CELLS; SWITCHES; the few JDK methods that are steps. -/
section MI4
variable {own : String} {cc : ByteArray} {nL : Nat} {ini : Bool} {pc nx tgt : Nat}
/-- where cells may still be made, the heap ends with the small one -/
theorem mi_exact {al : Bool} {b bs : Nat} {cI cL : ClassId} {D : va_G} {p : Program} {l : Launch} {e : Env} {R : Room} {s : State} {m : MethodId} {args : Array Value} {below : List Frame} {meth : Method} {c : Code} {T : State} {locs : List Loc} {h : mH} {n0 k z kc : Nat}
    (X : Stand p l e R s m args below meth c T locs k z) (hk : k = h.length + kc - n0) (hn : n0 ≤ h.length) (ha : al = true) (hal : al = true → s.heap.size = b + n0 ∧ kc = 0) (hR : mi_R b bs cI cL D h T.heap) (hS : s.heap.size ≤ T.heap.size) : T.heap.size = b + h.length := by
  have h1 := X.heapSize
  obtain ⟨hal1, hal2⟩ := hal ha
  have h2 := hR.size (by rw [hal1] at hS; omega)
  rw [hal1] at h1
  omega
def mi_new (ci : Nat) (fs : List Value) (nx : Nat) : mF := fun al _ _ lo st h => if al = true then some (nx, lo, .ref h.length :: st, h ++ [.inl (ci, fs)]) else none
def mi_defs (N : Nat) (ty : Nat → FieldType) (fs : List Value) : Bool := decide (fs.length = N) && (List.range N).all (fun j => decide (fs[j]? = some (defaultValue (ty j))))
theorem mi_dv (b bs : Nat) (ty : FieldType) (h : mi_okT ty = true) : mi_v b bs (defaultValue ty) = defaultValue ty := by
  cases ty <;> first | (cases h; done) | rfl
theorem mi_new_ok {index ci : Nat} {C : String} {T : u_T} {N : Nat} {ty : Nat → FieldType} {fs : List Value} (d : decode cc pc = .ok (.new index, 3)) (hC : mi_CF ci C T N ty) (hcl : Cond.classLink own index C ∈ mi_good) (hin : Cond.instantiable C N ∈ mi_good) (hini : Cond.initialized C ∈ mi_good)
    (hfs : mi_defs N ty fs = true) (hT : (List.range N).all (fun j => mi_okT (ty j)) = true) (hn : pc + 3 = nx) : mi_Ok own cc nL ini pc (mi_new ci fs nx) := by
  intro al LS xs lo st h x hf
  subst hn
  unfold mi_new at hf
  split at hf
  · next ha =>
    cases hf
    have hlen : fs.length = N := by
      unfold mi_defs at hfs
      simp only [Bool.and_eq_true, decide_eq_true_eq] at hfs
      exact hfs.1
    have hz : mi_z (h ++ [.inl (ci, fs)]) = mi_z h + N := by rw [mi_z_push]; simp [mi_zc, hlen]
    have hl : (h ++ [(.inl (ci, fs) : mC)]).length = h.length + 1 := by simp
    refine ⟨⟨by dsimp only; rw [hl]; omega, by dsimp only; rw [hz]; omega⟩, fun b bs cI cL D p l e R s m args below meth c Q kc ks n0 z0 X hal hn0 hz0 hc hs hW H locs ls hR hh hS => ?_⟩
    dsimp only at hc hs
    rw [hl] at hc
    rw [hz] at hs
    obtain ⟨hcl0, hws, hty, hnm⟩ := hC
    have hKn := X.2.2.2.2.2.1.1.1 ci _ hcl0
    intro T0 hT0 X0
    have hex : H.size = b + h.length := by
      rw [← hT0]
      exact mi_exact (D := D) X0 rfl hn0 ha hal (by rw [hT0]; exact hR) (by rw [hT0]; exact hS.1)
    refine (?_ : W p l e R s m args below meth c H locs (h.length + kc - n0) (mi_z h + ks - z0) Q (F0 m pc ls (st.map (mi_v b bs)))) T0 hT0 X0
    refine W.newcK (n := N) (g := F0 m pc ls (st.map (mi_v b bs))) X.1 X.2.1 X.2.2.2.1 (X.2.2.2.2.1 _ hcl) (X.2.2.2.2.1 _ hin) (X.2.2.2.2.1 _ hini) rfl d (by omega) (by omega) hKn.2.1 hex (fun H1 kC hkC e1 z1 o1 => ?_)
    have hP1 : mi_R b bs cI cL D (h ++ [.inl (ci, fs)]) H1 := by
      unfold mi_R
      rw [mi_w_push]
      have hk : ∀ (k : Nat) (x : Nat × va_E), (mi_w b bs cI cL 0 h)[k]? = some x → H1[x.1]? = H[x.1]? := fun k x hx => o1 x.1 (by have := (hR k x hx).lt; omega)
      refine (va_P.kept hR hk).app (fun k x hx => ?_)
      have hz : k < 1 := (List.getElem?_eq_some_iff.mp hx).1
      rw [show k = 0 by omega] at hx
      cases hx
      refine ⟨_, hcl0, ?_⟩
      have e0 : b + (0 + h.length) = b + h.length := by omega
      show t_OB (b + (0 + h.length)) _ _ _ _ _
      rw [e0]
      refine (u_born ty X.2.2.2.2.1 hws hKn hkC e1 hty).to (fun j hj => ?_)
      unfold mi_defs at hfs
      simp only [Bool.and_eq_true, decide_eq_true_eq, List.all_eq_true, List.mem_range] at hfs hT
      have h1 := hfs.2 j hj
      show defaultValue (ty j) = (fs.map (mi_v b bs)).getD j .null
      have h2 : (fs.map (mi_v b bs))[j]? = some (defaultValue (ty j)) := by
        rw [List.getElem?_map, h1]
        simp only [Option.map_some]
        rw [mi_dv b bs (ty j) (hT j hj)]
      rw [List.getD, h2]
      rfl
    have hS1 : va_S (fun q => b ≤ q) s.heap H1 locs := ⟨by have := hS.1; omega, fun q h1 h2 => (o1 q (by have := hS.1; omega)).trans (hS.2.1 q h1 h2), hS.2.2⟩
    have := hW H1 locs ls hP1 hh hS1
    dsimp only at this
    rw [hl, hz] at this
    have e1 : h.length + 1 + kc - n0 = h.length + kc - n0 + 1 := by omega
    have e2 : mi_z h + N + ks - z0 = mi_z h + ks - z0 + N := by omega
    rw [e1, e2] at this
    exact this
  · cases hf
def mi_newI (nx : Nat) : mF := fun al _ _ lo st h => match st with
  | .int n :: r => if al = true ∧ 0 ≤ n ∧ n.toNatClampNeg ≤ 1000000 then some (nx, lo, .ref h.length :: r, h ++ [.inr (.inl (List.replicate n.toNatClampNeg 0))]) else none
  | _ => none
theorem mi_newI_ok (d : decode cc pc = .ok (.newarray .int, 2)) (hA : Cond.arrayClass .int ∈ mi_good) (hn : pc + 2 = nx) : mi_Ok own cc nL ini pc (mi_newI nx) := by
  intro al LS xs lo st h x hf
  subst hn
  unfold mi_newI at hf
  split at hf
  · next n r =>
    split at hf
    · next hc0 =>
      obtain ⟨ha, hn0', hbig⟩ := hc0
      cases hf
      have hz : mi_z (h ++ [.inr (.inl (List.replicate n.toNatClampNeg 0))]) = mi_z h + n.toNatClampNeg := by rw [mi_z_push]; simp [mi_zc]
      have hl : (h ++ [(.inr (.inl (List.replicate n.toNatClampNeg 0)) : mC)]).length = h.length + 1 := by simp
      refine ⟨⟨by dsimp only; rw [hl]; omega, by dsimp only; rw [hz]; omega⟩, fun b bs cI cL D p l e R s m args below meth c Q kc ks n0 z0 X hal hn0 hz0 hc hs hW H locs ls hR hh hS => ?_⟩
      dsimp only at hc hs
      rw [hl] at hc
      rw [hz] at hs
      intro T0 hT0 X0
      have hex : H.size = b + h.length := by
        rw [← hT0]
        exact mi_exact (D := D) X0 rfl hn0 ha hal (by rw [hT0]; exact hR) (by rw [hT0]; exact hS.1)
      refine (?_ : W p l e R s m args below meth c H locs (h.length + kc - n0) (mi_z h + ks - z0) Q (F0 m pc ls (.int n :: r.map (mi_v b bs)))) T0 hT0 X0
      refine va_newaK (atype := .int) (N := n.toNatClampNeg) (g := F0 m pc ls (.int n :: r.map (mi_v b bs))) (rest := r.map (mi_v b bs)) X.1 X.2.1 (X.2.2.2.2.1 _ hA) rfl d rfl (Int32.not_lt.mpr hn0') rfl (by show n.toNatClampNeg * _ ≤ _; simp only [newarray.typeOf, componentBytes]; omega) (by omega) (by omega) hex (fun H1 cA e1 z1 o1 hAr hNm => ?_)
      have hcA : cA = cI := by
        have h1 := (X.2.2.2.2.2.1.1.2 0 _ rfl).2
        have h2 : s.vm.findClass ("[" ++ (.int : FieldType).toString) = some cI := h1
        exact Option.some.inj (hNm.symm.trans h2)
      rw [hcA] at e1
      have hP1 : mi_R b bs cI cL D (h ++ [.inr (.inl (List.replicate n.toNatClampNeg 0))]) H1 := by
        unfold mi_R
        rw [mi_w_push]
        have hk : ∀ (k : Nat) (x : Nat × va_E), (mi_w b bs cI cL 0 h)[k]? = some x → H1[x.1]? = H[x.1]? := fun k x hx => o1 x.1 (by have := (hR k x hx).lt; omega)
        refine (va_P.kept hR hk).app (fun k x hx => ?_)
        have hz : k < 1 := (List.getElem?_eq_some_iff.mp hx).1
        rw [show k = 0 by omega] at hx
        cases hx
        have e0 : b + (0 + h.length) = b + h.length := by omega
        show H1[b + (0 + h.length)]? = some (vp_cell _ _)
        rw [e0, e1]
        congr 1
        simp only [List.length_replicate, vp_cell]
        congr 1
        funext j
        have : (List.replicate n.toNatClampNeg (0 : Int32)).getD j 0 = 0 := by
          simp only [List.getD, List.getElem?_replicate]
          split <;> rfl
        rw [this]
        rfl
      have hS1 : va_S (fun q => b ≤ q) s.heap H1 locs := ⟨by have := hS.1; omega, fun q h1 h2 => (o1 q (by have := hS.1; omega)).trans (hS.2.1 q h1 h2), hS.2.2⟩
      have := hW H1 locs ls hP1 hh hS1
      dsimp only at this
      rw [hl, hz] at this
      have e1 : h.length + 1 + kc - n0 = h.length + kc - n0 + 1 := by omega
      have e2 : mi_z h + n.toNatClampNeg + ks - z0 = mi_z h + ks - z0 + n.toNatClampNeg := by omega
      rw [e1, e2] at this
      exact this
    · cases hf
  · cases hf
def mi_newL (nx : Nat) : mF := fun al _ _ lo st h => match st with
  | .int n :: r => if al = true ∧ 0 ≤ n ∧ n.toNatClampNeg ≤ 1000000 then some (nx, lo, .ref h.length :: r, h ++ [.inr (.inr (List.replicate n.toNatClampNeg 0))]) else none
  | _ => none
theorem mi_newL_ok (d : decode cc pc = .ok (.newarray .long, 2)) (hA : Cond.arrayClass .long ∈ mi_good) (hn : pc + 2 = nx) : mi_Ok own cc nL ini pc (mi_newL nx) := by
  intro al LS xs lo st h x hf
  subst hn
  unfold mi_newL at hf
  split at hf
  · next n r =>
    split at hf
    · next hc0 =>
      obtain ⟨ha, hn0', hbig⟩ := hc0
      cases hf
      have hz : mi_z (h ++ [.inr (.inr (List.replicate n.toNatClampNeg 0))]) = mi_z h + n.toNatClampNeg := by rw [mi_z_push]; simp [mi_zc]
      have hl : (h ++ [(.inr (.inr (List.replicate n.toNatClampNeg 0)) : mC)]).length = h.length + 1 := by simp
      refine ⟨⟨by dsimp only; rw [hl]; omega, by dsimp only; rw [hz]; omega⟩, fun b bs cI cL D p l e R s m args below meth c Q kc ks n0 z0 X hal hn0 hz0 hc hs hW H locs ls hR hh hS => ?_⟩
      dsimp only at hc hs
      rw [hl] at hc
      rw [hz] at hs
      intro T0 hT0 X0
      have hex : H.size = b + h.length := by
        rw [← hT0]
        exact mi_exact (D := D) X0 rfl hn0 ha hal (by rw [hT0]; exact hR) (by rw [hT0]; exact hS.1)
      refine (?_ : W p l e R s m args below meth c H locs (h.length + kc - n0) (mi_z h + ks - z0) Q (F0 m pc ls (.int n :: r.map (mi_v b bs)))) T0 hT0 X0
      refine va_newaK (atype := .long) (N := n.toNatClampNeg) (g := F0 m pc ls (.int n :: r.map (mi_v b bs))) (rest := r.map (mi_v b bs)) X.1 X.2.1 (X.2.2.2.2.1 _ hA) rfl d rfl (Int32.not_lt.mpr hn0') rfl (by show n.toNatClampNeg * _ ≤ _; simp only [newarray.typeOf, componentBytes]; omega) (by omega) (by omega) hex (fun H1 cA e1 z1 o1 hAr hNm => ?_)
      have hcA : cA = cL := by
        have h1 := (X.2.2.2.2.2.1.1.2 1 _ rfl).2
        have h2 : s.vm.findClass ("[" ++ (.long : FieldType).toString) = some cL := h1
        exact Option.some.inj (hNm.symm.trans h2)
      rw [hcA] at e1
      have hP1 : mi_R b bs cI cL D (h ++ [.inr (.inr (List.replicate n.toNatClampNeg 0))]) H1 := by
        unfold mi_R
        rw [mi_w_push]
        have hk : ∀ (k : Nat) (x : Nat × va_E), (mi_w b bs cI cL 0 h)[k]? = some x → H1[x.1]? = H[x.1]? := fun k x hx => o1 x.1 (by have := (hR k x hx).lt; omega)
        refine (va_P.kept hR hk).app (fun k x hx => ?_)
        have hz : k < 1 := (List.getElem?_eq_some_iff.mp hx).1
        rw [show k = 0 by omega] at hx
        cases hx
        have e0 : b + (0 + h.length) = b + h.length := by omega
        show H1[b + (0 + h.length)]? = some (vp_cell _ _)
        rw [e0, e1]
        congr 1
        simp only [List.length_replicate, vp_cell]
        congr 1
        funext j
        have : (List.replicate n.toNatClampNeg (0 : Int64)).getD j 0 = 0 := by
          simp only [List.getD, List.getElem?_replicate]
          split <;> rfl
        rw [this]
        rfl
      have hS1 : va_S (fun q => b ≤ q) s.heap H1 locs := ⟨by have := hS.1; omega, fun q h1 h2 => (o1 q (by have := hS.1; omega)).trans (hS.2.1 q h1 h2), hS.2.2⟩
      have := hW H1 locs ls hP1 hh hS1
      dsimp only at this
      rw [hl, hz] at this
      have e1 : h.length + 1 + kc - n0 = h.length + kc - n0 + 1 := by omega
      have e2 : mi_z h + n.toNatClampNeg + ks - z0 = mi_z h + ks - z0 + n.toNatClampNeg := by omega
      rw [e1, e2] at this
      exact this
    · cases hf
  · cases hf
def mi_sw (t : Int32 → Nat) : mF := fun _ _ _ lo st h => match st with
  | .int x :: r => some (t x, lo, r, h)
  | _ => none
def mi_tab (lo hi : Int) (ts : List Nat) (d : Nat) (x : Int32) : Nat := if x.toInt < lo ∨ hi < x.toInt then d else ts.getD (x.toInt - lo).toNat d
def mi_look (ps : List (Int × Nat)) (d : Nat) (x : Int32) : Nat := match ps with
  | [] => d
  | q :: t => if x.toInt = q.1 then q.2 else mi_look t d x
theorem mi_tab_ok {dflt lo0 hi0 : Int} {offs : Array Int} {len : Nat} {ts : List Nat} {dt : Nat} (d : decode cc pc = .ok (.tableswitch dflt lo0 hi0 offs, len)) (hd : (pc : Int) + dflt = (dt : Int)) (hlen : (ts.length : Int) = hi0 - lo0 + 1) (hts : offs.toList.map (fun o => (pc : Int) + o) = ts.map (fun (t : Nat) => (t : Int))) : mi_Ok own cc nL ini pc (mi_sw (mi_tab lo0 hi0 ts dt)) := by
  intro al LS xs lo st h x hf
  unfold mi_sw at hf
  split at hf
  · next x0 r =>
    cases hf
    refine ⟨⟨Nat.le_refl _, Nat.le_refl _⟩, fun b bs cI cL D p l e R s m args below meth c Q kc ks n0 z0 X hal _ _ _ _ hW H locs ls hR hh hS => ?_⟩
    have hW1 := hW H locs ls hR hh hS
    dsimp only at hW1
    by_cases hc : x0.toInt < lo0 ∨ hi0 < x0.toInt
    · refine lv_tableOut X.1 X.2.1 d hc hd ?_
      rw [show mi_tab lo0 hi0 ts dt x0 = dt from if_pos hc] at hW1
      exact hW1
    · have h1 : ¬ x0.toInt < lo0 := fun q => hc (Or.inl q)
      have h2 : ¬ hi0 < x0.toInt := fun q => hc (Or.inr q)
      have hj : (x0.toInt - lo0).toNat < ts.length := by omega
      have hk := congrArg (fun z => z[(x0.toInt - lo0).toNat]?) hts
      simp only [List.getElem?_map, List.getElem?_eq_getElem hj, Option.map_some] at hk
      cases ho : offs.toList[(x0.toInt - lo0).toNat]? with
      | none => rw [ho] at hk; cases hk
      | some off =>
        rw [ho] at hk
        have hk1 : (pc : Int) + off = ((ts[(x0.toInt - lo0).toNat] : Nat) : Int) := Option.some.inj hk
        refine lv_tableIn (off := off) X.1 X.2.1 d h1 h2 (by rw [← Array.getElem?_toList]; exact ho) hk1 ?_
        have e1 : mi_tab lo0 hi0 ts dt x0 = ts[(x0.toInt - lo0).toNat] := by
          unfold mi_tab
          rw [if_neg hc, List.getD, List.getElem?_eq_getElem hj]
          rfl
        rw [e1] at hW1
        exact hW1
  · cases hf
theorem mi_look_ok {dflt : Int} {ps : Array (Int × Int)} {len : Nat} {ts : List (Int × Nat)} {dt : Nat} (d : decode cc pc = .ok (.lookupswitch dflt ps, len)) (hp : (ps.toList.zip (ps.toList.drop 1)).all (fun (a, next) => a.1 < next.1) = true)
    (ho : ∀ x : Int32, (pc : Int) + Op.lookupswitch.offset ps.toList dflt x.toInt = (mi_look ts dt x : Int)) : mi_Ok own cc nL ini pc (mi_sw (mi_look ts dt)) := by
  intro al LS xs lo st h x hf
  unfold mi_sw at hf
  split at hf
  · next x0 r =>
    cases hf
    refine ⟨⟨Nat.le_refl _, Nat.le_refl _⟩, fun b bs cI cL D p l e R s m args below meth c Q kc ks n0 z0 X hal _ _ _ _ hW H locs ls hR hh hS => ?_⟩
    exact lv_lookup X.1 X.2.1 d hp rfl (ho x0) (hW H locs ls hR hh hS)
  · cases hf
def mi_obj (nx : Nat) : mF := fun _ _ _ lo st h => match st with
  | .ref _ :: r => if (r.map (fun v => v.category)).sum ≤ 20 then some (nx, lo, r, h) else none
  | _ => none
theorem mi_sum (b bs : Nat) (r : List Value) : ((r.map (mi_v b bs)).map (fun v => v.category)).sum = (r.map (fun v => v.category)).sum := by
  rw [List.map_map]
  congr 1
  exact List.map_congr_left (fun v _ => mi_v_cat b bs v)
theorem mi_obj_ok {index : Nat} (d : decode cc pc = .ok (.invokespecial index, 3)) (hl : Cond.methodLink own index objectInit ∈ mi_good) (hi : Cond.instanceMethod objectInit ∈ mi_good) (hc : Cond.code objectInit ⟨#[0xb1]⟩ 1 none ∈ mi_good) (hn : pc + 3 = nx) : mi_Ok own cc nL ini pc (mi_obj nx) := by
  intro al LS xs lo st h x hf
  subst hn
  unfold mi_obj at hf
  split at hf
  · next a r =>
    split at hf
    · next hr =>
      cases hf
      refine ⟨⟨Nat.le_refl _, Nat.le_refl _⟩, fun b bs cI cL D p l e R s m args below meth c Q kc ks n0 z0 X hal _ _ _ _ hW H locs ls hR hh hS => ?_⟩
      refine W.objInit (a := b + a) (rest := r.map (mi_v b bs)) X.1 X.2.1 X.2.2.2.1 (X.2.2.2.2.1 _ hl) (X.2.2.2.2.1 _ hi) (X.2.2.2.2.1 _ hc) rfl (by show ls.size = _; rw [hh.1, X.2.2.1]) rfl d X.2.2.2.2.2.2.2.2.2.1 (by
        show 2 * 0 + _ + 12 ≤ _
        rw [mi_sum]
        have := X.2.2.2.2.2.2.2.2.2.2.1
        omega) ?_
      exact hW H locs ls hR hh hS
    · cases hf
  · cases hf
def mi_mx (op : Int32 → Int32 → Int32) (nx : Nat) : mF := fun _ _ _ lo st h => match st with
  | .int y :: .int x :: r => if (r.map (fun v => v.category)).sum ≤ 20 then some (nx, lo, .int (op x y) :: r, h) else none
  | _ => none
theorem mi_mmax_ok {index : Nat} (d : decode cc pc = .ok (.invokestatic index, 3)) (hl : Cond.methodLink own index Lib.Math.max.name ∈ mi_good) (hs : Cond.static Lib.Math.max.name ∈ mi_good) (hi : Cond.initialized "java/lang/Math" ∈ mi_good) (hc : Cond.code Lib.Math.max.name Lib.Math.max.code 2 (some .int) ∈ mi_good) (hn : pc + 3 = nx) : mi_Ok own cc nL ini pc (mi_mx (fun x y => if x < y then y else x) nx) := by
  intro al LS xs lo st h x hf
  subst hn
  unfold mi_mx at hf
  split at hf
  · next y0 x0 r =>
    split at hf
    · next hr =>
      cases hf
      refine ⟨⟨Nat.le_refl _, Nat.le_refl _⟩, fun b bs cI cL D p l e R s m args below meth c Q kc ks n0 z0 X hal _ _ hcc hss hW H locs ls hR hh hS => ?_⟩
      refine va_mmax X.1 X.2.1 (by rw [X.2.2.1, hh.1]) X.2.2.2.1 (X.2.2.2.2.1 _ hl) (X.2.2.2.2.1 _ hs) (X.2.2.2.2.1 _ hi) (X.2.2.2.2.1 _ hc) X.2.2.2.2.2.2.2.2.2.1 (by
        rw [mi_sum]
        have := X.2.2.2.2.2.2.2.2.2.2.1
        omega) hcc hss d ?_
      exact hW H locs ls hR hh hS
    · cases hf
  · cases hf
theorem mi_mmin_ok {index : Nat} (d : decode cc pc = .ok (.invokestatic index, 3)) (hl : Cond.methodLink own index Lib.Math.min.name ∈ mi_good) (hs : Cond.static Lib.Math.min.name ∈ mi_good) (hi : Cond.initialized "java/lang/Math" ∈ mi_good) (hc : Cond.code Lib.Math.min.name Lib.Math.min.code 2 (some .int) ∈ mi_good) (hn : pc + 3 = nx) : mi_Ok own cc nL ini pc (mi_mx (fun x y => if y < x then y else x) nx) := by
  intro al LS xs lo st h x hf
  subst hn
  unfold mi_mx at hf
  split at hf
  · next y0 x0 r =>
    split at hf
    · next hr =>
      cases hf
      refine ⟨⟨Nat.le_refl _, Nat.le_refl _⟩, fun b bs cI cL D p l e R s m args below meth c Q kc ks n0 z0 X hal _ _ hcc hss hW H locs ls hR hh hS => ?_⟩
      refine va_mmin X.1 X.2.1 (by rw [X.2.2.1, hh.1]) X.2.2.2.1 (X.2.2.2.2.1 _ hl) (X.2.2.2.2.1 _ hs) (X.2.2.2.2.1 _ hi) (X.2.2.2.2.1 _ hc) X.2.2.2.2.2.2.2.2.2.1 (by
        rw [mi_sum]
        have := X.2.2.2.2.2.2.2.2.2.2.1
        omega) hcc hss d ?_
      exact hW H locs ls hR hh hS
    · cases hf
  · cases hf
end MI4
end
section
/-! RUNS of the small machine; methods; that a run is the machine's. -/
section MI5
/-- a call: the method's number, how many values, the receiver's kind, what a thrown exception answers -/
abbrev mA : Type := Nat × Nat × Option Nat × List (String × Int32)
abbrev mE : Type := mF ⊕ (Nat ⊕ (mA ⊕ String))
abbrev mT : Type := List (Nat × mE)
/-- a method: name, bytes, locals, answer's type, table of handlers, code -/
abbrev mD : Type := MethodName × ByteArray × Nat × Option FieldType × List (Nat × Nat × Nat × Nat) × mT
abbrev mQ : Type := Nat → List Value → mH → mR × mH → Prop
def mi_fnd : mT → Nat → Option mE
  | [], _ => none
  | q :: t, pc => if q.1 = pc then some q.2 else mi_fnd t pc
theorem mi_fnd_mem : ∀ (t : mT) (pc : Nat) (i : mE), mi_fnd t pc = some i → (pc, i) ∈ t
  | [], pc, i, h => by simp [mi_fnd] at h
  | q :: t, pc, i, h => by
    unfold mi_fnd at h
    split at h
    · next hq =>
      cases h
      subst hq
      exact List.mem_cons_self
    · exact List.mem_cons_of_mem _ (mi_fnd_mem t pc i h)
def mi_ret (k : Nat) (st : List Value) : Option (Option Value) := match k, st with
  | 0, [] => some none
  | 1, [.int x] => some (some (.int x))
  | 2, [.int x] => if x = 0 ∨ x = 1 then some (some (.int x)) else none
  | 3, [.ref a] => some (some (.ref a))
  | _, _ => none
/-- the receiver is an object of that kind -/
def mi_rcv (rk : Option Nat) (As : List Value) (h : mH) : Prop := match rk with
  | none => True
  | some ci => ∃ a fs, As.head? = some (.ref a) ∧ h[a]? = some (.inl (ci, fs))
def mi_aft (y : Nat) (hs : List (String × Int32)) (x r : mR × mH) (K : Option Value → Prop) : Prop := match x.1 with
  | .inl v => K v
  | .inr E => mi_thr.contains y = true ∧ match hs.lookup E with
    | some n => r = (.inl (some (.int n)), x.2)
    | none => hs = [] ∧ r = (.inr E, x.2)
def mi_run (t : mT) (al : Bool) (LS : Nat) (xs : Nat → Int32) (Call : mQ) : Nat → mS → mR × mH → Prop
  | 0, _, _ => False
  | n + 1, x, r => match mi_fnd t x.1 with
    | none => False
    | some (.inl f) => ∃ y, f al LS xs x.2.1 x.2.2.1 x.2.2.2 = some y ∧ mi_run t al LS xs Call n y r
    | some (.inr (.inl k)) => ∃ v, mi_ret k x.2.2.1 = some v ∧ r = (.inl v, x.2.2.2)
    | some (.inr (.inr (.inl c))) => ∃ As rest x1, x.2.2.1 = As.reverse ++ rest ∧ As.length = c.2.1 ∧ (rest.map (fun v => v.category)).sum ≤ 8 ∧ mi_rcv c.2.2.1 As x.2.2.2 ∧ Call c.1 As x.2.2.2 x1 ∧ mi_aft c.1 c.2.2.2 x1 r (fun v => mi_run t al LS xs Call n (x.1 + 3, x.2.1, v.toList ++ rest, x1.2) r)
    | some (.inr (.inr (.inr E))) => al = false ∧ x.2.2.1 = [] ∧ r = (.inr E, x.2.2.2)
def mi_sl : List Value → mL
  | [] => []
  | v :: l => (if v.category = 2 then [some v, none] else [some v]) ++ mi_sl l
def mi_ent (nL : Nat) (As : List Value) : mL := mi_sl As ++ List.replicate (nL - (mi_sl As).length) none
def mi_call (Ms : List mD) (al : Bool) (LS : Nat) (xs : Nat → Int32) : Nat → mQ
  | 0, _, _, _, _ => False
  | d + 1, y, As, h, r => match Ms[y]? with
    | none => False
    | some M => (mi_sl As).length ≤ M.2.2.1 ∧ (∀ E, r.1 = .inr E → r.2 = h) ∧ ∃ n, mi_run M.2.2.2.2.2 al LS xs (mi_call Ms al LS xs d) n (0, mi_ent M.2.2.1 As, [], h) r
theorem mi_sl_len {b bs : Nat} : ∀ (vs : List Value), (lg_sl (vs.map (mi_v b bs))).length = (mi_sl vs).length
  | [] => rfl
  | v :: l => by
    have h1 := mi_sl_len (b := b) (bs := bs) l
    unfold lg_sl at h1 ⊢
    simp only [List.map_cons, List.flatMap_cons, List.length_append, mi_sl, mi_v_cat, h1]
    by_cases hc : v.category = 2
    · simp [hc]
    · simp [hc]
theorem mi_sl_get {b bs : Nat} : ∀ (vs : List Value) (i : Nat) (v : Value), (mi_sl vs)[i]? = some (some v) → (lg_sl (vs.map (mi_v b bs)))[i]? = some (.val (mi_v b bs v))
  | [], i, v, h => by simp [mi_sl] at h
  | w :: l, i, v, h => by
    have ih := mi_sl_get (b := b) (bs := bs) l
    unfold lg_sl at ih ⊢
    simp only [List.map_cons, List.flatMap_cons, mi_sl, mi_v_cat] at h ⊢
    by_cases hc : w.category = 2
    · simp only [hc, if_true] at h ⊢
      match i, h with
      | 0, h => simp at h; subst h; simp
      | 1, h => simp at h
      | i + 2, h => simpa using ih i v (by simpa using h)
    · simp only [hc, if_false] at h ⊢
      match i, h with
      | 0, h => simp at h; subst h; simp
      | i + 1, h => simpa using ih i v (by simpa using h)
theorem mi_ent_has {b bs nL : Nat} {As : List Value} (h : (mi_sl As).length ≤ nL) : mi_has b bs ((lg_sl (As.map (mi_v b bs)) ++ List.replicate (nL - (lg_sl (As.map (mi_v b bs))).length) Slot.unset).toArray) nL (mi_ent nL As) := by
  have hl := lv_entry (As.map (mi_v b bs)) (n := nL) (by rw [mi_sl_len]; exact h)
  refine ⟨hl.1, hl.2.1, fun i v hi => ?_⟩
  unfold mi_ent at hi
  by_cases hc : i < (mi_sl As).length
  · rw [List.getElem?_append_left hc] at hi
    have := mi_sl_get (b := b) (bs := bs) As i v hi
    rw [List.getElem?_toArray, List.getElem?_append_left (by rw [mi_sl_len]; exact hc)]
    exact this
  · rw [List.getElem?_append_right (by omega), List.getElem?_replicate] at hi
    split at hi
    · cases hi
    · cases hi
/-- how a method starts and ends -/
def mi_Pc (al : Bool) (b bs : Nat) (cI cL : ClassId) (D : va_G) (LS : Nat) (xs : Nat → Int32) (As : List Value) (h : mH) : Array Value → State → Prop := fun a U =>
  a = (As.map (mi_v b bs)).toArray ∧ mi_R b bs cI cL D h U.heap ∧ mi_K b bs cI cL D LS xs U ∧ b ≤ U.heap.size ∧ (al = true → U.heap.size = b + h.length)
def mi_Qc (b bs : Nat) (cI cL : ClassId) (D : va_G) (v : Option Value) (h : mH) : Array Value → State → Outcome → State → Prop := fun _ st oc t =>
  (oc = .returned (v.map (mi_v b bs)) ∧ mi_R b bs cI cL D h t.heap) ∧ va_F (fun q => b ≤ q) st t
theorem mi_Pc.blind {al : Bool} {b bs : Nat} {cI cL : ClassId} {D : va_G} {LS : Nat} {xs : Nat → Int32} {As : List Value} {h : mH} : FrameBlind (mi_Pc al b bs cI cL D LS xs As h) := by
  intro a U g mk q
  obtain ⟨q1, q2, q3, q4, q5⟩ := q
  exact ⟨q1, q2, q3.calling g mk a, q4, q5⟩
def mi_rm (d mc ms : Nat) : Room := { frames := d + 6, cells := mc, slots := ms, locals := 40 * d + 200 }
def mi_ws (M : mD) : List Cond := .code M.1 M.2.1 M.2.2.1 M.2.2.2.1 :: mi_good
/-- a method of the list: its words -/
def mi_OkM (M : mD) : Prop := plainName M.1.cls = true ∧ Cond.code M.1 M.2.1 M.2.2.1 M.2.2.2.1 ∈ mi_good ∧ Cond.initialized M.1.cls ∈ mi_good ∧ M.2.2.1 ≤ 20 ∧ M.1.cls ≠ "java/lang/invoke/MethodHandle" ∧ M.1.cls ≠ "java/lang/invoke/VarHandle"
/-- a call's site -/
def mi_OkC (Ms : List mD) (own : String) (cc : ByteArray) (pc : Nat) (c : mA) : Prop := ∃ M : mD, Ms[c.1]? = some M ∧ mi_OkM M ∧ ∃ index n : Nat, (parseMethodDescriptor M.1.desc).map (fun d => d.parameters.length) = some n ∧
  ((decode cc pc = .ok (.invokevirtual index, 3) ∧ c.2.1 = n + 1 ∧ Cond.methodLink own index M.1 ∈ mi_good ∧ Cond.instanceMethod M.1 ∈ mi_good ∧ Cond.selects M.1.cls M.1 M.1 ∈ mi_good ∧ ∃ ci T N, c.2.2.1 = some ci ∧ mi_cl[ci]? = some (M.1.cls, T, N)) ∨
   (decode cc pc = .ok (.invokespecial index, 3) ∧ c.2.1 = n + 1 ∧ Cond.methodLink own index M.1 ∈ mi_good ∧ Cond.instanceMethod M.1 ∈ mi_good ∧ M.1.name = "<init>" ∧ M.2.2.2.1 = none ∧ ∃ ci, c.2.2.1 = some ci) ∨
   (decode cc pc = .ok (.invokestatic index, 3) ∧ c.2.1 = n ∧ Cond.static M.1 ∈ mi_good ∧ (Cond.methodLink own index M.1 ∈ mi_good ∨ ∃ host, Cond.methodLinkNest own index M.1 host ∈ mi_nw)))
def mi_OkR (ret : Option FieldType) (cc : ByteArray) (pc k : Nat) : Prop :=
  (k = 0 ∧ decode cc pc = .ok (.return_, 1) ∧ ret = none) ∨ (k = 1 ∧ decode cc pc = .ok (.ireturn, 1) ∧ ret = some .int) ∨ (k = 2 ∧ decode cc pc = .ok (.ireturn, 1) ∧ ret = some .boolean) ∨ (k = 3 ∧ decode cc pc = .ok (.areturn, 1) ∧ ∃ n, ret = some (.object n))
end MI5
end
section
section MI6
variable {p : Program} {l : Launch} {e : Env} {R : Room} {s : State} {m : MethodId} {args : Array Value} {below : List Frame} {meth : Method} {c : Code} {H : Heap} {locs : List Loc} {cells slots : Nat} {Q : State → Prop}
variable {al : Bool} {b bs : Nat} {cI cL : ClassId} {D : va_G} {LS : Nat} {xs : Nat → Int32} {own : String} {cc : ByteArray} {nL : Nat} {ini : Bool}
/-- behind a call that returned -/
theorem mi_callk {mc ms pc : Nat} {ls : Array Slot} {st0 rest : List Value} {v : Option Value} {h1 : mH} {a : Array Value} (hr : va_Run p l e R s m args below meth c H locs cells slots mc ms (F0 m pc ls st0) rest (mi_Qc b bs cI cL D v h1 a) (fun q => b ≤ q)) (hS : va_S (fun q => b ≤ q) s.heap H locs)
    (kk : ∀ (H1 : Heap) (locs1 : List Loc), mi_R b bs cI cL D h1 H1 → va_S (fun q => b ≤ q) s.heap H1 locs1 → W p l e R s m args below meth c H1 locs1 (cells + mc) (slots + ms) Q (F0 m (pc + 3) ls ((v.map (mi_v b bs)).toList ++ rest))) : W p l e R s m args below meth c H locs cells slots Q (F0 m pc ls st0) := by
  intro T hT X
  obtain ⟨v0, st₀, t, T', L, h0, X', hL, e1, e2, ⟨⟨hv, hb⟩, hz, hk⟩, st⟩ := hr T hT X
  cases hv
  rw [h0] at hz hk
  obtain ⟨t2, a1, b1⟩ := kk T'.heap (locs ++ L) (by rw [e1]; exact hb)
    ⟨Nat.le_trans hS.1 (by rw [e1]; exact hz), fun q h1 h2 => by rw [e1, hk q (Nat.lt_of_lt_of_le h1 hS.1) h2]; exact hS.2.1 q h1 h2, fun q hq => by
      rcases List.mem_append.mp hq with h | h
      · exact hS.2.2 q h
      · exact hL q h⟩ T' rfl X'
  exact ⟨t2, st t2 a1, b1⟩
theorem mi_goodIn {M : mD} (hM : mi_OkM M) : GoodIn mi_good (mi_ws M) := by
  intro w hw
  rcases List.mem_cons.mp hw with rfl | hw
  · exact ⟨hM.2.1, good_of_word (mi_good_ok hM.2.1)⟩
  · exact ⟨hw, good_of_word (mi_good_ok hw)⟩
/-- a call at its site, of a method with a contract, returning -/
theorem mi_callW {Ms : List mD} {pc d : Nat} {ca : mA} {M : mD} {As rest : List Value} {h h1 : mH} {v : Option Value} {kc ks n0 z0 : Nat} {lo : mL}
    (X : mi_X b bs cI cL D LS xs own cc nL ini p l R s m args meth c) (hal : al = true → s.heap.size = b + n0 ∧ kc = 0) (hC : mi_OkC Ms own cc pc ca) (hMs : Ms[ca.1]? = some M)
    (hM : Met l M.1 (mi_ws M) (mi_rm d (h1.length - h.length) (mi_z h1 - mi_z h)) (mi_Pc al b bs cI cL D LS xs As h) (mi_Qc b bs cI cL D v h1) (h1.length - h.length) (mi_z h1 - mi_z h) (fun q => b ≤ q))
    (hA : As.length = ca.2.1) (hr : (rest.map (fun v => v.category)).sum ≤ 8) (hrc : mi_rcv ca.2.2.1 As h) (hf : d + 7 ≤ R.frames) (hlo : 40 * (d + 1) + 200 ≤ R.locals)
    (hn0 : n0 ≤ h.length) (hz0 : z0 ≤ mi_z h) (hl1 : h.length ≤ h1.length) (hz1 : mi_z h ≤ mi_z h1) (hcl : h1.length + kc - n0 ≤ R.cells) (hsl : mi_z h1 + ks - z0 ≤ R.slots)
    (kk : mi_W b bs cI cL D nL p l e R s m args below meth c Q kc ks n0 z0 (pc + 3, lo, v.toList ++ rest, h1)) : mi_W b bs cI cL D nL p l e R s m args below meth c Q kc ks n0 z0 (pc, lo, As.reverse ++ rest, h) := by
  intro H locs ls hR hh hS T0 hT0 X0
  obtain ⟨M', hM', hMok, index, n, hpar, hcase⟩ := hC
  cases hMs.symm.trans hM'
  obtain ⟨hx, hb, hml, hown, hts, hK, hbs, hnm, hlk, hfr1, hlo1, hst⟩ := X
  have hex : al = true → H.size = b + h.length := fun ha => by
    rw [← hT0]
    exact mi_exact (D := D) X0 rfl hn0 ha hal (by rw [hT0]; exact hR) (by rw [hT0]; exact hS.1)
  have hPc : ∀ U : State, U.heap = H → s.WarmedH U.vm → mi_Pc al b bs cI cL D LS xs As h (As.map (mi_v b bs)).toArray U := fun U hU hW => ⟨rfl, by rw [hU]; exact hR, hK.warm hS hU hW, by rw [hU]; exact Nat.le_trans hbs hS.1, fun ha => by rw [hU]; exact hex ha⟩
  have hG := mi_goodIn hMok
  have hR2 : (mi_rm d (h1.length - h.length) (mi_z h1 - mi_z h)).frames + 1 ≤ R.frames ∧ 8 + (M.2.2.1 + 11) + (mi_rm d (h1.length - h.length) (mi_z h1 - mi_z h)).locals ≤ R.locals := by
    have := hMok.2.2.2.1
    exact ⟨by show d + 6 + 1 ≤ _; omega, by show 8 + (M.2.2.1 + 11) + (40 * d + 200) ≤ _; omega⟩
  have hfx : CallFix p m c cc nL s args mi_good own := ⟨hx, hb, hml, hown, hts⟩
  have hroom : (h.length + kc - n0) + (h1.length - h.length) ≤ R.cells ∧ (mi_z h + ks - z0) + (mi_z h1 - mi_z h) ≤ R.slots := ⟨by omega, by omega⟩
  have hgo : ∀ (H1 : Heap) (locs1 : List Loc), mi_R b bs cI cL D h1 H1 → va_S (fun q => b ≤ q) s.heap H1 locs1 → W p l e R s m args below meth c H1 locs1 ((h.length + kc - n0) + (h1.length - h.length)) ((mi_z h + ks - z0) + (mi_z h1 - mi_z h)) Q (F0 m (pc + 3) ls ((v.map (mi_v b bs)).toList ++ rest.map (mi_v b bs))) := by
    intro H1 locs1 hR1 hS1
    have h9 := kk H1 locs1 ls hR1 hh hS1
    dsimp only at h9
    have e1 : (h.length + kc - n0) + (h1.length - h.length) = h1.length + kc - n0 := by omega
    have e2 : (mi_z h + ks - z0) + (mi_z h1 - mi_z h) = mi_z h1 + ks - z0 := by omega
    have e3 : (v.toList ++ rest).map (mi_v b bs) = (v.map (mi_v b bs)).toList ++ rest.map (mi_v b bs) := by cases v <;> simp
    rw [e1, e2, ← e3]
    exact h9
  have hd : M.1.cls ≠ "java/lang/invoke/MethodHandle" ∧ M.1.cls ≠ "java/lang/invoke/VarHandle" ∧ (parseMethodDescriptor M.1.desc).map (fun d => d.parameters.length) = some n := ⟨hMok.2.2.2.2.1, hMok.2.2.2.2.2, hpar⟩
  have hsum : ((rest.map (mi_v b bs)).map (fun v => v.category)).sum ≤ 8 := by rw [mi_sum]; exact hr
  refine (?_ : W p l e R s m args below meth c H locs (h.length + kc - n0) (mi_z h + ks - z0) Q (F0 m pc ls ((As.reverse ++ rest).map (mi_v b bs)))) T0 hT0 X0
  rcases hcase with ⟨dg, hcn, hl, hin, hsel, ci, T, N, hci, hcl0⟩ | ⟨dg, hcn, hl, hin, hyn, hret, ci, hci⟩ | ⟨dg, hcn, hstt, hl⟩
  · rw [hci] at hrc
    obtain ⟨a, fs, ha, hfs⟩ := hrc
    cases As with
    | nil => cases ha
    | cons w As2 =>
      simp only [List.head?_cons, Option.some.injEq] at ha
      subst ha
      have hlen : (As2.map (mi_v b bs)).length = n := by simp at hA ⊢; omega
      refine mi_callk (va_runV (As := As2.map (mi_v b bs)) (rest := rest.map (mi_v b bs)) (b := b + a) hfx hM ⟨callB_of n hts hG rfl rfl rfl (hts _ hMok.2.2.1) (hts _ hl) hd hR2, hts _ hin, hts _ hsel⟩ ⟨mi_Pc.blind, va_recv hK.1 hR hcl0 (mi_at hfs), hPc⟩ rfl hlen (by rw [hh.1]) ?_ (by show 2 * 0 + _ ≤ 8; omega) dg hroom) hS hgo
      show List.map (mi_v b bs) ((Value.ref a :: As2).reverse ++ rest) = _
      simp [mi_v]
  · rw [hci] at hrc
    obtain ⟨a, fs, ha, hfs⟩ := hrc
    cases As with
    | nil => cases ha
    | cons w As2 =>
      simp only [List.head?_cons, Option.some.injEq] at ha
      subst ha
      have hlen : (As2.map (mi_v b bs)).length = n := by simp at hA ⊢; omega
      refine mi_callk (va_runI (As := As2.map (mi_v b bs)) (rest := rest.map (mi_v b bs)) (b := b + a) (maxL := M.2.2.1) (bytes := M.2.1) hfx hM ⟨callB_of (ret := none) n hts hG (by unfold mi_ws; rw [hret]) rfl rfl (hts _ hMok.2.2.1) (hts _ hl) hd hR2, hyn, hts _ hin⟩ ⟨mi_Pc.blind, hPc⟩ rfl hlen (by rw [hh.1]) ?_ (by show 2 * 0 + _ ≤ 8; omega) dg hroom) hS hgo
      show List.map (mi_v b bs) ((Value.ref a :: As2).reverse ++ rest) = _
      simp [mi_v]
  · have hlen : (As.map (mi_v b bs)).length = n := by simp at hA ⊢; omega
    rcases hl with hl | ⟨host, hl⟩
    · refine mi_callk (va_runS (As := As.map (mi_v b bs)) (rest := rest.map (mi_v b bs)) hfx hM ⟨callB_of n hts hG rfl rfl rfl (hts _ hMok.2.2.1) (hts _ hl) hd hR2, hts _ hstt⟩ ⟨mi_Pc.blind, hPc⟩ rfl hlen (by rw [hh.1]) ?_ (by show 2 * 0 + _ ≤ 8; omega) dg hroom) hS hgo
      show List.map (mi_v b bs) (As.reverse ++ rest) = _
      simp
    · refine mi_callk (va_runSN (As := As.map (mi_v b bs)) (rest := rest.map (mi_v b bs)) hfx hM ⟨va_cnB n hts hG rfl rfl rfl (hK.2.1 _ hl) (hts _ hMok.2.2.1) hd hR2, hts _ hstt, trivial⟩ ⟨mi_Pc.blind, hPc⟩ rfl hlen (by rw [hh.1]) ?_ (by show 2 * 0 + _ ≤ 8; omega) dg hroom) hS hgo
      show List.map (mi_v b bs) (As.reverse ++ rest) = _
      simp
end MI6
end
section
section MI7
def mi_OkE (Ms : List mD) (own : String) (cc : ByteArray) (nL : Nat) (ini : Bool) (ret : Option FieldType) (q : Nat × mE) : Prop := match q.2 with
  | .inl f => mi_Ok own cc nL ini q.1 f
  | .inr (.inl k) => mi_OkR ret cc q.1 k
  | .inr (.inr (.inl ca)) => mi_OkC Ms own cc q.1 ca
  | .inr (.inr (.inr _)) => True
/-- a method's code -/
def mi_OkB (Ms : List mD) (M : mD) : Prop := ∃ ini : Bool, (ini = true → M.1.name = "<init>") ∧ (∀ q ∈ M.2.2.2.2.2, mi_OkE Ms M.1.cls M.2.1 M.2.2.1 ini M.2.2.2.1 q) ∧ ∀ pc ca, (pc, .inr (.inr (.inl ca))) ∈ M.2.2.2.2.2 → ca.2.2.2 = []
def mi_Sd (Ms : List mD) (d : Nat) : Prop := ∀ (al : Bool) (LS : Nat) (xs : Nat → Int32) (y : Nat) (M : mD) (As : List Value) (h h1 : mH) (v : Option Value), Ms[y]? = some M → mi_OkM M → mi_call Ms al LS xs d y As h (.inl v, h1) →
  (h.length ≤ h1.length ∧ mi_z h ≤ mi_z h1) ∧ ∀ (b bs : Nat) (cI cL : ClassId) (D : va_G) (l : Launch), l.stackTraces = false →
    Met l M.1 (mi_ws M) (mi_rm d (h1.length - h.length) (mi_z h1 - mi_z h)) (mi_Pc al b bs cI cL D LS xs As h) (mi_Qc b bs cI cL D v h1) (h1.length - h.length) (mi_z h1 - mi_z h) (fun q => b ≤ q)
/-- what a run that returns says: nothing of the heap is lost, and the machine goes the same way -/
theorem mi_simR {Ms : List mD} {d : Nat} (hS : mi_Sd Ms d) {t : mT} {own : String} {cc : ByteArray} {nL : Nat} {ini : Bool} {ret : Option FieldType} (hok : ∀ q ∈ t, mi_OkE Ms own cc nL ini ret q)
    {al : Bool} {LS : Nat} {xs : Nat → Int32} {v : Option Value} {h1 : mH} : ∀ (n : Nat) (x : mS), mi_run t al LS xs (mi_call Ms al LS xs d) n x (.inl v, h1) →
    (x.2.2.2.length ≤ h1.length ∧ mi_z x.2.2.2 ≤ mi_z h1) ∧
    ∀ (b bs : Nat) (cI cL : ClassId) (D : va_G) (p : Program) (l : Launch) (e : Env) (R : Room) (s : State) (m : MethodId) (args : Array Value) (below : List Frame) (meth : Method) (c : Code) (Q : State → Prop) (kc ks n0 z0 : Nat),
      mi_X b bs cI cL D LS xs own cc nL ini p l R s m args meth c → (al = true → s.heap.size = b + n0 ∧ kc = 0) → d + 7 ≤ R.frames → 40 * (d + 1) + 200 ≤ R.locals → n0 ≤ x.2.2.2.length → z0 ≤ mi_z x.2.2.2 → h1.length + kc - n0 ≤ R.cells → mi_z h1 + ks - z0 ≤ R.slots →
      (∀ (pc k : Nat) (lo : mL) (st : List Value), (pc, .inr (.inl k)) ∈ t → mi_ret k st = some v → mi_W b bs cI cL D nL p l e R s m args below meth c Q kc ks n0 z0 (pc, lo, st, h1)) →
      (∀ (pc : Nat) (ca : mA) (lo : mL) (As rest : List Value) (E : String) (k : Int32), (pc, .inr (.inr (.inl ca))) ∈ t → As.length = ca.2.1 → (rest.map (fun v => v.category)).sum ≤ 8 → mi_rcv ca.2.2.1 As h1 → mi_call Ms al LS xs d ca.1 As h1 (.inr E, h1) → mi_thr.contains ca.1 = true → ca.2.2.2.lookup E = some k → v = some (.int k) → mi_W b bs cI cL D nL p l e R s m args below meth c Q kc ks n0 z0 (pc, lo, As.reverse ++ rest, h1)) →
      mi_W b bs cI cL D nL p l e R s m args below meth c Q kc ks n0 z0 x := by
  intro n
  induction n with
  | zero => intro x hx; exact absurd hx (by simp [mi_run])
  | succ n ih =>
    intro x hx
    obtain ⟨pc, lo, st, h⟩ := x
    unfold mi_run at hx
    split at hx
    · exact absurd hx id
    · next f hf =>
      obtain ⟨y, hy, hrun⟩ := hx
      have hq := hok _ (mi_fnd_mem t _ _ hf)
      have hm := hq al LS xs _ _ _ _ hy
      have hi := ih y hrun
      refine ⟨⟨Nat.le_trans hm.1.1 hi.1.1, Nat.le_trans hm.1.2 hi.1.2⟩, ?_⟩
      intro b bs cI cL D p l e R s m args below meth c Q kc ks n0 z0 X hal hfr hlo hn0 hz0 hcl hsl hret hcat
      have m1 := hm.1.1
      have m2 := hm.1.2
      have m3 := hi.1.1
      have m4 := hi.1.2
      refine hm.2 b bs cI cL D p l e R s m args below meth c Q kc ks n0 z0 X hal hn0 hz0 (by omega) (by omega) ?_
      exact hi.2 b bs cI cL D p l e R s m args below meth c Q kc ks n0 z0 X hal hfr hlo (by dsimp only at hn0 m1; omega) (by dsimp only at hz0 m2; omega) hcl hsl hret hcat
    · next k hf =>
      obtain ⟨w, hw, hr⟩ := hx
      simp only [Prod.mk.injEq, Sum.inl.injEq] at hr
      obtain ⟨rfl, rfl⟩ := hr
      refine ⟨⟨Nat.le_refl _, Nat.le_refl _⟩, ?_⟩
      intro b bs cI cL D p l e R s m args below meth c Q kc ks n0 z0 X hal hfr hlo hn0 hz0 hcl hsl hret hcat
      exact hret pc k lo st (mi_fnd_mem t _ _ hf) hw
    · next ca hf =>
      obtain ⟨As, rest, x1, hst, hA, hsum, hrc, hcall, haft⟩ := hx
      have hmem := mi_fnd_mem t _ _ hf
      have hq : mi_OkC Ms own cc pc ca := hok _ hmem
      obtain ⟨r1, h2⟩ := x1
      unfold mi_aft at haft
      cases r1 with
      | inr E =>
        dsimp only at haft
        obtain ⟨hth, haft⟩ := haft
        split at haft
        · next k hk =>
          simp only [Prod.mk.injEq, Sum.inl.injEq] at haft
          obtain ⟨rfl, rfl⟩ := haft
          have hsame : h1 = h := by
            revert hcall
            cases d with
            | zero => intro q; exact absurd q (by simp [mi_call])
            | succ d =>
              intro q
              unfold mi_call at q
              split at q
              · exact absurd q id
              · exact q.2.1 E rfl
          subst hsame
          refine ⟨⟨Nat.le_refl _, Nat.le_refl _⟩, ?_⟩
          intro b bs cI cL D p l e R s m args below meth c Q kc ks n0 z0 X hal hfr hlo hn0 hz0 hcl hsl hret hcat
          dsimp only at hst
          subst hst
          exact hcat pc ca lo As rest E k hmem hA hsum hrc hcall hth hk rfl
        · simp at haft
      | inl w =>
        dsimp only at haft
        obtain ⟨M, hMs, hMok, hrest⟩ := id hq
        have hc := hS al LS xs ca.1 M As h h2 w hMs hMok hcall
        have hi := ih _ haft
        have m1 := hc.1.1
        have m2 := hc.1.2
        have m3 := hi.1.1
        have m4 := hi.1.2
        dsimp only at m3 m4
        refine ⟨⟨Nat.le_trans m1 m3, Nat.le_trans m2 m4⟩, ?_⟩
        intro b bs cI cL D p l e R s m args below meth c Q kc ks n0 z0 X hal hfr hlo hn0 hz0 hcl hsl hret hcat
        dsimp only at hst hn0 hz0
        subst hst
        refine mi_callW X hal hq hMs (hc.2 b bs cI cL D l X.2.2.2.2.2.2.2.2.2.2.2) hA hsum hrc hfr hlo hn0 hz0 m1 m2 (by omega) (by omega) ?_
        exact hi.2 b bs cI cL D p l e R s m args below meth c Q kc ks n0 z0 X hal hfr hlo (by dsimp only; omega) (by dsimp only; omega) hcl hsl hret hcat
    · next E hf =>
      obtain ⟨-, -, hr⟩ := hx
      simp at hr
/-- a method's return -/
theorem mi_retW {ret : Option FieldType} {cc : ByteArray} {pc k : Nat} (hq : mi_OkR ret cc pc k) {st : List Value} {v : Option Value} (hv : mi_ret k st = some v) {b bs : Nat} {cI cL : ClassId} {D : va_G} {nL : Nat} {p : Program} {l : Launch} {e : Env} {R : Room} {s : State} {m : MethodId} {args : Array Value} {below : List Frame} {meth : Method} {c : Code} {kc ks n0 z0 mc ms : Nat} {lo : mL} {h1 : mH} (hmc : h1.length + kc - n0 ≤ mc) (hms : mi_z h1 + ks - z0 ≤ ms)
    (hx : p.tables.exec = Jvm.exec) (hb : c.code = cc) (hr : meth.sig.returnType = ret) (hlk : meth.locks = false) :
    mi_W b bs cI cL D nL p l e R s m args below meth c (MQ below (mi_Qc b bs cI cL D v h1) args s mc ms (fun q => b ≤ q)) kc ks n0 z0 (pc, lo, st, h1) := by
  intro H locs ls hR hh hS
  refine W.widen hmc hms ?_
  have hQ : ∀ t : State, t.heap = H → s.WarmedH t.vm → mi_Qc b bs cI cL D v h1 args s (.returned (v.map (mi_v b bs))) t := fun t ht _ => ⟨⟨rfl, by rw [ht]; exact hR⟩, hS.F ht⟩
  rcases hq with ⟨rfl, d, rfl⟩ | ⟨rfl, d, rfl⟩ | ⟨rfl, d, rfl⟩ | ⟨rfl, d, nn, rfl⟩
  · unfold mi_ret at hv
    split at hv <;> first | (cases hv; done) | skip
    all_goals first | (rename_i hk; cases hk; done) | skip
    all_goals (cases hv; exact W.vret hx hb hr hQ hS.2.2 d hlk)
  · unfold mi_ret at hv
    split at hv <;> first | (cases hv; done) | skip
    all_goals first | (rename_i hk; cases hk; done) | skip
    all_goals (cases hv; exact W.iret hx hb hr hQ hS.2.2 d hlk)
  · unfold mi_ret at hv
    split at hv <;> first | (cases hv; done) | skip
    all_goals first | (rename_i hk; cases hk; done) | skip
    all_goals
      split at hv
      · next hc =>
        cases hv
        refine W.zret hx hb hr ?_ hQ hS.2.2 d hlk
        rcases hc with rfl | rfl <;> decide
      · cases hv
  · unfold mi_ret at hv
    split at hv <;> first | (cases hv; done) | skip
    all_goals first | (rename_i hk; cases hk; done) | skip
    all_goals (cases hv; exact W.aret hx hb hr (Or.inl ⟨_, rfl⟩) (Or.inr ⟨_, rfl⟩) hQ hS.2.2 d hlk)
/-- THE SMALL MACHINE IS SOUND, for methods that return -/
theorem mi_sound {Ms : List mD} (hAll : ∀ (y : Nat) (M : mD), Ms[y]? = some M → mi_OkM M → mi_OkB Ms M) : ∀ d, mi_Sd Ms d := by
  intro d
  induction d with
  | zero => intro al LS xs y M As h h1 v _ _ hc; exact absurd hc (by simp [mi_call])
  | succ d ih =>
    intro al LS xs y M As h h1 v hMs hMok hc
    unfold mi_call at hc
    rw [hMs] at hc
    obtain ⟨hlen, -, n, hrun⟩ := hc
    obtain ⟨ini, hini, hok, hno⟩ := hAll y M hMs hMok
    have hsim := mi_simR ih hok n _ hrun
    refine ⟨hsim.1, ?_⟩
    intro b bs cI cL D l htr
    refine Met.ofW (cc := M.2.1) (maxL := M.2.2.1) (ret := M.2.2.2.1) hMok.1 rfl ?_
    intro p e s m args below meth c s₁ B hml hv
    obtain ⟨rfl, hR, hK, hbs, hex⟩ := hv
    have hts := atoms_spec (ws := mi_ws M) B.pre
    have hown : s.vm.findClass M.1.cls = some m.cls := findClass_of_methodNamed B.named
    have hx : mi_X b bs cI cL D LS xs M.1.cls M.2.1 M.2.2.1 ini p l (mi_rm (d + 1) (h1.length - h.length) (mi_z h1 - mi_z h)) s m (As.map (mi_v b bs)).toArray meth c := by
      refine ⟨B.exec, B.bytes, hml, hown, fun w hw => hts w (List.mem_cons_of_mem _ hw), hK, hbs, fun hi => ?_, B.notSynchronized, ?_, ?_, htr⟩
      · rw [← hini hi]
        exact (name_of_methodNamed B.named B.method).1
      · show 1 ≤ d + 1 + 6; omega
      · show 40 ≤ 40 * (d + 1) + 200; omega
    have hgo := hsim.2 b bs cI cL D p l e (mi_rm (d + 1) (h1.length - h.length) (mi_z h1 - mi_z h)) s m (As.map (mi_v b bs)).toArray below meth c (MQ below (mi_Qc b bs cI cL D v h1) (As.map (mi_v b bs)).toArray s (h1.length - h.length) (mi_z h1 - mi_z h) (fun q => b ≤ q)) 0 0 h.length (mi_z h) hx (fun q => ⟨hex q, rfl⟩) (by show d + 7 ≤ d + 1 + 6; omega) (by show 40 * (d + 1) + 200 ≤ 40 * (d + 1) + 200; omega) (Nat.le_refl _) (Nat.le_refl _) (Nat.le_refl _) (Nat.le_refl _)
      (fun pc k lo st hm hr => mi_retW (hok _ hm) hr (Nat.le_refl _) (Nat.le_refl _) B.exec B.bytes B.returns B.notSynchronized)
      (fun pc ca lo As rest E k hm _ _ _ _ _ hlk _ => by rw [hno pc ca hm] at hlk; cases hlk)
    rw [lg_entry_eq]
    have h9 := hgo s.heap [] _ hR (mi_ent_has hlen) va_S.rf
    dsimp only at h9
    simp only [Nat.add_zero, Nat.sub_self] at h9
    exact h9
end MI7
end
section
/-! An exception that comes into a method with a table of its own: the rows are gone through, each row's type is linked as it is met (it may have been linked before or not). -/
section CE0
variable {e : Env} {d : Bool} {acts : List Action} {S : State} {f : JFrame} {a : Addr} {QH : Handler → Pre} {EC : CtlPost}
/-- a row that covers the place: its type is linked; the exception is taken, or the next row is asked -/
theorem ce_row {x : ExceptionTableEntry} {t : List ExceptionTableEntry} {ct : ClassId} {cell : Cell} (hx : covers x f.pc = true) (h0 : x.catchType ≠ 0) (hl : S.vm.ClassLinks e.platform f.method.cls x.catchType ct)
    (hcell : S.heap[a]? = some cell) (hobj : ∀ k, cell.vm ≠ .statics k) (hk : ∃ k, S.vm.classes[cell.cls]? = some k) (hc : ∃ k, S.vm.classes[ct]? = some k) :
    wp (findHandler.go f a (x :: t)) QH EC e d acts S ↔ if S.vm.assignable cell.cls ct = true then QH (.found x.handlerPc) d acts (S.setVm (S.vm.noted f.method.cls x.catchType (.cls ct))) else wp (findHandler.go f a t) QH EC e d acts (S.setVm (S.vm.noted f.method.cls x.catchType (.cls ct))) := by
  have hx2 : (decide (x.startPc ≤ f.pc) && decide (f.pc < x.endPc)) = true := hx
  obtain ⟨w1, w2⟩ := (resolveClass_links e.toSetting hl).op (op := VmOp.resolveClass f.method.cls x.catchType) rfl
  have al : S.vm.Alike (S.vm.noted f.method.cls x.catchType (.cls ct)) := (Vm.Alike.refl S.vm).noted _ _ _
  obtain ⟨k1, hk1⟩ := hk
  obtain ⟨k2, hk2⟩ := hc
  obtain ⟨k3, hk3, -⟩ := al.2.2 _ _ hk1
  obtain ⟨k4, hk4, -⟩ := al.2.2 _ _ hk2
  have ea : (S.vm.noted f.method.cls x.catchType (.cls ct)).assignable cell.cls ct = S.vm.assignable cell.cls ct := al.assignable _ _
  cases hfit : S.vm.assignable cell.cls ct with
  | true =>
    rw [hfit] at ea
    simp [findHandler.go, hx2, h0, w1, w2, hcell, hobj, hk3, hk4, ea, VmOp.dirties, VmOp.acts]
  | false =>
    rw [hfit] at ea
    simp [findHandler.go, hx2, h0, w1, w2, hcell, hobj, hk3, hk4, ea, VmOp.dirties, VmOp.acts]
end CE0
section CE1
/-- all rows cover the place, and name classes by words; the first that takes the class takes it -/
theorem ce_rows {e : Env} {s : State} {f : JFrame} {a : Addr} {cell : Cell} (hobj : ∀ k, cell.vm ≠ .statics k) (hk0 : ∃ k, s.vm.classes[cell.cls]? = some k)
    (x : ExceptionTableEntry) (suf : List ExceptionTableEntry) (hx : covers x f.pc = true) (h0 : x.catchType ≠ 0) {ct : ClassId} (hl : s.vm.ClassLinks e.platform f.method.cls x.catchType ct) (hfit : s.vm.assignable cell.cls ct = true) :
    ∀ (pre : List ExceptionTableEntry) (S : State), s.WarmedH S.vm → S.heap[a]? = some cell → (∀ y ∈ pre, covers y f.pc = true ∧ y.catchType ≠ 0 ∧ ∃ cy, s.vm.ClassLinks e.platform f.method.cls y.catchType cy ∧ s.vm.assignable cell.cls cy = false) →
      ∃ vm', s.WarmedH vm' ∧ ∀ (QH : Handler → Pre) (EC : CtlPost) (d : Bool) (acts : List Action), wp (findHandler.go f a (pre ++ x :: suf)) QH EC e d acts S ↔ QH (.found x.handlerPc) d acts (S.setVm vm') := by
  intro pre
  induction pre with
  | nil =>
    intro S hW hcell _
    obtain ⟨k0, hk0⟩ := hk0
    obtain ⟨k1, hk1, -⟩ := hW.alike.2.2 _ _ hk0
    obtain ⟨dk, _, _, kt, hd, _, _, _, _, hkt, _, hopen⟩ := hl.here
    obtain ⟨kt1, hkt1, -⟩ := hW.alike.2.2 _ _ hkt
    refine ⟨_, hW.noted hd hopen (State.rightAt_cls hl), fun QH EC d acts => ?_⟩
    rw [List.nil_append, ce_row hx h0 (hW.classLinks hl) hcell hobj ⟨k1, hk1⟩ ⟨kt1, hkt1⟩, if_pos (by rw [hW.alike.assignable]; exact hfit)]
  | cons y ys ih =>
    intro S hW hcell hpass
    obtain ⟨hy, hy0, cy, hly, hno⟩ := hpass y List.mem_cons_self
    have hk00 := hk0
    obtain ⟨k0, hk0⟩ := hk0
    obtain ⟨k1, hk1, -⟩ := hW.alike.2.2 _ _ hk0
    obtain ⟨dk, _, _, kt, hd, _, _, _, _, hkt, _, hopen⟩ := hly.here
    obtain ⟨kt1, hkt1, -⟩ := hW.alike.2.2 _ _ hkt
    obtain ⟨vm', hW', hq⟩ := ih (S.setVm (S.vm.noted f.method.cls y.catchType (.cls cy))) (hW.noted hd hopen (State.rightAt_cls hly)) hcell (fun z hz => hpass z (List.mem_cons_of_mem _ hz))
    refine ⟨vm', hW', fun QH EC d acts => ?_⟩
    rw [List.cons_append, ce_row hy hy0 (hW.classLinks hly) hcell hobj ⟨k1, hk1⟩ ⟨kt1, hkt1⟩, if_neg (by rw [hW.alike.assignable, hno]; decide)]
    exact hq QH EC d acts
/-- one step of the unwinding: a handler is found, and the tables may know a class more -/
theorem ce_step {e : Env} {S : State} {a : Addr} {f : JFrame} {r : List Frame} {pc : Nat} {vm' : Vm} (hfind : ∀ (QH : Handler → Pre) (EC : CtlPost) (d : Bool) (acts : List Action), wp (findHandler f a) QH EC e d acts S ↔ QH (.found pc) d acts (S.setVm vm')) :
    (stepThrowing e S a (.java f :: r)).Is ((S.setVm vm').setFrames (.java { f with pc := pc, stack := [.ref a] } :: r)) [] := by
  simp only [stepThrowing, searchFrame, vmDo]
  generalize hr : Sem.go _ e false [] S = res
  obtain ⟨as, rfl, ha⟩ := Sem.eq_ok_of hr (a := Handler.found pc) (s' := S.setVm vm') (acts' := []) (by simp [hfind _ _ _ _])
  exact ⟨rfl, ha⟩
variable {p : Program} {l : Launch} {e : Env} {R : Room} {s : State} {m : MethodId} {args : Array Value} {below : List Frame} {meth : Method} {c : Code} {H : Heap} {locs : List Loc} {cells slots : Nat} {Q : State → Prop} {pc : Nat} {ls : Array Slot} {rest : List Value}
/-- caught by the row x of this method's table; the rows ahead name other classes -/
theorem ce_catch {own name : String} {E : String} {ce : Cell} {q : Addr} (hown : s.vm.findClass own = some m.cls) (pre : List ExceptionTableEntry) (x : ExceptionTableEntry) (suf : List ExceptionTableEntry) (hsplit : c.exceptionTable.toList = pre ++ x :: suf)
    (hpass : ∀ z ∈ pre, covers z pc = true ∧ z.catchType ≠ 0 ∧ ∃ nm : String, (Cond.classLink own z.catchType nm).before args s = true ∧ va_Nc E nm s) (hx : covers x pc = true) (h0 : x.catchType ≠ 0)
    (hlink : (Cond.classLink own x.catchType name).before args s = true) (hcast : (Cond.castable E name).before args s = true) (hcell : H[q]? = some ce) (hv : ce.vm = .none) (hcl : s.vm.findClass E = some ce.cls)
    (kk : W p l e R s m args below meth c H locs cells slots Q (F0 m x.handlerPc ls [.ref q])) : vx_W p l e R s m args below meth c H locs cells slots Q (F0 m pc ls rest) q := by
  intro T hT X
  have hpl : e.platform.magicAccessors = ({} : Platform).magicAccessors := by rw [X.admits.platform]
  obtain ⟨c3, c4, hc3, hc4, hasg⟩ := Cond.castable_spec hcast
  cases Option.some.inj (hc3.symm.trans hcl)
  obtain ⟨c5, hc5, hcl5⟩ := Cond.classLink_spec hown hlink e.platform hpl
  cases Option.some.inj (hc4.symm.trans hc5)
  have hcellT : ((T.setTop (F0 m pc ls rest)).pushFrame (.throwing q)).heap[q]? = some ce := by
    rw [throwing_heap, hT]; exact hcell
  have hvmT : ((T.setTop (F0 m pc ls rest)).pushFrame (.throwing q)).vm = T.vm := throwing_vm T _ q
  obtain ⟨vm', hW', hq⟩ := ce_rows (e := e) (s := s) (f := F0 m pc ls rest) (a := q) (cell := ce) (fun k hk => by rw [hv] at hk; cases hk) (by obtain ⟨k9, h9, -⟩ := Vm.findClass_spec hcl; exact ⟨k9, h9⟩) x suf hx h0 hcl5 hasg pre ((T.setTop (F0 m pc ls rest)).pushFrame (.throwing q)) (by rw [hvmT]; exact X.warmed) hcellT
    (fun z hz => by
      obtain ⟨hz1, hz0, nm, hl1, hn1⟩ := hpass z hz
      obtain ⟨c6, hc6, hcl6⟩ := Cond.classLink_spec hown hl1 e.platform hpl
      obtain ⟨a8, b8, h1, h2, h3⟩ := hn1
      cases Option.some.inj (h1.symm.trans hcl)
      cases Option.some.inj (h2.symm.trans hc6)
      exact ⟨hz1, hz0, _, hcl6, h3⟩)
  have hfind : ∀ (QH : Handler → Pre) (EC : CtlPost) (d : Bool) (acts : List Action), wp (findHandler (F0 m pc ls rest) q) QH EC e d acts ((T.setTop (F0 m pc ls rest)).pushFrame (.throwing q)) ↔ QH (.found x.handlerPc) d acts (((T.setTop (F0 m pc ls rest)).pushFrame (.throwing q)).setVm vm') := by
    intro QH EC d acts
    rw [W.findHandler_eq (meth := meth) (code := c) (by rw [hvmT]; exact X.method') X.code, hsplit]
    exact hq QH EC d acts
  have X' := X.noted hW'
  obtain ⟨t, a1, b1⟩ := kk (T.setVm vm') hT X'
  refine ⟨t, ?_, b1⟩
  have h : At T (F0 m pc ls rest).method c below := X.here
  obtain ⟨hgo, hw⟩ := h.throwing q
  refine Steps.head hgo hw ?_
  rw [stepThread_throwing (frames_entered h.top _), (ce_step (S := (T.setTop (F0 m pc ls rest)).pushFrame (.throwing q)) hfind).1]
  obtain ⟨g₀, hg⟩ := Option.isSome_iff_exists.mp h.top
  obtain ⟨r, hr⟩ := State.topJava?_eq_some.mp hg
  have hr' : (T.setVm vm').frames = .java g₀ :: r := hr
  rw [State.setTop_of_frames _ hr'] at a1
  rw [hr, List.tail_cons]
  have e9 : ((((T.setTop (F0 m pc ls rest)).pushFrame (.throwing q)).setVm vm').setFrames (.java { F0 m pc ls rest with pc := x.handlerPc, stack := [.ref q] } :: r)) = (T.setVm vm').setFrames (.java (F0 m x.handlerPc ls [.ref q]) :: r) := by
    have e0 : ∀ (Y : State) (F : List Frame), (Y.setFrames F).setVm vm' = (Y.setVm vm').setFrames F := fun _ _ => rfl
    rw [State.pushFrame, e0, State.setFrames_setFrames, State.setTop_of_frames _ hr, e0, State.setFrames_setFrames]
  rw [e9]
  exact a1
end CE1
end
section
/-! METHODS THAT THROW: the small machine says which class; the heap stays. -/
section CE2
variable {p : Program} {l : Launch} {e : Env} {R : Room} {s : State} {m : MethodId} {args : Array Value} {below : List Frame} {meth : Method} {c : Code} {H : Heap} {locs : List Loc} {cells slots : Nat} {Q : State → Prop}
variable {b bs : Nat} {cI cL : ClassId} {D : va_G} {LS : Nat} {xs : Nat → Int32} {own : String} {cc : ByteArray} {nL : Nat} {ini : Bool}
def mi_XC (b bs : Nat) (cI cL : ClassId) (D : va_G) (E0 : String) (h : mH) : String → State → State → Prop := fun E st t => E = E0 ∧ mi_R b bs cI cL D h t.heap ∧ va_F (fun q => b ≤ q) st t
def mi_none : Array Value → State → Outcome → State → Prop := fun _ _ _ _ => False
def mi_rmX (d : Nat) : Room := { frames := d + 6, cells := 1, slots := 8, locals := 40 * d + 200 }
/-- a place where the class throws: what the machine does there -/
def mi_OkT (own : String) (cc : ByteArray) (nL pc : Nat) (E : String) : Prop :=
  ∀ (b bs : Nat) (cI cL : ClassId) (D : va_G) (LS : Nat) (xs : Nat → Int32) (p : Program) (l : Launch) (e : Env) (d : Nat) (s : State) (m : MethodId) (args : Array Value) (below : List Frame) (meth : Method) (c : Code) (ini : Bool) (H : Heap) (locs : List Loc) (ls : Array Slot) (h : mH),
    mi_X b bs cI cL D LS xs own cc nL ini p l (mi_rmX (d + 1)) s m args meth c → (∀ x ∈ c.exceptionTable.toList, False) → mi_R b bs cI cL D h H → ls.size = nL → va_S (fun q => b ≤ q) s.heap H locs →
    W p l e (mi_rmX (d + 1)) s m args below meth c H locs 0 0 (vx_MQ below mi_none (mi_XC b bs cI cL D E h) args s 1 8 (fun q => b ≤ q)) (F0 m pc ls [])
/-- behind a call that threw -/
theorem mi_thrk {mc ms pc : Nat} {ls : Array Slot} {st0 rest : List Value} {E : String} {h1 : mH} (hr : vx_Run p l e R s m args below meth c H locs cells slots mc ms (F0 m pc ls st0) rest (mi_none args) (mi_XC b bs cI cL D E h1) (fun q => b ≤ q)) (hS : va_S (fun q => b ≤ q) s.heap H locs)
    (kx : ∀ (q : Addr) (ce : Cell) (H1 : Heap) (locs1 : List Loc), mi_R b bs cI cL D h1 H1 → va_S (fun q => b ≤ q) s.heap H1 locs1 → H1[q]? = some ce → ce.vm = .none → s.vm.findClass E = some ce.cls → vx_W p l e R s m args below meth c H1 locs1 (cells + mc) (slots + ms) Q (F0 m pc ls rest) q) : W p l e R s m args below meth c H locs cells slots Q (F0 m pc ls st0) := by
  intro T hT X
  rcases hr T hT X with ⟨v, st₀, t, T', L, h0, X', hL, e1, e2, hQ, st⟩ | ⟨q, st₀, t, T', L, E1, ce, h0, X', hL, e1, e2, ⟨rfl, hb, hz, hk⟩, hce, hcv, hcl, st⟩
  · exact absurd hQ id
  · rw [h0] at hz hk
    obtain ⟨t2, a1, b1⟩ := kx q ce T'.heap (locs ++ L) (by rw [e1]; exact hb)
      ⟨Nat.le_trans hS.1 (by rw [e1]; exact hz), fun q h1 h2 => by rw [e1, hk q (Nat.lt_of_lt_of_le h1 hS.1) h2]; exact hS.2.1 q h1 h2, fun q hq => by
        rcases List.mem_append.mp hq with h | h
        · exact hS.2.2 q h
        · exact hL q h⟩ (by rw [e1]; exact hce) hcv hcl T' rfl X'
    exact ⟨t2, st.trans a1, b1⟩
/-- a call at its site, of a method that throws -/
theorem mi_callT {Ms : List mD} {pc d : Nat} {ca : mA} {M : mD} {As rest : List Value} {h : mH} {E : String} {lo : mL} {ls : Array Slot}
    (X : mi_X b bs cI cL D LS xs own cc nL ini p l R s m args meth c) (hC : mi_OkC Ms own cc pc ca) (hMs : Ms[ca.1]? = some M) (hsp : M.1.name ≠ "<init>") (hnn : ∀ index host, decode cc pc = .ok (.invokestatic index, 3) → Cond.methodLinkNest own index M.1 host ∉ mi_nw)
    (hM : vx_Met l M.1 (mi_ws M) (mi_rmX d) (mi_Pc false b bs cI cL D LS xs As h) mi_none (mi_XC b bs cI cL D E h) 1 8 (fun q => b ≤ q))
    (hA : As.length = ca.2.1) (hr : (rest.map (fun v => v.category)).sum ≤ 8) (hrc : mi_rcv ca.2.2.1 As h) (hf : d + 7 ≤ R.frames) (hlo : 40 * (d + 1) + 200 ≤ R.locals)
    (hcl : cells + 1 ≤ R.cells) (hsl : slots + 8 ≤ R.slots) (hR : mi_R b bs cI cL D h H) (hh : mi_has b bs ls nL lo) (hS : va_S (fun q => b ≤ q) s.heap H locs)
    (kk : ∀ (q : Addr) (ce : Cell) (H1 : Heap) (locs1 : List Loc), mi_R b bs cI cL D h H1 → va_S (fun q => b ≤ q) s.heap H1 locs1 → H1[q]? = some ce → ce.vm = .none → s.vm.findClass E = some ce.cls → vx_W p l e R s m args below meth c H1 locs1 (cells + 1) (slots + 8) Q (F0 m pc ls (rest.map (mi_v b bs))) q) : W p l e R s m args below meth c H locs cells slots Q (F0 m pc ls ((As.reverse ++ rest).map (mi_v b bs))) := by
  obtain ⟨M', hM', hMok, index, n, hpar, hcase⟩ := hC
  cases hMs.symm.trans hM'
  obtain ⟨hx, hb, hml, hown, hts, hK, hbs, hnm, hlk, hfr1, hlo1, hst⟩ := X
  have hPc : ∀ U : State, U.heap = H → s.WarmedH U.vm → mi_Pc false b bs cI cL D LS xs As h (As.map (mi_v b bs)).toArray U := fun U hU hW => ⟨rfl, by rw [hU]; exact hR, hK.warm hS hU hW, by rw [hU]; exact Nat.le_trans hbs hS.1, fun ha => by cases ha⟩
  have hG := mi_goodIn hMok
  have hR2 : (mi_rmX d).frames + 1 ≤ R.frames ∧ 8 + (M.2.2.1 + 11) + (mi_rmX d).locals ≤ R.locals := by
    have := hMok.2.2.2.1
    exact ⟨by show d + 6 + 1 ≤ _; omega, by show 8 + (M.2.2.1 + 11) + (40 * d + 200) ≤ _; omega⟩
  have hfx : CallFix p m c cc nL s args mi_good own := ⟨hx, hb, hml, hown, hts⟩
  have hd : M.1.cls ≠ "java/lang/invoke/MethodHandle" ∧ M.1.cls ≠ "java/lang/invoke/VarHandle" ∧ (parseMethodDescriptor M.1.desc).map (fun d => d.parameters.length) = some n := ⟨hMok.2.2.2.2.1, hMok.2.2.2.2.2, hpar⟩
  have hsum : ((rest.map (mi_v b bs)).map (fun v => v.category)).sum ≤ 8 := by rw [mi_sum]; exact hr
  rcases hcase with ⟨dg, hcn, hl, hin, hsel, ci, T, N, hci, hcl0⟩ | ⟨dg, hcn, hl, hin, hyn, hret, ci, hci⟩ | ⟨dg, hcn, hstt, hl⟩
  · rw [hci] at hrc
    obtain ⟨a, fs, ha, hfs⟩ := hrc
    cases As with
    | nil => cases ha
    | cons w As2 =>
      simp only [List.head?_cons, Option.some.injEq] at ha
      subst ha
      have hlen : (As2.map (mi_v b bs)).length = n := by simp at hA ⊢; omega
      refine mi_thrk (vx_runV (As := As2.map (mi_v b bs)) (rest := rest.map (mi_v b bs)) (b := b + a) hfx hM ⟨callB_of n hts hG rfl rfl rfl (hts _ hMok.2.2.1) (hts _ hl) hd hR2, hts _ hin, hts _ hsel⟩ ⟨mi_Pc.blind, va_recv hK.1 hR hcl0 (mi_at hfs), hPc⟩ rfl hlen (by rw [hh.1]) ?_ (by show 2 * 0 + _ ≤ 8; omega) dg ⟨hcl, hsl⟩) hS kk
      show List.map (mi_v b bs) ((Value.ref a :: As2).reverse ++ rest) = _
      simp [mi_v]
  · exact absurd hyn hsp
  · have hlen : (As.map (mi_v b bs)).length = n := by simp at hA ⊢; omega
    rcases hl with hl | ⟨host, hl⟩
    · refine mi_thrk (vx_runS (As := As.map (mi_v b bs)) (rest := rest.map (mi_v b bs)) hfx hM ⟨callB_of n hts hG rfl rfl rfl (hts _ hMok.2.2.1) (hts _ hl) hd hR2, hts _ hstt⟩ ⟨mi_Pc.blind, hPc⟩ rfl hlen (by rw [hh.1]) ?_ (by show 2 * 0 + _ ≤ 8; omega) dg ⟨hcl, hsl⟩) hS kk
      show List.map (mi_v b bs) (As.reverse ++ rest) = _
      simp
    · exact absurd hl (hnn index host dg)
end CE2
end
section
section CE3
/-- what may throw: no constructor, no method of a nest mate -/
def mi_OkN (Ms : List mD) : Prop := ∀ (y : Nat) (M : mD), mi_thr.contains y = true → Ms[y]? = some M → M.1.name ≠ "<init>" ∧ ∀ own index host, Cond.methodLinkNest own index M.1 host ∉ mi_nw
def mi_Xd (Ms : List mD) (d : Nat) : Prop := ∀ (LS : Nat) (xs : Nat → Int32) (y : Nat) (M : mD) (As : List Value) (h : mH) (E : String), Ms[y]? = some M → mi_OkM M → mi_call Ms false LS xs d y As h (.inr E, h) →
  ∀ (b bs : Nat) (cI cL : ClassId) (D : va_G) (l : Launch), l.stackTraces = false → vx_Met l M.1 (mi_ws M) (mi_rmX d) (mi_Pc false b bs cI cL D LS xs As h) mi_none (mi_XC b bs cI cL D E h) 1 8 (fun q => b ≤ q)
theorem mi_simX {Ms : List mD} {d : Nat} (hS : mi_Sd Ms d) (hX : mi_Xd Ms d) (hN : mi_OkN Ms) {t : mT} {own : String} {cc : ByteArray} {nL : Nat} {ini : Bool} {ret : Option FieldType} (hok : ∀ q ∈ t, mi_OkE Ms own cc nL ini ret q) (hthr : ∀ pc E, (pc, .inr (.inr (.inr E))) ∈ t → mi_OkT own cc nL pc E)
    {LS : Nat} {xs : Nat → Int32} {E : String} {h1 : mH} : ∀ (n : Nat) (x : mS), mi_run t false LS xs (mi_call Ms false LS xs d) n x (.inr E, h1) →
    (x.2.2.2.length ≤ h1.length ∧ mi_z x.2.2.2 ≤ mi_z h1) ∧
    ∀ (b bs : Nat) (cI cL : ClassId) (D : va_G) (p : Program) (l : Launch) (e : Env) (s : State) (m : MethodId) (args : Array Value) (below : List Frame) (meth : Method) (c : Code),
      mi_X b bs cI cL D LS xs own cc nL ini p l (mi_rmX (d + 1)) s m args meth c → (∀ x ∈ c.exceptionTable.toList, False) → h1.length ≤ x.2.2.2.length → mi_z h1 ≤ mi_z x.2.2.2 →
      mi_W b bs cI cL D nL p l e (mi_rmX (d + 1)) s m args below meth c (vx_MQ below mi_none (mi_XC b bs cI cL D E h1) args s 1 8 (fun q => b ≤ q)) 0 0 h1.length (mi_z h1) x := by
  intro n
  induction n with
  | zero => intro x hx; exact absurd hx (by simp [mi_run])
  | succ n ih =>
    intro x hx
    obtain ⟨pc, lo, st, h⟩ := x
    unfold mi_run at hx
    split at hx
    · exact absurd hx id
    · next f hf =>
      obtain ⟨y, hy, hrun⟩ := hx
      have hq := hok _ (mi_fnd_mem t _ _ hf)
      have hm := hq false LS xs _ _ _ _ hy
      have hi := ih y hrun
      have m1 := hm.1.1
      have m2 := hm.1.2
      have m3 := hi.1.1
      have m4 := hi.1.2
      refine ⟨⟨Nat.le_trans m1 m3, Nat.le_trans m2 m4⟩, ?_⟩
      intro b bs cI cL D p l e s m args below meth c X htab hn0 hz0
      dsimp only at hn0 hz0 m1 m2
      refine hm.2 b bs cI cL D p l e (mi_rmX (d + 1)) s m args below meth c _ 0 0 h1.length (mi_z h1) X (fun q => by cases q) hn0 hz0 (by show _ ≤ 1; omega) (by show _ ≤ 8; omega) ?_
      exact hi.2 b bs cI cL D p l e s m args below meth c X htab (by omega) (by omega)
    · next k hf =>
      obtain ⟨w, hw, hr⟩ := hx
      simp at hr
    · next ca hf =>
      obtain ⟨As, rest, x1, hst, hA, hsum, hrc, hcall, haft⟩ := hx
      have hmem := mi_fnd_mem t _ _ hf
      have hq : mi_OkC Ms own cc pc ca := hok _ hmem
      obtain ⟨r1, h2⟩ := x1
      obtain ⟨M, hMs, hMok, hrest⟩ := id hq
      unfold mi_aft at haft
      cases r1 with
      | inr E1 =>
        dsimp only at haft
        obtain ⟨hth, haft⟩ := haft
        split at haft
        · simp at haft
        · obtain ⟨-, haft⟩ := haft
          simp only [Prod.mk.injEq, Sum.inr.injEq] at haft
          obtain ⟨rfl, rfl⟩ := haft
          have hsame : h1 = h := by
            revert hcall
            cases d with
            | zero => intro q; exact absurd q (by simp [mi_call])
            | succ d =>
              intro q
              unfold mi_call at q
              split at q
              · exact absurd q id
              · exact q.2.1 E rfl
          subst hsame
          refine ⟨⟨Nat.le_refl _, Nat.le_refl _⟩, ?_⟩
          intro b bs cI cL D p l e s m args below meth c X htab hn0 hz0 H locs ls hR hh hS0
          dsimp only at hst
          subst hst
          have hnn := hN ca.1 M hth hMs
          have hv := hX LS xs ca.1 M As h1 E hMs hMok hcall b bs cI cL D l X.2.2.2.2.2.2.2.2.2.2.2
          dsimp only
          simp only [Nat.add_zero, Nat.sub_self]
          refine mi_callT X hq hMs hnn.1 (fun index host _ => hnn.2 own index host) hv hA hsum hrc (by show d + 7 ≤ d + 1 + 6; omega) (by show _ ≤ 40 * (d + 1) + 200; omega) (by show 0 + 1 ≤ 1; omega) (by show 0 + 8 ≤ 8; omega) hR hh hS0 (fun q ce H1 locs1 hR1 hS1 hce hcv hcl => ?_)
          exact vx_out (fun x hx => (htab x hx).elim) X.2.2.2.2.2.2.2.2.1 hce hcv hcl (fun t ht _ => ⟨rfl, by rw [ht]; exact hR1, hS1.F ht⟩) hS1.2.2 (by omega) (by omega)
      | inl w =>
        dsimp only at haft
        have hc := hS false LS xs ca.1 M As h h2 w hMs hMok hcall
        have hi := ih _ haft
        have m1 := hc.1.1
        have m2 := hc.1.2
        have m3 := hi.1.1
        have m4 := hi.1.2
        dsimp only at m3 m4
        refine ⟨⟨Nat.le_trans m1 m3, Nat.le_trans m2 m4⟩, ?_⟩
        intro b bs cI cL D p l e s m args below meth c X htab hn0 hz0
        dsimp only at hst hn0 hz0
        subst hst
        refine mi_callW (al := false) X (fun q => by cases q) hq hMs (hc.2 b bs cI cL D l X.2.2.2.2.2.2.2.2.2.2.2) hA hsum hrc (by show d + 7 ≤ d + 1 + 6; omega) (by show _ ≤ 40 * (d + 1) + 200; omega) hn0 hz0 m1 m2 (by show _ ≤ 1; omega) (by show _ ≤ 8; omega) ?_
        exact hi.2 b bs cI cL D p l e s m args below meth c X htab (by dsimp only; omega) (by dsimp only; omega)
    · next E1 hf =>
      obtain ⟨-, hst, hr⟩ := hx
      simp only [Prod.mk.injEq, Sum.inr.injEq] at hr
      obtain ⟨rfl, rfl⟩ := hr
      refine ⟨⟨Nat.le_refl _, Nat.le_refl _⟩, ?_⟩
      intro b bs cI cL D p l e s m args below meth c X htab hn0 hz0 H locs ls hR hh hS0
      dsimp only at hst
      subst hst
      dsimp only
      simp only [Nat.add_zero, Nat.sub_self]
      exact hthr pc E (mi_fnd_mem t _ _ hf) b bs cI cL D LS xs p l e d s m args below meth c ini H locs ls _ X htab hR hh.1 hS0
/-- THE SMALL MACHINE IS SOUND, for methods that throw -/
theorem mi_soundX {Ms : List mD} (hAll : ∀ (y : Nat) (M : mD), Ms[y]? = some M → mi_OkM M → mi_OkB Ms M) (hN : mi_OkN Ms) (hT : ∀ (y : Nat) (M : mD), Ms[y]? = some M → mi_OkM M → ∀ pc E, (pc, .inr (.inr (.inr E))) ∈ M.2.2.2.2.2 → mi_OkT M.1.cls M.2.1 M.2.2.1 pc E) : ∀ d, mi_Xd Ms d := by
  intro d
  induction d with
  | zero => intro LS xs y M As h E _ _ hc; exact absurd hc (by simp [mi_call])
  | succ d ih =>
    intro LS xs y M As h E hMs hMok hc b bs cI cL D l htr
    unfold mi_call at hc
    rw [hMs] at hc
    obtain ⟨hlen, -, n, hrun⟩ := hc
    obtain ⟨ini, hini, hok, hno⟩ := hAll y M hMs hMok
    have hsim := mi_simX (mi_sound hAll d) ih hN hok (hT y M hMs hMok) n _ hrun
    refine vx_ofW (cc := M.2.1) (maxL := M.2.2.1) (ret := M.2.2.2.1) hMok.1 rfl ?_
    intro p e s m args below meth c s₁ B hml htab hv
    obtain ⟨rfl, hR, hK, hbs, hex⟩ := hv
    have hts := atoms_spec (ws := mi_ws M) B.pre
    have hown : s.vm.findClass M.1.cls = some m.cls := findClass_of_methodNamed B.named
    have hx : mi_X b bs cI cL D LS xs M.1.cls M.2.1 M.2.2.1 ini p l (mi_rmX (d + 1)) s m (As.map (mi_v b bs)).toArray meth c := by
      refine ⟨B.exec, B.bytes, hml, hown, fun w hw => hts w (List.mem_cons_of_mem _ hw), hK, hbs, fun hi => ?_, B.notSynchronized, ?_, ?_, htr⟩
      · rw [← hini hi]
        exact (name_of_methodNamed B.named B.method).1
      · show 1 ≤ d + 1 + 6; omega
      · show 40 ≤ 40 * (d + 1) + 200; omega
    have hgo := hsim.2 b bs cI cL D p l e s m (As.map (mi_v b bs)).toArray below meth c hx htab (Nat.le_refl _) (Nat.le_refl _)
    rw [lg_entry_eq]
    have h9 := hgo s.heap [] _ hR (mi_ent_has hlen) va_S.rf
    dsimp only at h9
    simp only [Nat.add_zero, Nat.sub_self] at h9
    exact h9
/-- throw new E("..") of a class of six fields whose constructors are the usual ones -/
theorem mi_throw_ok {own : String} {cc : ByteArray} {nL pc : Nat} {E : String} {ik is ic : Nat} {text : String} {names : List String} (d0 : decode cc pc = .ok (.new ik, 3)) (d3 : decode cc (pc + 3) = .ok (.dup, 1)) (d4 : decode cc (pc + 4) = .ok (.ldc is, 2)) (d6 : decode cc (pc + 6) = .ok (.invokespecial ic, 3)) (d9 : decode cc (pc + 9) = .ok (.athrow, 1))
    (hcls : Bundle.fit E = true) (hnames : ∀ n ∈ names, Bundle.fit n = true) (hnl : names.length ≤ 3) (hk : Cond.classLink own ik E ∈ mi_good) (hini : Cond.initialized E ∈ mi_good) (hstr : (own, is, text) ∈ mi_str)
    (hat : ∀ w ∈ vx_atS own ic E names, w ∈ mi_good ∨ w ∈ mi_nw) (hgood : ∀ w ∈ Cond.classLink own ik E :: Cond.initialized E :: vx_atS own ic E names, vx_ot w = true) : mi_OkT own cc nL pc E := by
  intro b bs cI cL D LS xs p l e d s m args below meth c ini H locs ls h X htab hR hls hS
  obtain ⟨hx, hb, hml, hown, hts, hK, hbs, hnm, hlk, hfr1, hlo1, htr⟩ := X
  obtain ⟨k1, k2, k3, k4, k5, k6, k7, k8, k9⟩ := hK
  obtain ⟨sa, hsa⟩ := k8 _ hstr
  have hmw : ∀ w ∈ mi_nw, w.onTables = true := fun w hw => by
    have hn : mi_isNest w = true := (List.mem_filter.mp hw).2
    cases w <;> first | (cases hn; done) | rfl
  refine vx_throwS (A := fun q => b ≤ q) (rest := []) hx hb htr hown hcls hnames (hts _ hk) (hts _ hini) hsa (fun w hw => ?_) hgood k6 k7 hS (by rw [hls, hml]) d0 d3 d4 d6 d9 (fun x hx => (htab x hx).elim) ?_ ?_ ?_ ?_ hlk (fun t _ hz hq => ?_) hS.2.2 ?_ ?_
  · rcases hat w hw with h1 | h1
    · exact hts w h1
    · exact va_Nw.use (hmw w h1) (k2 w h1)
  · show names.length + 3 < d + 1 + 6; omega
  · show 0 + (13 * (names.length + 1) + 43) ≤ 40 * (d + 1) + 200; omega
  · show 0 + 1 ≤ 1; omega
  · show 0 + 6 ≤ 8; omega
  · refine ⟨rfl, fun k x hk0 => (hR k x hk0).kept (hq x.1 ((hR k x hk0).lt)), Nat.le_trans hS.1 hz, fun q h1 h2 => ?_⟩
    rw [hq q (Nat.lt_of_lt_of_le h1 hS.1)]
    exact hS.2.1 q h1 h2
  · omega
  · omega
end CE3
end
section
/-! METHODS THAT CATCH (the law's own six), and runs of the law between them. -/
section CE4
def mi_wsW (M : mD) : List Cond := .codeWith M.1 M.2.1 M.2.2.1 M.2.2.2.1 M.2.2.2.2.1 :: mi_good
def mi_OkMW (M : mD) : Prop := plainName M.1.cls = true ∧ Cond.codeWith M.1 M.2.1 M.2.2.1 M.2.2.2.1 M.2.2.2.2.1 ∈ mi_good ∧ Cond.initialized M.1.cls ∈ mi_good ∧ M.2.2.1 ≤ 20 ∧ M.1.cls ≠ "java/lang/invoke/MethodHandle" ∧ M.1.cls ≠ "java/lang/invoke/VarHandle"
/-- what the rows of a method's table do with what a call throws: each keeps the exception in a local and answers a number -/
def mi_OkH (own : String) (cc : ByteArray) (nL : Nat) (hh : List (Nat × Nat × Nat × Nat)) (pc : Nat) (hs : List (String × Int32)) : Prop := ∀ (E : String) (k : Int32), hs.lookup E = some k →
  ∃ (pre : List ExceptionTableEntry) (x : ExceptionTableEntry) (suf : List ExceptionTableEntry) (i : Nat) (n : Int), tableOf hh = pre ++ x :: suf ∧ covers x pc = true ∧ x.catchType ≠ 0 ∧ Cond.classLink own x.catchType E ∈ mi_good ∧ Cond.castable E E ∈ mi_nw ∧
    (∀ z ∈ pre, covers z pc = true ∧ z.catchType ≠ 0 ∧ ∃ nm : String, Cond.classLink own z.catchType nm ∈ mi_good ∧ (E, nm) ∈ mi_ncs) ∧ i < nL ∧ decode cc x.handlerPc = .ok (.astore i, 2) ∧ decode cc (x.handlerPc + 2) = .ok (.iconst n, 1) ∧ Int32.ofInt n = k ∧ decode cc (x.handlerPc + 2 + 1) = .ok (.ireturn, 1)
theorem mi_goodInW {M : mD} (hM : mi_OkMW M) : GoodIn mi_good (mi_wsW M) := by
  intro w hw
  rcases List.mem_cons.mp hw with rfl | hw
  · exact ⟨hM.2.1, good_of_word (mi_good_ok hM.2.1)⟩
  · exact ⟨hw, good_of_word (mi_good_ok hw)⟩
theorem mi_wrap {Ms : List mD} {d : Nat} (hS : mi_Sd Ms d) (hX : mi_Xd Ms d) (hN : mi_OkN Ms) {M : mD} (hMW : mi_OkMW M) (hok : ∀ q ∈ M.2.2.2.2.2, mi_OkE Ms M.1.cls M.2.1 M.2.2.1 false M.2.2.2.1 q) (hri : M.2.2.2.1 = some .int)
    (hH : ∀ pc ca, (pc, .inr (.inr (.inl ca))) ∈ M.2.2.2.2.2 → mi_OkH M.1.cls M.2.1 M.2.2.1 M.2.2.2.2.1 pc ca.2.2.2) {LS : Nat} {xs : Nat → Int32} {y : Nat} {As : List Value} {h h1 : mH} {v : Option Value} (hMs : Ms[y]? = some M)
    (hc : mi_call Ms false LS xs (d + 1) y As h (.inl v, h1)) (hl : h1.length ≤ h.length) (hz : mi_z h1 ≤ mi_z h) {b bs : Nat} {cI cL : ClassId} {D : va_G} {l : Launch} (htr : l.stackTraces = false) :
    Met l M.1 (mi_wsW M) (mi_rmX (d + 1)) (mi_Pc false b bs cI cL D LS xs As h) (mi_Qc b bs cI cL D v h1) 1 8 (fun q => b ≤ q) := by
  unfold mi_call at hc
  rw [hMs] at hc
  obtain ⟨hlen, -, n, hrun⟩ := hc
  have hsim := mi_simR hS hok n _ hrun
  have m1 := hsim.1.1
  have m2 := hsim.1.2
  dsimp only at m1 m2
  refine va_MetW (cc := M.2.1) (maxL := M.2.2.1) (ret := M.2.2.2.1) (hh := M.2.2.2.2.1) hMW.1 rfl ?_
  intro p e s m args below meth c s₁ B hml hv
  obtain ⟨rfl, hR, hK, hbs, hex⟩ := hv
  have hts := atoms_spec (ws := mi_wsW M) B.pre
  have htab : c.exceptionTable.toList = tableOf M.2.2.2.2.1 := vx_table (x := M.1) B (hts _ List.mem_cons_self)
  have hown : s.vm.findClass M.1.cls = some m.cls := findClass_of_methodNamed B.named
  have hx : mi_X b bs cI cL D LS xs M.1.cls M.2.1 M.2.2.1 false p l (mi_rmX (d + 1)) s m (As.map (mi_v b bs)).toArray meth c := by
    refine ⟨B.exec, B.bytes, hml, hown, fun w hw => hts w (List.mem_cons_of_mem _ hw), hK, hbs, (fun hi => by cases hi), B.notSynchronized, ?_, ?_, htr⟩
    · show 1 ≤ d + 1 + 6; omega
    · show 40 ≤ 40 * (d + 1) + 200; omega
  have hgo := hsim.2 b bs cI cL D p l e (mi_rmX (d + 1)) s m (As.map (mi_v b bs)).toArray below meth c (MQ below (mi_Qc b bs cI cL D v h1) (As.map (mi_v b bs)).toArray s 1 8 (fun q => b ≤ q)) 0 0 h.length (mi_z h) hx (fun q => by cases q) (by show d + 7 ≤ d + 1 + 6; omega) (by show 40 * (d + 1) + 200 ≤ 40 * (d + 1) + 200; omega) (Nat.le_refl _) (Nat.le_refl _) (by show _ ≤ 1; omega) (by show _ ≤ 8; omega)
    (fun pc k lo st hm hr => mi_retW (hok _ hm) hr (by omega) (by omega) B.exec B.bytes B.returns B.notSynchronized)
    (fun pc ca lo As rest E k hm hA hsum hrc hcall hth hlk hvk => ?_)
  · rw [lg_entry_eq]
    have h9 := hgo s.heap [] _ hR (mi_ent_has hlen) va_S.rf
    dsimp only at h9
    simp only [Nat.add_zero, Nat.sub_self] at h9
    exact h9
  · intro H locs ls hR1 hh1 hS1
    have hq : mi_OkC Ms M.1.cls M.2.1 pc ca := hok _ hm
    obtain ⟨M2, hM2, hM2ok, hrest⟩ := id hq
    have hnn := hN ca.1 M2 hth hM2
    have hv2 := hX LS xs ca.1 M2 As h1 E hM2 hM2ok hcall b bs cI cL D l htr
    dsimp only
    refine mi_callT hx hq hM2 hnn.1 (fun index host _ => hnn.2 M.1.cls index host) hv2 hA hsum hrc (by show d + 7 ≤ d + 1 + 6; omega) (by show _ ≤ 40 * (d + 1) + 200; omega) (by show _ ≤ 1; omega) (by show _ ≤ 8; omega) hR1 hh1 hS1 (fun q ce H1 locs1 hR2 hS2 hce hcv hcl => ?_)
    obtain ⟨pre, x, suf, i, n9, hsp, hcov, hx0, hlkE, hcast, hpre, hi, da, di, hn9, dr⟩ := hH pc ca hm E k hlk
    have hmw : (Cond.castable E E).before (As.map (mi_v b bs)).toArray s = true := va_Nw.use rfl (hK.2.1 _ hcast)
    refine ce_catch hown pre x suf (htab.trans hsp) (fun z hz => ?_) hcov hx0 (hx.2.2.2.2.1 _ hlkE) (va_Nw.use rfl (hK.2.1 _ hcast)) hce hcv hcl ?_
    · obtain ⟨z1, z2, nm, z3, z4⟩ := hpre z hz
      exact ⟨z1, z2, nm, hx.2.2.2.2.1 _ z3, hK.2.2.2.2.2.2.2.2 _ z4⟩
    · refine lv_astore hx.1 hx.2.1 da (mi_has_lv hh1) hi rfl (fun ls1 hl1 => ?_)
      refine lv_iconst (v := k) hx.1 hx.2.1 di hn9 ?_
      subst hvk
      refine W.widen (k := 1) (n := 8) (by omega) (by omega) ?_
      exact W.iret (v := k) hx.1 hx.2.1 (B.returns.trans hri) (fun t ht _ => ⟨⟨rfl, by rw [ht]; exact hR2⟩, hS2.F ht⟩) hS2.2.2 dr B.notSynchronized
end CE4
section CE5
variable {p : Program} {l : Launch} {e : Env} {R : Room} {s : State} {m : MethodId} {args : Array Value} {below : List Frame} {meth : Method} {c : Code} {Q : State → Prop}
variable {b bs : Nat} {cI cL : ClassId} {D : va_G} {LS : Nat} {xs : Nat → Int32} {own : String} {cc : ByteArray} {nL : Nat} {ini : Bool}
/-- a call of a method with a table: static, by its name -/
def mi_OkV (own : String) (cc : ByteArray) (pc : Nat) (M : mD) (n : Nat) : Prop := ∃ index : Nat, decode cc pc = .ok (.invokestatic index, 3) ∧ Cond.methodLink own index M.1 ∈ mi_good ∧ Cond.static M.1 ∈ mi_good ∧ (parseMethodDescriptor M.1.desc).map (fun d => d.parameters.length) = some n
theorem mi_callL {M : mD} {pc d n : Nat} {As rest : List Value} {h h1 : mH} {v : Option Value} {kc ks n0 z0 : Nat} {lo : mL}
    (X : mi_X b bs cI cL D LS xs own cc nL ini p l R s m args meth c) (hMW : mi_OkMW M) (hV : mi_OkV own cc pc M n)
    (hM : Met l M.1 (mi_wsW M) (mi_rmX d) (mi_Pc false b bs cI cL D LS xs As h) (mi_Qc b bs cI cL D v h1) 1 8 (fun q => b ≤ q))
    (hA : As.length = n) (hr : (rest.map (fun v => v.category)).sum ≤ 8) (hf : d + 7 ≤ R.frames) (hlo : 40 * (d + 1) + 200 ≤ R.locals) (hn0 : n0 ≤ h.length) (hz0 : z0 ≤ mi_z h) (hl1 : h1.length = h.length) (hz1 : mi_z h1 = mi_z h) (hcl : h.length + kc - n0 + 1 ≤ R.cells) (hsl : mi_z h + ks - z0 + 8 ≤ R.slots)
    (kk : mi_W b bs cI cL D nL p l e R s m args below meth c Q (kc + 1) (ks + 8) n0 z0 (pc + 3, lo, v.toList ++ rest, h1)) : mi_W b bs cI cL D nL p l e R s m args below meth c Q kc ks n0 z0 (pc, lo, As.reverse ++ rest, h) := by
  intro H locs ls hR hh hS
  obtain ⟨index, dg, hl, hstt, hpar⟩ := hV
  obtain ⟨hx, hb, hml, hown, hts, hK, hbs, hnm, hlk, hfr1, hlo1, hst⟩ := X
  have hPc : ∀ U : State, U.heap = H → s.WarmedH U.vm → mi_Pc false b bs cI cL D LS xs As h (As.map (mi_v b bs)).toArray U := fun U hU hW => ⟨rfl, by rw [hU]; exact hR, hK.warm hS hU hW, by rw [hU]; exact Nat.le_trans hbs hS.1, fun ha => by cases ha⟩
  have hR2 : (mi_rmX d).frames + 1 ≤ R.frames ∧ 8 + (M.2.2.1 + 11) + (mi_rmX d).locals ≤ R.locals := by
    have := hMW.2.2.2.1
    exact ⟨by show d + 6 + 1 ≤ _; omega, by show 8 + (M.2.2.1 + 11) + (40 * d + 200) ≤ _; omega⟩
  have hfx : CallFix p m c cc nL s args mi_good own := ⟨hx, hb, hml, hown, hts⟩
  have hd : M.1.cls ≠ "java/lang/invoke/MethodHandle" ∧ M.1.cls ≠ "java/lang/invoke/VarHandle" ∧ (parseMethodDescriptor M.1.desc).map (fun d => d.parameters.length) = some n := ⟨hMW.2.2.2.2.1, hMW.2.2.2.2.2, hpar⟩
  have hsum : ((rest.map (mi_v b bs)).map (fun v => v.category)).sum ≤ 8 := by rw [mi_sum]; exact hr
  have hG : GoodIn mi_good (va_wsS own index M.1 (mi_wsW M)) := by
    intro w hw
    unfold va_wsS at hw
    rcases List.mem_append.mp hw with h9 | h9
    · have : w ∈ mi_good := by
        simp only [List.mem_cons, List.not_mem_nil, or_false] at h9
        rcases h9 with rfl | rfl | rfl
        · exact hl
        · exact hstt
        · exact hMW.2.2.1
      exact ⟨this, good_of_word (mi_good_ok this)⟩
    · exact mi_goodInW hMW w h9
  have hlen : (As.map (mi_v b bs)).length = n := by simpa using hA
  dsimp only
  refine mi_callk (mc := 1) (ms := 8) (vx_runSW (As := As.map (mi_v b bs)) (rest := rest.map (mi_v b bs)) (hh := M.2.2.2.2.1) hfx hM (vx_cwSW n hts hG rfl rfl rfl hd hR2) ⟨mi_Pc.blind, hPc⟩ rfl hlen (by rw [hh.1]) ?_ (by show 2 * 0 + _ ≤ 8; omega) dg ⟨hcl, hsl⟩) hS (fun H1 locs1 hR1 hS1 => ?_)
  · show List.map (mi_v b bs) (As.reverse ++ rest) = _
    simp
  · have h9 := kk H1 locs1 ls hR1 hh hS1
    dsimp only at h9
    have e1 : h1.length + (kc + 1) - n0 = h.length + kc - n0 + 1 := by omega
    have e2 : mi_z h1 + (ks + 8) - z0 = mi_z h + ks - z0 + 8 := by omega
    have e3 : (v.toList ++ rest).map (mi_v b bs) = (v.map (mi_v b bs)).toList ++ rest.map (mi_v b bs) := by cases v <;> simp
    rw [e1, e2, e3] at h9
    exact h9
/-- a run from here to there, with calls that return; calls of the methods that wr names aren't taken -/
def mi_to (t : mT) (wr : Nat → Bool) (al : Bool) (LS : Nat) (xs : Nat → Int32) (Call : mQ) : Nat → mS → mS → Prop
  | 0, x, y => x = y
  | n + 1, x, y => match mi_fnd t x.1 with
    | some (.inl f) => ∃ z, f al LS xs x.2.1 x.2.2.1 x.2.2.2 = some z ∧ mi_to t wr al LS xs Call n z y
    | some (.inr (.inr (.inl ca))) => wr ca.1 = false ∧ ∃ As rest v h1, x.2.2.1 = As.reverse ++ rest ∧ As.length = ca.2.1 ∧ (rest.map (fun v => v.category)).sum ≤ 8 ∧ mi_rcv ca.2.2.1 As x.2.2.2 ∧ Call ca.1 As x.2.2.2 (.inl v, h1) ∧ mi_to t wr al LS xs Call n (x.1 + 3, x.2.1, v.toList ++ rest, h1) y
    | _ => False
theorem mi_simTo {Ms : List mD} {d : Nat} (hS : mi_Sd Ms d) {t : mT} {wr : Nat → Bool} {ret : Option FieldType} (hok : ∀ q ∈ t, (∀ ca, q.2 = .inr (.inr (.inl ca)) → wr ca.1 = false) → mi_OkE Ms own cc nL ini ret q)
    {al : Bool} {y : mS} : ∀ (n : Nat) (x : mS), mi_to t wr al LS xs (mi_call Ms al LS xs d) n x y →
    (x.2.2.2.length ≤ y.2.2.2.length ∧ mi_z x.2.2.2 ≤ mi_z y.2.2.2) ∧
    ∀ (b bs : Nat) (cI cL : ClassId) (D : va_G) (p : Program) (l : Launch) (e : Env) (R : Room) (s : State) (m : MethodId) (args : Array Value) (below : List Frame) (meth : Method) (c : Code) (Q : State → Prop) (kc ks n0 z0 : Nat),
      mi_X b bs cI cL D LS xs own cc nL ini p l R s m args meth c → (al = true → s.heap.size = b + n0 ∧ kc = 0) → d + 7 ≤ R.frames → 40 * (d + 1) + 200 ≤ R.locals → n0 ≤ x.2.2.2.length → z0 ≤ mi_z x.2.2.2 → y.2.2.2.length + kc - n0 ≤ R.cells → mi_z y.2.2.2 + ks - z0 ≤ R.slots →
      mi_W b bs cI cL D nL p l e R s m args below meth c Q kc ks n0 z0 y → mi_W b bs cI cL D nL p l e R s m args below meth c Q kc ks n0 z0 x := by
  intro n
  induction n with
  | zero =>
    intro x hx
    cases hx
    exact ⟨⟨Nat.le_refl _, Nat.le_refl _⟩, fun _ _ _ _ _ _ _ _ _ _ _ _ _ _ _ _ _ _ _ _ _ _ _ _ _ _ _ _ hW => hW⟩
  | succ n ih =>
    intro x hx
    obtain ⟨pc, lo, st, h⟩ := x
    unfold mi_to at hx
    split at hx
    · next f hf =>
      obtain ⟨z, hz, hrun⟩ := hx
      have hq := hok _ (mi_fnd_mem t _ _ hf) (fun ca hca => by cases hca)
      have hm := hq al LS xs _ _ _ _ hz
      have hi := ih z hrun
      have m1 := hm.1.1
      have m2 := hm.1.2
      have m3 := hi.1.1
      have m4 := hi.1.2
      refine ⟨⟨Nat.le_trans m1 m3, Nat.le_trans m2 m4⟩, ?_⟩
      intro b bs cI cL D p l e R s m args below meth c Q kc ks n0 z0 X hal hfr hlo hn0 hz0 hcl hsl hW
      dsimp only at hn0 hz0 m1 m2
      refine hm.2 b bs cI cL D p l e R s m args below meth c Q kc ks n0 z0 X hal hn0 hz0 (by omega) (by omega) ?_
      exact hi.2 b bs cI cL D p l e R s m args below meth c Q kc ks n0 z0 X hal hfr hlo (by omega) (by omega) hcl hsl hW
    · next ca hf =>
      obtain ⟨hwr, As, rest, v, h1, hst, hA, hsum, hrc, hcall, hrun⟩ := hx
      have hmem := mi_fnd_mem t _ _ hf
      have hq : mi_OkC Ms own cc pc ca := hok _ hmem (fun ca2 hca => by cases hca; exact hwr)
      obtain ⟨M, hMs, hMok, hrest⟩ := id hq
      have hc := hS al LS xs ca.1 M As h h1 v hMs hMok hcall
      have hi := ih _ hrun
      have m1 := hc.1.1
      have m2 := hc.1.2
      have m3 := hi.1.1
      have m4 := hi.1.2
      dsimp only at m3 m4
      refine ⟨⟨Nat.le_trans m1 m3, Nat.le_trans m2 m4⟩, ?_⟩
      intro b bs cI cL D p l e R s m args below meth c Q kc ks n0 z0 X hal hfr hlo hn0 hz0 hcl hsl hW
      dsimp only at hst hn0 hz0
      subst hst
      refine mi_callW X hal hq hMs (hc.2 b bs cI cL D l X.2.2.2.2.2.2.2.2.2.2.2) hA hsum hrc hfr hlo hn0 hz0 m1 m2 (by omega) (by omega) ?_
      exact hi.2 b bs cI cL D p l e R s m args below meth c Q kc ks n0 z0 X hal hfr hlo (by dsimp only; omega) (by dsimp only; omega) hcl hsl hW
    · exact absurd hx id
end CE5
end
