section
-- ===== PART A: goes FIRST, ahead of the names: the tables' words, and 'selects' of the private methods out of them =====
/-- a private method of a class that the tables say can be made, by its rows of tables_1 -/
def lw_okq (q : MethodName × Nat) : Prop := (q.1.cls ≠ "java/lang/invoke/MethodHandle" ∧ q.1.cls ≠ "java/lang/invoke/VarHandle") ∧ Cond.instantiable q.1.cls q.2 ∈ tables_1 ∧ Cond.privateMethod q.1 ∈ tables_1 ∧ Cond.instanceMethod q.1 ∈ tables_1
theorem lw_p0 : lw_okq (⟨"GraphTexts$Reader", "readLine", "()Z"⟩, 16) := ⟨⟨by decide +kernel, by decide +kernel⟩, List.mem_of_getElem? (i := 170) (by decide +kernel), List.mem_of_getElem? (i := 334) (by decide +kernel), List.mem_of_getElem? (i := 335) (by decide +kernel)⟩
theorem lw_p1 : lw_okq (⟨"GraphTexts$Reader", "readComment", "()Z"⟩, 16) := ⟨⟨by decide +kernel, by decide +kernel⟩, List.mem_of_getElem? (i := 170) (by decide +kernel), List.mem_of_getElem? (i := 342) (by decide +kernel), List.mem_of_getElem? (i := 343) (by decide +kernel)⟩
theorem lw_p2 : lw_okq (⟨"GraphTexts$Reader", "readCount", "()Z"⟩, 16) := ⟨⟨by decide +kernel, by decide +kernel⟩, List.mem_of_getElem? (i := 170) (by decide +kernel), List.mem_of_getElem? (i := 360) (by decide +kernel), List.mem_of_getElem? (i := 361) (by decide +kernel)⟩
theorem lw_p3 : lw_okq (⟨"GraphTexts$Reader", "readGap", "()Z"⟩, 16) := ⟨⟨by decide +kernel, by decide +kernel⟩, List.mem_of_getElem? (i := 170) (by decide +kernel), List.mem_of_getElem? (i := 364) (by decide +kernel), List.mem_of_getElem? (i := 365) (by decide +kernel)⟩
theorem lw_p4 : lw_okq (⟨"GraphTexts$Reader", "readNumber", "()Z"⟩, 16) := ⟨⟨by decide +kernel, by decide +kernel⟩, List.mem_of_getElem? (i := 170) (by decide +kernel), List.mem_of_getElem? (i := 372) (by decide +kernel), List.mem_of_getElem? (i := 373) (by decide +kernel)⟩
theorem lw_p5 : lw_okq (⟨"GraphTexts$Reader", "readLineEnd", "()Z"⟩, 16) := ⟨⟨by decide +kernel, by decide +kernel⟩, List.mem_of_getElem? (i := 170) (by decide +kernel), List.mem_of_getElem? (i := 379) (by decide +kernel), List.mem_of_getElem? (i := 380) (by decide +kernel)⟩
theorem lw_p6 : lw_okq (⟨"GraphTexts$Reader", "readHead", "()Z"⟩, 16) := ⟨⟨by decide +kernel, by decide +kernel⟩, List.mem_of_getElem? (i := 170) (by decide +kernel), List.mem_of_getElem? (i := 383) (by decide +kernel), List.mem_of_getElem? (i := 384) (by decide +kernel)⟩
theorem lw_p7 : lw_okq (⟨"GraphTexts$Reader", "readName", "()Z"⟩, 16) := ⟨⟨by decide +kernel, by decide +kernel⟩, List.mem_of_getElem? (i := 170) (by decide +kernel), List.mem_of_getElem? (i := 387) (by decide +kernel), List.mem_of_getElem? (i := 388) (by decide +kernel)⟩
theorem lw_p8 : lw_okq (⟨"GraphTexts$Reader", "readQuoted", "()Z"⟩, 16) := ⟨⟨by decide +kernel, by decide +kernel⟩, List.mem_of_getElem? (i := 170) (by decide +kernel), List.mem_of_getElem? (i := 391) (by decide +kernel), List.mem_of_getElem? (i := 392) (by decide +kernel)⟩
theorem lw_p9 : lw_okq (⟨"GraphTexts$Reader", "readPlain", "()Z"⟩, 16) := ⟨⟨by decide +kernel, by decide +kernel⟩, List.mem_of_getElem? (i := 170) (by decide +kernel), List.mem_of_getElem? (i := 395) (by decide +kernel), List.mem_of_getElem? (i := 396) (by decide +kernel)⟩
theorem lw_p10 : lw_okq (⟨"GraphTexts$Spans", "isSame", "(ILGraphTexts$Row;II)Z"⟩, 4) := ⟨⟨by decide +kernel, by decide +kernel⟩, List.mem_of_getElem? (i := 69) (by decide +kernel), List.mem_of_getElem? (i := 406) (by decide +kernel), List.mem_of_getElem? (i := 407) (by decide +kernel)⟩
theorem lw_p11 : lw_okq (⟨"GraphTexts$Reader", "readEnds", "()Z"⟩, 16) := ⟨⟨by decide +kernel, by decide +kernel⟩, List.mem_of_getElem? (i := 170) (by decide +kernel), List.mem_of_getElem? (i := 417) (by decide +kernel), List.mem_of_getElem? (i := 418) (by decide +kernel)⟩
theorem lw_p12 : lw_okq (⟨"GraphTexts$Reader", "takeNode", "()I"⟩, 16) := ⟨⟨by decide +kernel, by decide +kernel⟩, List.mem_of_getElem? (i := 170) (by decide +kernel), List.mem_of_getElem? (i := 421) (by decide +kernel), List.mem_of_getElem? (i := 422) (by decide +kernel)⟩
theorem lw_p13 : lw_okq (⟨"GraphTexts$Reader", "readValues", "()Z"⟩, 16) := ⟨⟨by decide +kernel, by decide +kernel⟩, List.mem_of_getElem? (i := 170) (by decide +kernel), List.mem_of_getElem? (i := 430) (by decide +kernel), List.mem_of_getElem? (i := 431) (by decide +kernel)⟩
theorem lw_p14 : lw_okq (⟨"GraphTexts$Reader", "readValue", "(I)Z"⟩, 16) := ⟨⟨by decide +kernel, by decide +kernel⟩, List.mem_of_getElem? (i := 170) (by decide +kernel), List.mem_of_getElem? (i := 435) (by decide +kernel), List.mem_of_getElem? (i := 436) (by decide +kernel)⟩
theorem lw_p15 : lw_okq (⟨"GraphTexts$Reader", "readGuessed", "()Z"⟩, 16) := ⟨⟨by decide +kernel, by decide +kernel⟩, List.mem_of_getElem? (i := 170) (by decide +kernel), List.mem_of_getElem? (i := 443) (by decide +kernel), List.mem_of_getElem? (i := 444) (by decide +kernel)⟩
def lw_privs_1 : List (MethodName × Nat) := [(⟨"GraphTexts$Reader", "readLine", "()Z"⟩, 16), (⟨"GraphTexts$Reader", "readComment", "()Z"⟩, 16), (⟨"GraphTexts$Reader", "readCount", "()Z"⟩, 16), (⟨"GraphTexts$Reader", "readGap", "()Z"⟩, 16), (⟨"GraphTexts$Reader", "readNumber", "()Z"⟩, 16), (⟨"GraphTexts$Reader", "readLineEnd", "()Z"⟩, 16), (⟨"GraphTexts$Reader", "readHead", "()Z"⟩, 16), (⟨"GraphTexts$Reader", "readName", "()Z"⟩, 16), (⟨"GraphTexts$Reader", "readQuoted", "()Z"⟩, 16), (⟨"GraphTexts$Reader", "readPlain", "()Z"⟩, 16), (⟨"GraphTexts$Spans", "isSame", "(ILGraphTexts$Row;II)Z"⟩, 4), (⟨"GraphTexts$Reader", "readEnds", "()Z"⟩, 16), (⟨"GraphTexts$Reader", "takeNode", "()I"⟩, 16), (⟨"GraphTexts$Reader", "readValues", "()Z"⟩, 16), (⟨"GraphTexts$Reader", "readValue", "(I)Z"⟩, 16), (⟨"GraphTexts$Reader", "readGuessed", "()Z"⟩, 16)]
theorem lw_r1 : ∀ q ∈ lw_privs_1, lw_okq q := List.forall_mem_cons.mpr ⟨lw_p0, List.forall_mem_cons.mpr ⟨lw_p1, List.forall_mem_cons.mpr ⟨lw_p2, List.forall_mem_cons.mpr ⟨lw_p3, List.forall_mem_cons.mpr ⟨lw_p4, List.forall_mem_cons.mpr ⟨lw_p5, List.forall_mem_cons.mpr ⟨lw_p6, List.forall_mem_cons.mpr ⟨lw_p7, List.forall_mem_cons.mpr ⟨lw_p8, List.forall_mem_cons.mpr ⟨lw_p9, List.forall_mem_cons.mpr ⟨lw_p10, List.forall_mem_cons.mpr ⟨lw_p11, List.forall_mem_cons.mpr ⟨lw_p12, List.forall_mem_cons.mpr ⟨lw_p13, List.forall_mem_cons.mpr ⟨lw_p14, List.forall_mem_cons.mpr ⟨lw_p15, fun _ h => absurd h List.not_mem_nil⟩⟩⟩⟩⟩⟩⟩⟩⟩⟩⟩⟩⟩⟩⟩⟩
theorem lw_p16 : lw_okq (⟨"GraphTexts$Reader", "figuresOnly", "(I)Z"⟩, 16) := ⟨⟨by decide +kernel, by decide +kernel⟩, List.mem_of_getElem? (i := 170) (by decide +kernel), List.mem_of_getElem? (i := 447) (by decide +kernel), List.mem_of_getElem? (i := 448) (by decide +kernel)⟩
theorem lw_p17 : lw_okq (⟨"GraphTexts$Reader", "readFraction", "(I)Z"⟩, 16) := ⟨⟨by decide +kernel, by decide +kernel⟩, List.mem_of_getElem? (i := 170) (by decide +kernel), List.mem_of_getElem? (i := 451) (by decide +kernel), List.mem_of_getElem? (i := 452) (by decide +kernel)⟩
theorem lw_p18 : lw_okq (⟨"GraphTexts$Reader", "readFigures", "(IZ)Z"⟩, 16) := ⟨⟨by decide +kernel, by decide +kernel⟩, List.mem_of_getElem? (i := 170) (by decide +kernel), List.mem_of_getElem? (i := 455) (by decide +kernel), List.mem_of_getElem? (i := 456) (by decide +kernel)⟩
theorem lw_p19 : lw_okq (⟨"GraphTexts$Reader", "thousandthsRead", "()I"⟩, 16) := ⟨⟨by decide +kernel, by decide +kernel⟩, List.mem_of_getElem? (i := 170) (by decide +kernel), List.mem_of_getElem? (i := 459) (by decide +kernel), List.mem_of_getElem? (i := 460) (by decide +kernel)⟩
theorem lw_p20 : lw_okq (⟨"GraphTexts$Reader", "endArc", "()Z"⟩, 16) := ⟨⟨by decide +kernel, by decide +kernel⟩, List.mem_of_getElem? (i := 170) (by decide +kernel), List.mem_of_getElem? (i := 469) (by decide +kernel), List.mem_of_getElem? (i := 470) (by decide +kernel)⟩
theorem lw_p21 : lw_okq (⟨"GraphTexts$Graph", "guessKind", "(I)I"⟩, 15) := ⟨⟨by decide +kernel, by decide +kernel⟩, List.mem_of_getElem? (i := 61) (by decide +kernel), List.mem_of_getElem? (i := 506) (by decide +kernel), List.mem_of_getElem? (i := 507) (by decide +kernel)⟩
theorem lw_p22 : lw_okq (⟨"GraphTexts$Reader", "countIsTrue", "()Z"⟩, 16) := ⟨⟨by decide +kernel, by decide +kernel⟩, List.mem_of_getElem? (i := 170) (by decide +kernel), List.mem_of_getElem? (i := 514) (by decide +kernel), List.mem_of_getElem? (i := 515) (by decide +kernel)⟩
theorem lw_p23 : lw_okq (⟨"GraphTexts$Writer", "writeComment", "(LGraphTexts$Graph;I)V"⟩, 1) := ⟨⟨by decide +kernel, by decide +kernel⟩, List.mem_of_getElem? (i := 51) (by decide +kernel), List.mem_of_getElem? (i := 564) (by decide +kernel), List.mem_of_getElem? (i := 565) (by decide +kernel)⟩
theorem lw_p24 : lw_okq (⟨"GraphTexts$Writer", "writeCount", "(LGraphTexts$Graph;)V"⟩, 1) := ⟨⟨by decide +kernel, by decide +kernel⟩, List.mem_of_getElem? (i := 51) (by decide +kernel), List.mem_of_getElem? (i := 577) (by decide +kernel), List.mem_of_getElem? (i := 578) (by decide +kernel)⟩
theorem lw_p25 : lw_okq (⟨"GraphTexts$Writer", "writeWhole", "(I)V"⟩, 1) := ⟨⟨by decide +kernel, by decide +kernel⟩, List.mem_of_getElem? (i := 51) (by decide +kernel), List.mem_of_getElem? (i := 581) (by decide +kernel), List.mem_of_getElem? (i := 582) (by decide +kernel)⟩
theorem lw_p26 : lw_okq (⟨"GraphTexts$Writer", "writeHead", "(LGraphTexts$Graph;I)V"⟩, 1) := ⟨⟨by decide +kernel, by decide +kernel⟩, List.mem_of_getElem? (i := 51) (by decide +kernel), List.mem_of_getElem? (i := 586) (by decide +kernel), List.mem_of_getElem? (i := 587) (by decide +kernel)⟩
theorem lw_p27 : lw_okq (⟨"GraphTexts$Writer", "writeName", "(LGraphTexts$Spans;I)V"⟩, 1) := ⟨⟨by decide +kernel, by decide +kernel⟩, List.mem_of_getElem? (i := 51) (by decide +kernel), List.mem_of_getElem? (i := 590) (by decide +kernel), List.mem_of_getElem? (i := 591) (by decide +kernel)⟩
theorem lw_p28 : lw_okq (⟨"GraphTexts$Writer", "writeArc", "(LGraphTexts$Graph;I)V"⟩, 1) := ⟨⟨by decide +kernel, by decide +kernel⟩, List.mem_of_getElem? (i := 51) (by decide +kernel), List.mem_of_getElem? (i := 604) (by decide +kernel), List.mem_of_getElem? (i := 605) (by decide +kernel)⟩
theorem lw_p29 : lw_okq (⟨"GraphTexts$Writer", "writeValue", "(LGraphTexts$Graph;II)V"⟩, 1) := ⟨⟨by decide +kernel, by decide +kernel⟩, List.mem_of_getElem? (i := 51) (by decide +kernel), List.mem_of_getElem? (i := 609) (by decide +kernel), List.mem_of_getElem? (i := 610) (by decide +kernel)⟩
theorem lw_p30 : lw_okq (⟨"GraphTexts$Writer", "writeThousandths", "(I)V"⟩, 1) := ⟨⟨by decide +kernel, by decide +kernel⟩, List.mem_of_getElem? (i := 51) (by decide +kernel), List.mem_of_getElem? (i := 613) (by decide +kernel), List.mem_of_getElem? (i := 614) (by decide +kernel)⟩
theorem lw_p31 : lw_okq (⟨"java/lang/NullPointerException", "getExtendedNPEMessage", "()Ljava/lang/String;"⟩, 8) := ⟨⟨by decide +kernel, by decide +kernel⟩, List.mem_of_getElem? (i := 655) (by decide +kernel), List.mem_of_getElem? (i := 653) (by decide +kernel), List.mem_of_getElem? (i := 654) (by decide +kernel)⟩
def lw_privs_2 : List (MethodName × Nat) := [(⟨"GraphTexts$Reader", "figuresOnly", "(I)Z"⟩, 16), (⟨"GraphTexts$Reader", "readFraction", "(I)Z"⟩, 16), (⟨"GraphTexts$Reader", "readFigures", "(IZ)Z"⟩, 16), (⟨"GraphTexts$Reader", "thousandthsRead", "()I"⟩, 16), (⟨"GraphTexts$Reader", "endArc", "()Z"⟩, 16), (⟨"GraphTexts$Graph", "guessKind", "(I)I"⟩, 15), (⟨"GraphTexts$Reader", "countIsTrue", "()Z"⟩, 16), (⟨"GraphTexts$Writer", "writeComment", "(LGraphTexts$Graph;I)V"⟩, 1), (⟨"GraphTexts$Writer", "writeCount", "(LGraphTexts$Graph;)V"⟩, 1), (⟨"GraphTexts$Writer", "writeWhole", "(I)V"⟩, 1), (⟨"GraphTexts$Writer", "writeHead", "(LGraphTexts$Graph;I)V"⟩, 1), (⟨"GraphTexts$Writer", "writeName", "(LGraphTexts$Spans;I)V"⟩, 1), (⟨"GraphTexts$Writer", "writeArc", "(LGraphTexts$Graph;I)V"⟩, 1), (⟨"GraphTexts$Writer", "writeValue", "(LGraphTexts$Graph;II)V"⟩, 1), (⟨"GraphTexts$Writer", "writeThousandths", "(I)V"⟩, 1), (⟨"java/lang/NullPointerException", "getExtendedNPEMessage", "()Ljava/lang/String;"⟩, 8)]
theorem lw_r2 : ∀ q ∈ lw_privs_2, lw_okq q := List.forall_mem_cons.mpr ⟨lw_p16, List.forall_mem_cons.mpr ⟨lw_p17, List.forall_mem_cons.mpr ⟨lw_p18, List.forall_mem_cons.mpr ⟨lw_p19, List.forall_mem_cons.mpr ⟨lw_p20, List.forall_mem_cons.mpr ⟨lw_p21, List.forall_mem_cons.mpr ⟨lw_p22, List.forall_mem_cons.mpr ⟨lw_p23, List.forall_mem_cons.mpr ⟨lw_p24, List.forall_mem_cons.mpr ⟨lw_p25, List.forall_mem_cons.mpr ⟨lw_p26, List.forall_mem_cons.mpr ⟨lw_p27, List.forall_mem_cons.mpr ⟨lw_p28, List.forall_mem_cons.mpr ⟨lw_p29, List.forall_mem_cons.mpr ⟨lw_p30, List.forall_mem_cons.mpr ⟨lw_p31, fun _ h => absurd h List.not_mem_nil⟩⟩⟩⟩⟩⟩⟩⟩⟩⟩⟩⟩⟩⟩⟩⟩
theorem lw_p32 : lw_okq (⟨"java/lang/Throwable", "fillInStackTrace", "(I)Ljava/lang/Throwable;"⟩, 6) := ⟨⟨by decide +kernel, by decide +kernel⟩, List.mem_of_getElem? (i := 664) (by decide +kernel), List.mem_of_getElem? (i := 662) (by decide +kernel), List.mem_of_getElem? (i := 663) (by decide +kernel)⟩
theorem lw_p33 : lw_okq (⟨"GraphTextsModel", "readLine", "()V"⟩, 42) := ⟨⟨by decide +kernel, by decide +kernel⟩, List.mem_of_getElem? (i := 819) (by decide +kernel), List.mem_of_getElem? (i := 967) (by decide +kernel), List.mem_of_getElem? (i := 968) (by decide +kernel)⟩
theorem lw_p34 : lw_okq (⟨"GraphTextsModel", "blanks", "()V"⟩, 42) := ⟨⟨by decide +kernel, by decide +kernel⟩, List.mem_of_getElem? (i := 819) (by decide +kernel), List.mem_of_getElem? (i := 971) (by decide +kernel), List.mem_of_getElem? (i := 972) (by decide +kernel)⟩
theorem lw_p35 : lw_okq (⟨"GraphTextsModel", "here", "()I"⟩, 42) := ⟨⟨by decide +kernel, by decide +kernel⟩, List.mem_of_getElem? (i := 819) (by decide +kernel), List.mem_of_getElem? (i := 975) (by decide +kernel), List.mem_of_getElem? (i := 976) (by decide +kernel)⟩
theorem lw_p36 : lw_okq (⟨"GraphTextsModel", "readComment", "()V"⟩, 42) := ⟨⟨by decide +kernel, by decide +kernel⟩, List.mem_of_getElem? (i := 819) (by decide +kernel), List.mem_of_getElem? (i := 979) (by decide +kernel), List.mem_of_getElem? (i := 980) (by decide +kernel)⟩
theorem lw_p37 : lw_okq (⟨"GraphTextsModel", "wrong", "(II)V"⟩, 42) := ⟨⟨by decide +kernel, by decide +kernel⟩, List.mem_of_getElem? (i := 819) (by decide +kernel), List.mem_of_getElem? (i := 983) (by decide +kernel), List.mem_of_getElem? (i := 984) (by decide +kernel)⟩
theorem lw_p38 : lw_okq (⟨"GraphTextsModel", "laySort", "(I)V"⟩, 42) := ⟨⟨by decide +kernel, by decide +kernel⟩, List.mem_of_getElem? (i := 819) (by decide +kernel), List.mem_of_getElem? (i := 987) (by decide +kernel), List.mem_of_getElem? (i := 988) (by decide +kernel)⟩
theorem lw_p39 : lw_okq (⟨"GraphTextsModel", "readCount", "()V"⟩, 42) := ⟨⟨by decide +kernel, by decide +kernel⟩, List.mem_of_getElem? (i := 819) (by decide +kernel), List.mem_of_getElem? (i := 991) (by decide +kernel), List.mem_of_getElem? (i := 992) (by decide +kernel)⟩
theorem lw_p40 : lw_okq (⟨"GraphTextsModel", "ended", "()V"⟩, 42) := ⟨⟨by decide +kernel, by decide +kernel⟩, List.mem_of_getElem? (i := 819) (by decide +kernel), List.mem_of_getElem? (i := 995) (by decide +kernel), List.mem_of_getElem? (i := 996) (by decide +kernel)⟩
theorem lw_p41 : lw_okq (⟨"GraphTextsModel", "readHead", "()V"⟩, 42) := ⟨⟨by decide +kernel, by decide +kernel⟩, List.mem_of_getElem? (i := 819) (by decide +kernel), List.mem_of_getElem? (i := 1002) (by decide +kernel), List.mem_of_getElem? (i := 1003) (by decide +kernel)⟩
theorem lw_p42 : lw_okq (⟨"GraphTextsModel", "readName", "()V"⟩, 42) := ⟨⟨by decide +kernel, by decide +kernel⟩, List.mem_of_getElem? (i := 819) (by decide +kernel), List.mem_of_getElem? (i := 1006) (by decide +kernel), List.mem_of_getElem? (i := 1007) (by decide +kernel)⟩
theorem lw_p43 : lw_okq (⟨"GraphTextsModel", "readQuoted", "()V"⟩, 42) := ⟨⟨by decide +kernel, by decide +kernel⟩, List.mem_of_getElem? (i := 819) (by decide +kernel), List.mem_of_getElem? (i := 1010) (by decide +kernel), List.mem_of_getElem? (i := 1011) (by decide +kernel)⟩
theorem lw_p44 : lw_okq (⟨"GraphTextsModel", "sign", "(II)V"⟩, 42) := ⟨⟨by decide +kernel, by decide +kernel⟩, List.mem_of_getElem? (i := 819) (by decide +kernel), List.mem_of_getElem? (i := 1014) (by decide +kernel), List.mem_of_getElem? (i := 1015) (by decide +kernel)⟩
theorem lw_p45 : lw_okq (⟨"GraphTextsModel", "isSame", "([II)Z"⟩, 42) := ⟨⟨by decide +kernel, by decide +kernel⟩, List.mem_of_getElem? (i := 819) (by decide +kernel), List.mem_of_getElem? (i := 1021) (by decide +kernel), List.mem_of_getElem? (i := 1022) (by decide +kernel)⟩
theorem lw_p46 : lw_okq (⟨"GraphTextsModel", "layName", "([II)V"⟩, 42) := ⟨⟨by decide +kernel, by decide +kernel⟩, List.mem_of_getElem? (i := 819) (by decide +kernel), List.mem_of_getElem? (i := 1025) (by decide +kernel), List.mem_of_getElem? (i := 1026) (by decide +kernel)⟩
theorem lw_p47 : lw_okq (⟨"GraphTextsModel", "readArc", "()V"⟩, 42) := ⟨⟨by decide +kernel, by decide +kernel⟩, List.mem_of_getElem? (i := 819) (by decide +kernel), List.mem_of_getElem? (i := 1029) (by decide +kernel), List.mem_of_getElem? (i := 1030) (by decide +kernel)⟩
def lw_privs_3 : List (MethodName × Nat) := [(⟨"java/lang/Throwable", "fillInStackTrace", "(I)Ljava/lang/Throwable;"⟩, 6), (⟨"GraphTextsModel", "readLine", "()V"⟩, 42), (⟨"GraphTextsModel", "blanks", "()V"⟩, 42), (⟨"GraphTextsModel", "here", "()I"⟩, 42), (⟨"GraphTextsModel", "readComment", "()V"⟩, 42), (⟨"GraphTextsModel", "wrong", "(II)V"⟩, 42), (⟨"GraphTextsModel", "laySort", "(I)V"⟩, 42), (⟨"GraphTextsModel", "readCount", "()V"⟩, 42), (⟨"GraphTextsModel", "ended", "()V"⟩, 42), (⟨"GraphTextsModel", "readHead", "()V"⟩, 42), (⟨"GraphTextsModel", "readName", "()V"⟩, 42), (⟨"GraphTextsModel", "readQuoted", "()V"⟩, 42), (⟨"GraphTextsModel", "sign", "(II)V"⟩, 42), (⟨"GraphTextsModel", "isSame", "([II)Z"⟩, 42), (⟨"GraphTextsModel", "layName", "([II)V"⟩, 42), (⟨"GraphTextsModel", "readArc", "()V"⟩, 42)]
theorem lw_r3 : ∀ q ∈ lw_privs_3, lw_okq q := List.forall_mem_cons.mpr ⟨lw_p32, List.forall_mem_cons.mpr ⟨lw_p33, List.forall_mem_cons.mpr ⟨lw_p34, List.forall_mem_cons.mpr ⟨lw_p35, List.forall_mem_cons.mpr ⟨lw_p36, List.forall_mem_cons.mpr ⟨lw_p37, List.forall_mem_cons.mpr ⟨lw_p38, List.forall_mem_cons.mpr ⟨lw_p39, List.forall_mem_cons.mpr ⟨lw_p40, List.forall_mem_cons.mpr ⟨lw_p41, List.forall_mem_cons.mpr ⟨lw_p42, List.forall_mem_cons.mpr ⟨lw_p43, List.forall_mem_cons.mpr ⟨lw_p44, List.forall_mem_cons.mpr ⟨lw_p45, List.forall_mem_cons.mpr ⟨lw_p46, List.forall_mem_cons.mpr ⟨lw_p47, fun _ h => absurd h List.not_mem_nil⟩⟩⟩⟩⟩⟩⟩⟩⟩⟩⟩⟩⟩⟩⟩⟩
theorem lw_p48 : lw_okq (⟨"GraphTextsModel", "nodeOf", "(I)I"⟩, 42) := ⟨⟨by decide +kernel, by decide +kernel⟩, List.mem_of_getElem? (i := 819) (by decide +kernel), List.mem_of_getElem? (i := 1033) (by decide +kernel), List.mem_of_getElem? (i := 1034) (by decide +kernel)⟩
theorem lw_p49 : lw_okq (⟨"GraphTextsModel", "isDoubled", "(II)Z"⟩, 42) := ⟨⟨by decide +kernel, by decide +kernel⟩, List.mem_of_getElem? (i := 819) (by decide +kernel), List.mem_of_getElem? (i := 1037) (by decide +kernel), List.mem_of_getElem? (i := 1038) (by decide +kernel)⟩
theorem lw_p50 : lw_okq (⟨"GraphTextsModel", "readValue", "(I)V"⟩, 42) := ⟨⟨by decide +kernel, by decide +kernel⟩, List.mem_of_getElem? (i := 819) (by decide +kernel), List.mem_of_getElem? (i := 1041) (by decide +kernel), List.mem_of_getElem? (i := 1042) (by decide +kernel)⟩
theorem lw_p51 : lw_okq (⟨"GraphTextsModel", "readNumber", "(Z)V"⟩, 42) := ⟨⟨by decide +kernel, by decide +kernel⟩, List.mem_of_getElem? (i := 819) (by decide +kernel), List.mem_of_getElem? (i := 1045) (by decide +kernel), List.mem_of_getElem? (i := 1046) (by decide +kernel)⟩
theorem lw_p52 : lw_okq (⟨"GraphTextsModel", "readDecimals", "()V"⟩, 42) := ⟨⟨by decide +kernel, by decide +kernel⟩, List.mem_of_getElem? (i := 819) (by decide +kernel), List.mem_of_getElem? (i := 1049) (by decide +kernel), List.mem_of_getElem? (i := 1050) (by decide +kernel)⟩
theorem lw_p53 : lw_okq (⟨"GraphTextsModel", "readAny", "(I)V"⟩, 42) := ⟨⟨by decide +kernel, by decide +kernel⟩, List.mem_of_getElem? (i := 819) (by decide +kernel), List.mem_of_getElem? (i := 1053) (by decide +kernel), List.mem_of_getElem? (i := 1054) (by decide +kernel)⟩
theorem lw_p54 : lw_okq (⟨"GraphTextsModel", "plainSort", "()I"⟩, 42) := ⟨⟨by decide +kernel, by decide +kernel⟩, List.mem_of_getElem? (i := 819) (by decide +kernel), List.mem_of_getElem? (i := 1057) (by decide +kernel), List.mem_of_getElem? (i := 1058) (by decide +kernel)⟩
theorem lw_p55 : lw_okq (⟨"GraphTextsModel", "readPlainDecimal", "()V"⟩, 42) := ⟨⟨by decide +kernel, by decide +kernel⟩, List.mem_of_getElem? (i := 819) (by decide +kernel), List.mem_of_getElem? (i := 1061) (by decide +kernel), List.mem_of_getElem? (i := 1062) (by decide +kernel)⟩
theorem lw_p56 : lw_okq (⟨"GraphTextsModel", "layArc", "(II)V"⟩, 42) := ⟨⟨by decide +kernel, by decide +kernel⟩, List.mem_of_getElem? (i := 819) (by decide +kernel), List.mem_of_getElem? (i := 1065) (by decide +kernel), List.mem_of_getElem? (i := 1066) (by decide +kernel)⟩
theorem lw_p57 : lw_okq (⟨"GraphTextsModel", "lie", "(II)V"⟩, 42) := ⟨⟨by decide +kernel, by decide +kernel⟩, List.mem_of_getElem? (i := 819) (by decide +kernel), List.mem_of_getElem? (i := 1069) (by decide +kernel), List.mem_of_getElem? (i := 1070) (by decide +kernel)⟩
theorem lw_p58 : lw_okq (⟨"GraphTextsModel", "guessKinds", "()V"⟩, 42) := ⟨⟨by decide +kernel, by decide +kernel⟩, List.mem_of_getElem? (i := 819) (by decide +kernel), List.mem_of_getElem? (i := 1073) (by decide +kernel), List.mem_of_getElem? (i := 1074) (by decide +kernel)⟩
theorem lw_p59 : lw_okq (⟨"GraphTextsModel", "takeOver", "()V"⟩, 42) := ⟨⟨by decide +kernel, by decide +kernel⟩, List.mem_of_getElem? (i := 819) (by decide +kernel), List.mem_of_getElem? (i := 1077) (by decide +kernel), List.mem_of_getElem? (i := 1078) (by decide +kernel)⟩
theorem lw_p60 : lw_okq (⟨"GraphTextsModel", "isColumn", "(I)Z"⟩, 42) := ⟨⟨by decide +kernel, by decide +kernel⟩, List.mem_of_getElem? (i := 819) (by decide +kernel), List.mem_of_getElem? (i := 1108) (by decide +kernel), List.mem_of_getElem? (i := 1109) (by decide +kernel)⟩
theorem lw_p61 : lw_okq (⟨"GraphTextsModel", "put", "(I)V"⟩, 42) := ⟨⟨by decide +kernel, by decide +kernel⟩, List.mem_of_getElem? (i := 819) (by decide +kernel), List.mem_of_getElem? (i := 1132) (by decide +kernel), List.mem_of_getElem? (i := 1133) (by decide +kernel)⟩
theorem lw_p62 : lw_okq (⟨"GraphTextsModel", "putWhole", "(I)V"⟩, 42) := ⟨⟨by decide +kernel, by decide +kernel⟩, List.mem_of_getElem? (i := 819) (by decide +kernel), List.mem_of_getElem? (i := 1136) (by decide +kernel), List.mem_of_getElem? (i := 1137) (by decide +kernel)⟩
theorem lw_p63 : lw_okq (⟨"GraphTextsModel", "putName", "([II)V"⟩, 42) := ⟨⟨by decide +kernel, by decide +kernel⟩, List.mem_of_getElem? (i := 819) (by decide +kernel), List.mem_of_getElem? (i := 1140) (by decide +kernel), List.mem_of_getElem? (i := 1141) (by decide +kernel)⟩
def lw_privs_4 : List (MethodName × Nat) := [(⟨"GraphTextsModel", "nodeOf", "(I)I"⟩, 42), (⟨"GraphTextsModel", "isDoubled", "(II)Z"⟩, 42), (⟨"GraphTextsModel", "readValue", "(I)V"⟩, 42), (⟨"GraphTextsModel", "readNumber", "(Z)V"⟩, 42), (⟨"GraphTextsModel", "readDecimals", "()V"⟩, 42), (⟨"GraphTextsModel", "readAny", "(I)V"⟩, 42), (⟨"GraphTextsModel", "plainSort", "()I"⟩, 42), (⟨"GraphTextsModel", "readPlainDecimal", "()V"⟩, 42), (⟨"GraphTextsModel", "layArc", "(II)V"⟩, 42), (⟨"GraphTextsModel", "lie", "(II)V"⟩, 42), (⟨"GraphTextsModel", "guessKinds", "()V"⟩, 42), (⟨"GraphTextsModel", "takeOver", "()V"⟩, 42), (⟨"GraphTextsModel", "isColumn", "(I)Z"⟩, 42), (⟨"GraphTextsModel", "put", "(I)V"⟩, 42), (⟨"GraphTextsModel", "putWhole", "(I)V"⟩, 42), (⟨"GraphTextsModel", "putName", "([II)V"⟩, 42)]
theorem lw_r4 : ∀ q ∈ lw_privs_4, lw_okq q := List.forall_mem_cons.mpr ⟨lw_p48, List.forall_mem_cons.mpr ⟨lw_p49, List.forall_mem_cons.mpr ⟨lw_p50, List.forall_mem_cons.mpr ⟨lw_p51, List.forall_mem_cons.mpr ⟨lw_p52, List.forall_mem_cons.mpr ⟨lw_p53, List.forall_mem_cons.mpr ⟨lw_p54, List.forall_mem_cons.mpr ⟨lw_p55, List.forall_mem_cons.mpr ⟨lw_p56, List.forall_mem_cons.mpr ⟨lw_p57, List.forall_mem_cons.mpr ⟨lw_p58, List.forall_mem_cons.mpr ⟨lw_p59, List.forall_mem_cons.mpr ⟨lw_p60, List.forall_mem_cons.mpr ⟨lw_p61, List.forall_mem_cons.mpr ⟨lw_p62, List.forall_mem_cons.mpr ⟨lw_p63, fun _ h => absurd h List.not_mem_nil⟩⟩⟩⟩⟩⟩⟩⟩⟩⟩⟩⟩⟩⟩⟩⟩
theorem lw_p64 : lw_okq (⟨"GraphTextsModel", "putArc", "(I)V"⟩, 42) := ⟨⟨by decide +kernel, by decide +kernel⟩, List.mem_of_getElem? (i := 819) (by decide +kernel), List.mem_of_getElem? (i := 1144) (by decide +kernel), List.mem_of_getElem? (i := 1145) (by decide +kernel)⟩
theorem lw_p65 : lw_okq (⟨"GraphTextsModel", "putNumber", "(I)V"⟩, 42) := ⟨⟨by decide +kernel, by decide +kernel⟩, List.mem_of_getElem? (i := 819) (by decide +kernel), List.mem_of_getElem? (i := 1148) (by decide +kernel), List.mem_of_getElem? (i := 1149) (by decide +kernel)⟩
def lw_privs_5 : List (MethodName × Nat) := [(⟨"GraphTextsModel", "putArc", "(I)V"⟩, 42), (⟨"GraphTextsModel", "putNumber", "(I)V"⟩, 42)]
theorem lw_r5 : ∀ q ∈ lw_privs_5, lw_okq q := List.forall_mem_cons.mpr ⟨lw_p64, List.forall_mem_cons.mpr ⟨lw_p65, fun _ h => absurd h List.not_mem_nil⟩⟩
def lw_privs : List (MethodName × Nat) := lw_privs_1 ++ (lw_privs_2 ++ (lw_privs_3 ++ (lw_privs_4 ++ (lw_privs_5))))
def lw_tbl : List Cond := k2_sels lw_privs ++ tables_1
theorem lw_privs_ok : ∀ q ∈ lw_privs, lw_okq q := by
  show ∀ q ∈ lw_privs_1 ++ (lw_privs_2 ++ (lw_privs_3 ++ (lw_privs_4 ++ (lw_privs_5)))), lw_okq q
  exact List.forall_mem_append.mpr ⟨lw_r1, List.forall_mem_append.mpr ⟨lw_r2, List.forall_mem_append.mpr ⟨lw_r3, List.forall_mem_append.mpr ⟨lw_r4, lw_r5⟩⟩⟩⟩
end
section
/-! ===== BEGIN words of one list among another's, by their places ===== -/
theorem goodIn_r {big : List Cond} (ws : List Cond) (ps : List Nat) (hp : ws = ps.filterMap (fun i => big[i]?)) (h : ws.all goodWord = true) : GoodIn big ws := by
  intro w hw
  have h1 := List.all_eq_true.mp h w hw
  rw [hp] at hw
  obtain ⟨i, -, hi⟩ := List.mem_filterMap.mp hw
  have hm : w ∈ big := by first | exact List.mem_of_getElem? hi | exact List.getElem?_mem hi
  exact ⟨hm, good_of_word h1⟩
theorem goodIn_app {big a b : List Cond} (ha : GoodIn big a) (hb : GoodIn big b) : GoodIn big (a ++ b) := fun w h => (List.mem_append.mp h).elim (ha w) (hb w)
theorem goodIn_ca {big a b : List Cond} {c : Cond} (ha : GoodIn big (c :: a)) (hb : GoodIn big b) : GoodIn big (c :: (a ++ b)) := fun w h => (List.mem_cons.mp h).elim (fun e => ha w (List.mem_cons.mpr (Or.inl e))) (fun h => (List.mem_append.mp h).elim (fun h => ha w (List.mem_cons.mpr (Or.inr h))) (hb w))
theorem goodIn_sub {big ws : List Cond} (hm : ∀ w ∈ ws, w ∈ big) (h : ws.all goodWord = true) : GoodIn big ws := fun w hw => ⟨hm w hw, good_of_word (List.all_eq_true.mp h w hw)⟩
/-! ===== END ===== -/

/-! ===== BEGIN exceptions that leave a method, and their catching by the caller (launches without stack traces) ===== -/
section VXA
/-! The laws vx_back, vx_callV, vx_callS, vx_callSW, vx_throw0, vx_throwS follow proofs of the library, with one case more: JvmDerived/Free/Laws.lean (Back.of_free), Shelf42/LK1.lean (callV, callS), Shelf/KitTraced.lean (throwNew0V, throwNewS). -/
/-- where a method has thrown q: the class by its name, the cell, what was written, the world -/
def vx_T (XC : String → State → State → Prop) (st : State) (q : Addr) (t : State) (mc ms : Nat) (free : Addr → Prop) : Prop :=
  ∃ (E : String) (ce : Cell) (L : List Loc), XC E st t ∧ t.heap[q]? = some ce ∧ ce.vm = .none ∧ st.vm.findClass E = some ce.cls ∧ st.WarmedH t.vm ∧ st.sameButNew ({ t with vm := st.vm } : State) L mc ms ∧ ∀ z ∈ L, free z.base
def vx_Q (Qc : Array Value → State → Outcome → State → Prop) (XC : String → State → State → Prop) (mc ms : Nat) (free : Addr → Prop) : Array Value → State → Outcome → State → Prop := fun a st o t =>
  (Qc a st o t ∧ ∃ L, FrameEnd st o t L mc ms ∧ ∀ q ∈ L, free q.base) ∨ ∃ q, o = .threw q ∧ vx_T XC st q t mc ms free
/-- a callee that returns or throws -/
def vx_Met (l : Launch) (y : MethodName) (ws : List Cond) (rm : Room) (Pc : Array Value → State → Prop) (Qc : Array Value → State → Outcome → State → Prop) (XC : String → State → State → Prop) (mc ms : Nat) (free : Addr → Prop) : Prop :=
  MetFree l y (headSpec ws rm) Pc (fun _ _ _ _ _ => True) (vx_Q Qc XC mc ms free)
def vx_Post (XC : String → State → State → Prop) (mc ms : Nat) (free : Addr → Prop) : Pt → Array Value → Addr → Pt → Prop := fun A a q B =>
  ∃ (g : JFrame) (mk : MethodId) (t : State) (L : List Loc) (E : String) (ce : Cell), B.U.heap = t.heap ∧ B.U.vm = t.vm ∧ XC E (A.U.calling g mk a) t ∧ t.heap[q]? = some ce ∧ ce.vm = .none ∧ A.U.vm.findClass E = some ce.cls ∧ B.locs = A.locs ++ L ∧ (∀ z ∈ L, free z.base) ∧ B.cells = A.cells + mc ∧ B.slots = A.slots + ms
def vx_Back (l : Launch) (R : Room) (p : Program) (e : Env) (below : List Frame) (s : State) (sargs : Array Value) (y : MethodName) (len W9 : Nat)
    (Pre : Pt → Array Value → Prop) (Post : Pt → Array Value → Option Value → Pt → Prop) (PostX : Pt → Array Value → Addr → Pt → Prop) : Prop :=
  ∀ (m : MethodId) (meth : Method) (c : Code) (A : Pt) (g : JFrame) (ig : Instr) (mk : MethodId) (a : Array Value),
    Stand p l e R s m sargs below meth c A.U A.locs A.cells A.slots → g.method = m → g.locals.size = c.maxLocals → decode c.code g.pc = .ok (ig, len) →
    2 * g.monitorRoom + (g.stack.map fun v => v.category).sum ≤ W9 → A.U.methodNamed? y = some mk → Pre A a →
    (∃ (v : Option Value) (B : Pt), Stand p l e R s m sargs below meth c B.U B.locs B.cells B.slots ∧ Post A a v B ∧
      Steps p.tables e below (doInvoke e (A.U.setTop g) [] mk a).1 (B.U.setTop { g with pc := g.pc + len, stack := v.toList ++ g.stack })) ∨
    (∃ (q : Addr) (B : Pt), Stand p l e R s m sargs below meth c B.U B.locs B.cells B.slots ∧ PostX A a q B ∧
      Steps p.tables e below (doInvoke e (A.U.setTop g) [] mk a).1 ((B.U.setTop g).pushFrame (.throwing q)))
section Payer
variable {l : Launch} {R : Room} {p : Program} {e : Env} {below : List Frame} {s : State} {sargs : Array Value} {y : MethodName} {len W9 : Nat}
theorem vx_back {ws : List Cond} {rm : Room} {Pc : Array Value → State → Prop} {Qc : Array Value → State → Outcome → State → Prop} {XC : String → State → State → Prop} {mc ms : Nat} {free : Addr → Prop} {bytes : ByteArray} {maxL : Nat} {ret : Option FieldType}
    (hM : vx_Met l y ws rm Pc Qc XC mc ms free) (hblind : FrameBlind Pc) (hrc : rm.cells = mc) (hrs : rm.slots = ms)
    (hframes : rm.frames + 1 ≤ R.frames) (hlocals : W9 + (maxL + 11) + rm.locals ≤ R.locals)
    (hws : ∀ w ∈ ws, ∀ a' U, s.WarmedH U.vm → w.before a' U = true) (hcode : Cond.code y bytes maxL ret ∈ ws) (hinit : ∀ a' U, s.WarmedH U.vm → (Cond.initialized y.cls).before a' U = true) :
    vx_Back l R p e below s sargs y len W9 (PreOf R mc ms Pc) (PostOf Qc mc ms free) (vx_Post XC mc ms free) := by
  intro m meth c A g ig mk a X hg hsize hdg hW hn hp
  have h1 : (headSpec ws rm).pre.before a A.U = true := atoms_intro fun w hw => hws w hw _ _ X.warmed
  have h2 : (Cond.code y bytes maxL ret).before a A.U = true := hws _ hcode _ _ X.warmed
  have h3 : (Cond.initialized y.cls).before a A.U = true := hinit _ _ X.warmed
  have h4 : A.cells + (headSpec ws rm).room.cells ≤ R.cells := by rw [show (headSpec ws rm).room.cells = mc from hrc]; exact hp.1
  have h5 : A.slots + (headSpec ws rm).room.slots ≤ R.slots := by rw [show (headSpec ws rm).room.slots = ms from hrs]; exact hp.2.1
  have hPc : Pc a (A.U.calling g mk a) := hblind _ _ _ _ hp.2.2
  obtain ⟨U, Ls, c0, s0⟩ := A
  dsimp only [Pt.U, Pt.locs, Pt.cells, Pt.slots] at h1 h2 h3 h4 h5 X hn hPc ⊢
  obtain ⟨methY, cY, hmY, hcY, -, hlY, -, -, -, -⟩ := Cond.code_spec hn h2
  obtain ⟨kY, hkY, -⟩ := className_of_methodNamed hn
  have hinitY : kY.init = .initialized := Cond.initialized_spec (findClass_of_methodNamed hn) hkY h3
  have h : At U g.method c below := by rw [hg]; exact X.here
  have hlocals9 : W9 + (maxL + 11) + (headSpec ws rm).room.locals ≤ R.locals := hlocals
  have happ : (headSpec ws rm).appliesLoose y e.platform (U.calling g mk a) = true :=
    Spec.appliesLoose_calling (g := g) h hdg hn hkY hinitY
      (X.room_calling (g := g) (R' := (headSpec ws rm).room) hsize hmY hcY hframes (by rw [hlY]; omega) h4 h5) h1
  obtain ⟨mid, hmid⟩ := h.above
  have hfr : (U.setTop g).frames = (.java g :: mid) ++ below := by rw [State.frames_setTop' g h.top, hmid]; rfl
  obtain ⟨o, s₂, hsteps, -, hend, hq⟩ := Steps.callFree hM p X.admits X.cas X.clock (acts := []) hfr happ hPc trivial
  have hq' : vx_Q Qc XC mc ms free a (U.calling g mk a) o s₂ := hq
  rw [State.frames_setTop' g h.top] at hend
  obtain ⟨g₀, hg0⟩ := Option.isSome_iff_exists.mp h.top
  obtain ⟨r, hr⟩ := State.topJava?_eq_some.mp hg0
  have hr' : (({ U with heap := s₂.heap, slotsUsed := s₂.slotsUsed } : State).setVm s₂.vm).frames = .java g₀ :: r := hr
  rcases hq' with ⟨hqc, L, hfe, hL⟩ | ⟨q, rfl, E, ce, L, hx, hce, hcv, hcl, hW₂, hsm, hL⟩
  · obtain ⟨⟨v, rfl⟩, hW₂, e2, q2, q3, q4, q5, q6⟩ := id hfe
    have e3 : s₂ = ({ (U.calling g mk a).setFrames s₂.frames with heap := s₂.heap, slotsUsed := s₂.slotsUsed } : State).setVm s₂.vm := by
      have : s₂ = ({ s₂ with vm := (U.calling g mk a).vm } : State).setVm s₂.vm := rfl
      rw [e2] at this
      exact this
    obtain ⟨c₂, i₂, len₂, hc₂, hd₂, hf₂⟩ := hend
    have hW' : U.WarmedH s₂.vm := hW₂
    have hcc : c₂ = c := by
      have h1 : s₂.code? g.method = U.code? g.method := by
        rw [State.code?_eq, State.code?_eq, hW'.alike.method?]
      exact Option.some.inj (hc₂.symm.trans (h1.trans h.code))
    subst hcc
    have hlen : len₂ = len := by rw [hdg] at hd₂; cases hd₂; rfl
    subst hlen
    have hs₂ : s₂ = (({ U with heap := s₂.heap, slotsUsed := s₂.slotsUsed } : State).setVm s₂.vm).setTop { g with pc := g.pc + len₂, stack := v.toList ++ g.stack } := by
      refine e3.trans ?_
      rw [hf₂, State.calling_eq h.top, State.setFrames_setFrames, State.setTop_of_frames _ hr', hr]
      rfl
    have hsame : U.sameButNew ({ U with heap := s₂.heap, slotsUsed := s₂.slotsUsed } : State) L mc ms := by
      refine ⟨?_, q2, q3, q4, q5, q6⟩
      obtain ⟨t, ht, -⟩ := State.frames_cons hr
      show ({ U with heap := s₂.heap, slotsUsed := s₂.slotsUsed } : State) = { U.setFrames U.frames with heap := s₂.heap, slotsUsed := s₂.slotsUsed }
      rw [State.setFrames_self ht]
    subst hg
    refine Or.inl ⟨v, ⟨(({ U with heap := s₂.heap, slotsUsed := s₂.slotsUsed } : State).setVm s₂.vm), Ls ++ L, c0 + mc, s0 + ms⟩,
      ⟨X.admits, X.cas, X.clock, X.frames, X.room, X.hears, X.method, X.code, (X.here.setHeapUsed s₂.heap s₂.slotsUsed).setVm hW'.alike, X.tail, State.WarmedH.trans X.warmed hW', X.limits, X.bytes, X.same.trans (hsame.setVm s.vm)⟩,
      ⟨g, mk, s₂, L, rfl, rfl, hqc, rfl, hL, rfl, rfl⟩, ?_⟩
    show Steps p.tables e below _ ((({ U with heap := s₂.heap, slotsUsed := s₂.slotsUsed } : State).setVm s₂.vm).setTop { g with pc := g.pc + len₂, stack := v.toList ++ g.stack })
    rw [← hs₂]
    exact hsteps
  · obtain ⟨e2, q2, q3, q4, q5, q6⟩ := id hsm
    have e3 : s₂ = ({ (U.calling g mk a).setFrames s₂.frames with heap := s₂.heap, slotsUsed := s₂.slotsUsed } : State).setVm s₂.vm := by
      have : s₂ = ({ s₂ with vm := (U.calling g mk a).vm } : State).setVm s₂.vm := rfl
      rw [e2] at this
      exact this
    have hf₂ : s₂.frames = .throwing q :: .java g :: U.frames.tail := hend
    have hW' : U.WarmedH s₂.vm := hW₂
    have hs₂ : s₂ = ((({ U with heap := s₂.heap, slotsUsed := s₂.slotsUsed } : State).setVm s₂.vm).setTop g).pushFrame (.throwing q) := by
      refine e3.trans ?_
      rw [hf₂, State.calling_eq h.top, State.setFrames_setFrames, State.pushFrame, State.frames_setTop _ hr', State.setTop_of_frames _ hr', State.setFrames_setFrames, hr]
      rfl
    have hsame : U.sameButNew ({ U with heap := s₂.heap, slotsUsed := s₂.slotsUsed } : State) L mc ms := by
      refine ⟨?_, q2, q3, q4, q5, q6⟩
      obtain ⟨t, ht, -⟩ := State.frames_cons hr
      show ({ U with heap := s₂.heap, slotsUsed := s₂.slotsUsed } : State) = { U.setFrames U.frames with heap := s₂.heap, slotsUsed := s₂.slotsUsed }
      rw [State.setFrames_self ht]
    subst hg
    refine Or.inr ⟨q, ⟨(({ U with heap := s₂.heap, slotsUsed := s₂.slotsUsed } : State).setVm s₂.vm), Ls ++ L, c0 + mc, s0 + ms⟩,
      ⟨X.admits, X.cas, X.clock, X.frames, X.room, X.hears, X.method, X.code, (X.here.setHeapUsed s₂.heap s₂.slotsUsed).setVm hW'.alike, X.tail, State.WarmedH.trans X.warmed hW', X.limits, X.bytes, X.same.trans (hsame.setVm s.vm)⟩,
      ⟨g, mk, s₂, L, E, ce, rfl, rfl, hx, hce, hcv, hcl, rfl, hL, rfl, rfl⟩, ?_⟩
    show Steps p.tables e below _ (((({ U with heap := s₂.heap, slotsUsed := s₂.slotsUsed } : State).setVm s₂.vm).setTop g).pushFrame (.throwing q))
    rw [← hs₂]
    exact hsteps
end Payer
section Calls
variable {p : Program} {l : Launch} {e : Env} {R : Room} {s : State} {m : MethodId} {args : Array Value} {below : List Frame} {meth : Method} {c : Code} {T : State} {locs : List Loc} {cells slots : Nat}
theorem vx_callV (X : Stand p l e R s m args below meth c T locs cells slots) (hexec : p.tables.exec = Jvm.exec) {own C : String} {index : Nat} {y : MethodName} {bytes : ByteArray} {maxL : Nat} {ret : Option FieldType}
    (hown : s.vm.findClass own = some m.cls) (hlink : (Cond.methodLink own index y).before args s = true) (hinst : (Cond.instanceMethod y).before args s = true) (hsel : (Cond.selects C y y).before args s = true)
    (hcode : (Cond.code y bytes maxL ret).before args s = true) (hy : y.cls ≠ "java/lang/invoke/MethodHandle" ∧ y.cls ≠ "java/lang/invoke/VarHandle")
    {W9 : Nat} {Pre : Pt → Array Value → Prop} {Post : Pt → Array Value → Option Value → Pt → Prop} {PostX : Pt → Array Value → Addr → Pt → Prop} (hK : vx_Back l R p e below s args y 3 W9 Pre Post PostX)
    {b : Addr} {cellB : Cell} (hcell : T.heap[b]? = some cellB) (hobj : cellB.vm.isStatics = false) (hcls : s.vm.findClass C = some cellB.cls)
    {g : JFrame} (hg : g.method = m) (hsize : g.locals.size = c.maxLocals) {argsL rest : List Value} (hlen : ∀ sig, parseMethodDescriptor y.desc = some sig → argsL.length = sig.parameters.length)
    (hstack : g.stack = argsL.reverse ++ .ref b :: rest) (hW : 2 * g.monitorRoom + (rest.map fun v => v.category).sum ≤ W9) (hdg : decode c.code g.pc = .ok (.invokevirtual index, 3))
    (hpre : ∀ vm₁, s.WarmedH vm₁ → Pre ⟨T.setVm vm₁, locs, cells, slots⟩ (Value.ref b :: argsL).toArray) :
    (∃ (v : Option Value) (vm₁ : Vm) (B : Pt), s.WarmedH vm₁ ∧ Stand p l e R s m args below meth c B.U B.locs B.cells B.slots ∧ Post ⟨T.setVm vm₁, locs, cells, slots⟩ (Value.ref b :: argsL).toArray v B ∧
      ∀ target, Steps p.tables e below (B.U.setTop { g with pc := g.pc + 3, stack := v.toList ++ rest }) target → Steps p.tables e below (T.setTop g) target) ∨
    (∃ (q : Addr) (vm₁ : Vm) (B : Pt), s.WarmedH vm₁ ∧ Stand p l e R s m args below meth c B.U B.locs B.cells B.slots ∧ PostX ⟨T.setVm vm₁, locs, cells, slots⟩ (Value.ref b :: argsL).toArray q B ∧
      Steps p.tables e below (T.setTop g) ((B.U.setTop { g with stack := rest }).pushFrame (.throwing q))) := by
  obtain ⟨mk, methM, hnamed, hmethM, hstM, habM⟩ := Cond.instanceMethod_spec hinst
  obtain ⟨methM', cM, hmethM', -, -, -, -, -, -, hsigM⟩ := Cond.code_spec hnamed hcode
  cases hmethM.symm.trans hmethM'
  obtain ⟨c2, r2, m2, q1, q2, q3, q4, kP, hkP, hkPi⟩ := Cond.selects_spec hsel
  cases hcls.symm.trans q1
  cases (State.methodFound?_of_named hnamed hy).symm.trans q2
  cases hnamed.symm.trans q3
  have hselP : selectMethod e.platform s.vm cellB.cls mk = .method mk := by rw [Launch.admits_selectMethod X.admits]; exact q4
  obtain ⟨vm₁, X₁, hstep₁⟩ := X.invokevirtual hexec hown hlink hnamed hmethM hstM hkP hkPi hy (a := b) (cell := cellB) hcell
    (fun z h => by rw [h] at hobj; cases hobj) hselP hmethM habM hkP hkPi (g := g) hg (argsL := argsL) (rest := rest) (hlen _ hsigM) hstack hdg
  rcases hK m meth c ⟨T.setVm vm₁, locs, cells, slots⟩ { g with stack := rest } (.invokevirtual index) mk (Value.ref b :: argsL).toArray X₁ hg hsize hdg hW (X₁.named hnamed) (hpre vm₁ X₁.warmed) with ⟨v, B, X', hpost, hsteps⟩ | ⟨q, B, X', hpost, hsteps⟩
  · exact Or.inl ⟨v, vm₁, B, X₁.warmed, X', hpost, fun target h => hstep₁ _ fun acts => by rw [doInvoke_state]; exact hsteps.trans h⟩
  · exact Or.inr ⟨q, vm₁, B, X₁.warmed, X', hpost, hstep₁ _ fun acts => by rw [doInvoke_state]; exact hsteps⟩
theorem vx_callS (X : Stand p l e R s m args below meth c T locs cells slots) (hexec : p.tables.exec = Jvm.exec) {own : String} {index : Nat} {y : MethodName} {bytes : ByteArray} {maxL : Nat} {ret : Option FieldType}
    (hown : s.vm.findClass own = some m.cls) (hlink : (Cond.methodLink own index y).before args s = true) (hstat : (Cond.static y).before args s = true) (hinit : (Cond.initialized y.cls).before args s = true)
    (hcode : (Cond.code y bytes maxL ret).before args s = true) (hy : y.cls ≠ "java/lang/invoke/MethodHandle" ∧ y.cls ≠ "java/lang/invoke/VarHandle")
    {W9 : Nat} {Pre : Pt → Array Value → Prop} {Post : Pt → Array Value → Option Value → Pt → Prop} {PostX : Pt → Array Value → Addr → Pt → Prop} (hK : vx_Back l R p e below s args y 3 W9 Pre Post PostX)
    {g : JFrame} (hg : g.method = m) (hsize : g.locals.size = c.maxLocals) {argsL rest : List Value} (hlen : ∀ sig, parseMethodDescriptor y.desc = some sig → argsL.length = sig.parameters.length)
    (hstack : g.stack = argsL.reverse ++ rest) (hW : 2 * g.monitorRoom + (rest.map fun v => v.category).sum ≤ W9) (hdg : decode c.code g.pc = .ok (.invokestatic index, 3))
    (hpre : ∀ vm₁, s.WarmedH vm₁ → Pre ⟨T.setVm vm₁, locs, cells, slots⟩ argsL.toArray) :
    (∃ (v : Option Value) (vm₁ : Vm) (B : Pt), s.WarmedH vm₁ ∧ Stand p l e R s m args below meth c B.U B.locs B.cells B.slots ∧ Post ⟨T.setVm vm₁, locs, cells, slots⟩ argsL.toArray v B ∧
      ∀ target, Steps p.tables e below (B.U.setTop { g with pc := g.pc + 3, stack := v.toList ++ rest }) target → Steps p.tables e below (T.setTop g) target) ∨
    (∃ (q : Addr) (vm₁ : Vm) (B : Pt), s.WarmedH vm₁ ∧ Stand p l e R s m args below meth c B.U B.locs B.cells B.slots ∧ PostX ⟨T.setVm vm₁, locs, cells, slots⟩ argsL.toArray q B ∧
      Steps p.tables e below (T.setTop g) ((B.U.setTop { g with stack := rest }).pushFrame (.throwing q))) := by
  obtain ⟨mk, hnamed⟩ := Cond.code_named hcode
  obtain ⟨methM, cM, hmethM, -, -, -, -, -, -, hsigM⟩ := Cond.code_spec hnamed hcode
  have hstatic : methM.isStatic = true := Cond.static_spec hnamed hmethM hstat
  obtain ⟨kP, hkP, -⟩ := className_of_methodNamed hnamed
  have hinitP : kP.init = .initialized := Cond.initialized_spec (findClass_of_methodNamed hnamed) hkP hinit
  obtain ⟨vm₁, X₁, hstep₁⟩ := X.invokestatic hexec hown hlink hnamed hmethM hstatic hkP hinitP hy (g := g) hg (argsL := argsL) (rest := rest) (hlen _ hsigM) hstack hdg
  rcases hK m meth c ⟨T.setVm vm₁, locs, cells, slots⟩ { g with stack := rest } (.invokestatic index) mk argsL.toArray X₁ hg hsize hdg hW (X₁.named hnamed) (hpre vm₁ X₁.warmed) with ⟨v, B, X', hpost, hsteps⟩ | ⟨q, B, X', hpost, hsteps⟩
  · exact Or.inl ⟨v, vm₁, B, X₁.warmed, X', hpost, fun target h => hstep₁ _ fun acts => by rw [doInvoke_state]; exact hsteps.trans h⟩
  · exact Or.inr ⟨q, vm₁, B, X₁.warmed, X', hpost, hstep₁ _ fun acts => by rw [doInvoke_state]; exact hsteps⟩
end Calls
theorem vx_cls {s : State} {T : State} {vm₁ : Vm} {E : String} {k : ClassId} (hW : s.WarmedH vm₁) (h : (T.setVm vm₁).vm.findClass E = some k) : s.vm.findClass E = some k := by
  have h1 : vm₁.findClass E = some k := h
  rw [hW.alike.findClass] at h1
  exact h1
/-- the method's frame g, with q thrown over it -/
def vx_W (p : Program) (l : Launch) (e : Env) (R : Room) (s : State) (m : MethodId) (args : Array Value) (below : List Frame) (meth : Method) (c : Code) (H : Heap) (locs : List Loc) (cells slots : Nat) (Q : State → Prop) (g : JFrame) (q : Addr) : Prop :=
  ∀ T : State, T.heap = H → Stand p l e R s m args below meth c T locs cells slots → ∃ t, Steps p.tables e below ((T.setTop g).pushFrame (.throwing q)) t ∧ Q t
def vx_Run (p : Program) (l : Launch) (e : Env) (R : Room) (s : State) (m : MethodId) (args : Array Value) (below : List Frame) (meth : Method) (c : Code) (H : Heap) (locs : List Loc) (cells slots mc ms : Nat) (g : JFrame) (rest : List Value) (Qa : State → Outcome → State → Prop) (XC : String → State → State → Prop) (free : Addr → Prop) : Prop :=
  ∀ T : State, T.heap = H → Stand p l e R s m args below meth c T locs cells slots →
    (∃ (v : Option Value) (st₀ t T' : State) (L : List Loc), st₀.heap = H ∧ Stand p l e R s m args below meth c T' (locs ++ L) (cells + mc) (slots + ms) ∧ (∀ q ∈ L, free q.base) ∧ T'.heap = t.heap ∧ T'.vm = t.vm ∧ Qa st₀ (.returned v) t ∧
      Goes p e below T g T' { g with pc := g.pc + 3, stack := v.toList ++ rest }) ∨
    (∃ (q : Addr) (st₀ t T' : State) (L : List Loc) (E : String) (ce : Cell), st₀.heap = H ∧ Stand p l e R s m args below meth c T' (locs ++ L) (cells + mc) (slots + ms) ∧ (∀ z ∈ L, free z.base) ∧ T'.heap = t.heap ∧ T'.vm = t.vm ∧ XC E st₀ t ∧ t.heap[q]? = some ce ∧ ce.vm = .none ∧ s.vm.findClass E = some ce.cls ∧
      Steps p.tables e below (T.setTop g) ((T'.setTop { g with stack := rest }).pushFrame (.throwing q)))
def vx_X {S : Type} (px : S → Prop) (B : String → S → State → Prop) (A : Nat → Prop) : String → State → State → Prop := fun E st t => ∃ u : S, px u ∧ B E u t ∧ va_F A st t
section Runs
variable {p : Program} {l : Launch} {e : Env} {R : Room} {s : State} {m : MethodId} {args : Array Value} {below : List Frame} {meth : Method} {c : Code} {H : Heap} {locs : List Loc} {cells slots : Nat}
variable {y : MethodName} {bytes cc : ByteArray} {maxL nL mc ms n index : Nat} {ret : Option FieldType} {ws : List Cond} {rm : Room} {Pc : Array Value → State → Prop} {Qc : Array Value → State → Outcome → State → Prop} {XC : String → State → State → Prop} {free : Addr → Prop} {Ts : List Cond} {own C : String} {b : Addr} {As rest : List Value} {g : JFrame}
theorem vx_callBack (cb : CallB R s args own index y bytes maxL ret ws rm mc ms n) (hM : vx_Met l y ws rm Pc Qc XC mc ms free) (hbl : FrameBlind Pc) : vx_Back l R p e below s args y 3 8 (PreOf R mc ms Pc) (PostOf Qc mc ms free) (vx_Post XC mc ms free) := by
  obtain ⟨hrc, hrs, hfr, hlo, hws, hcw, -, hini, -⟩ := cb
  exact vx_back (bytes := bytes) (maxL := maxL) (ret := ret) hM hbl hrc hrs hfr hlo hws hcw (fun a' U hW => word_at hW (Or.inl (by first | rfl | simp [Cond.onTables, Cond.keeps, Cond.steady])) hini)
theorem vx_runV (S : CallFix p m c cc nL s args Ts own) (hM : vx_Met l y ws rm Pc Qc XC mc ms free) (cw : CallW R s args own C index y bytes maxL ret ws rm mc ms n) (hp : PreV s H C b Pc As)
    (hg : g.method = m) (hn : As.length = n) (hsize : g.locals.size = nL) (hstack : g.stack = As.reverse ++ .ref b :: rest) (hW : 2 * g.monitorRoom + (rest.map fun v => v.category).sum ≤ 8) (hdg : decode cc g.pc = .ok (.invokevirtual index, 3)) (hf : cells + mc ≤ R.cells ∧ slots + ms ≤ R.slots) :
    vx_Run p l e R s m args below meth c H locs cells slots mc ms g rest (Qc (Value.ref b :: As).toArray) XC free := by
  have hK : vx_Back l R p e below s args y 3 8 (PreOf R mc ms Pc) (PostOf Qc mc ms free) (vx_Post XC mc ms free) := vx_callBack cw.1 hM hp.1
  obtain ⟨⟨-, -, -, -, -, -, hcode, -, hy, hlen, hl⟩, hin, hse⟩ := cw
  obtain ⟨hx, hb, hml, ho, -⟩ := S
  obtain ⟨-, ⟨cellB, hcB, hoB, hclB⟩, hPc⟩ := hp
  intro T hT X
  rcases vx_callV X hx (C := C) (bytes := bytes) (maxL := maxL) (ret := ret) ho hl hin hse hcode hy hK (by rw [hT]; exact hcB) hoB hclB hg (hsize.trans hml.symm) (argsL := As) (rest := rest) (fun sig h => hn.trans (hlen sig h)) hstack hW (by rw [hb]; exact hdg)
    (fun vm₁ hW₁ => ⟨hf.1, hf.2, hPc (T.setVm vm₁) hT hW₁⟩) with ⟨v, vm₁, ⟨U', l2, c2, s2⟩, hW₁, X', ⟨g', mk, t, L, e1, e2, hq, h1, hL, h2, h3⟩, st⟩ | ⟨q, vm₁, ⟨U', l2, c2, s2⟩, hW₁, X', ⟨g', mk, t, L, E, ce, e1, e2, hq, hce, hcv, hcl, h1, hL, h2, h3⟩, st⟩
  · dsimp only [Pt.U, Pt.locs, Pt.cells, Pt.slots] at X' e1 e2 h1 h2 h3 st
    subst h1; subst h2; subst h3
    exact Or.inl ⟨v, (T.setVm vm₁).calling g' mk (Value.ref b :: As).toArray, t, U', L, hT, X', hL, e1, e2, hq, st⟩
  · dsimp only [Pt.U, Pt.locs, Pt.cells, Pt.slots] at X' e1 e2 h1 h2 h3 st hcl
    subst h1; subst h2; subst h3
    exact Or.inr ⟨q, (T.setVm vm₁).calling g' mk (Value.ref b :: As).toArray, t, U', L, E, ce, hT, X', hL, e1, e2, hq, hce, hcv, vx_cls hW₁ hcl, st⟩
theorem vx_runS (S : CallFix p m c cc nL s args Ts own) (hM : vx_Met l y ws rm Pc Qc XC mc ms free) (cw : CallB R s args own index y bytes maxL ret ws rm mc ms n ∧ (Cond.static y).before args s = true) (hp : PreS s H Pc As)
    (hg : g.method = m) (hn : As.length = n) (hsize : g.locals.size = nL) (hstack : g.stack = As.reverse ++ rest) (hW : 2 * g.monitorRoom + (rest.map fun v => v.category).sum ≤ 8) (hdg : decode cc g.pc = .ok (.invokestatic index, 3)) (hf : cells + mc ≤ R.cells ∧ slots + ms ≤ R.slots) :
    vx_Run p l e R s m args below meth c H locs cells slots mc ms g rest (Qc As.toArray) XC free := by
  have hK : vx_Back l R p e below s args y 3 8 (PreOf R mc ms Pc) (PostOf Qc mc ms free) (vx_Post XC mc ms free) := vx_callBack cw.1 hM hp.1
  obtain ⟨⟨-, -, -, -, -, -, hcode, hini, hy, hlen, hl⟩, hstt⟩ := cw
  obtain ⟨hx, hb, hml, ho, -⟩ := S
  intro T hT X
  rcases vx_callS X hx (bytes := bytes) (maxL := maxL) (ret := ret) ho hl hstt hini hcode hy hK hg (hsize.trans hml.symm) (argsL := As) (rest := rest) (fun sig h => hn.trans (hlen sig h)) hstack hW (by rw [hb]; exact hdg)
    (fun vm₁ hW₁ => ⟨hf.1, hf.2, hp.2 (T.setVm vm₁) hT hW₁⟩) with ⟨v, vm₁, ⟨U', l2, c2, s2⟩, hW₁, X', ⟨g', mk, t, L, e1, e2, hq, h1, hL, h2, h3⟩, st⟩ | ⟨q, vm₁, ⟨U', l2, c2, s2⟩, hW₁, X', ⟨g', mk, t, L, E, ce, e1, e2, hq, hce, hcv, hcl, h1, hL, h2, h3⟩, st⟩
  · dsimp only [Pt.U, Pt.locs, Pt.cells, Pt.slots] at X' e1 e2 h1 h2 h3 st
    subst h1; subst h2; subst h3
    exact Or.inl ⟨v, (T.setVm vm₁).calling g' mk As.toArray, t, U', L, hT, X', hL, e1, e2, hq, st⟩
  · dsimp only [Pt.U, Pt.locs, Pt.cells, Pt.slots] at X' e1 e2 h1 h2 h3 st hcl
    subst h1; subst h2; subst h3
    exact Or.inr ⟨q, (T.setVm vm₁).calling g' mk As.toArray, t, U', L, E, ce, hT, X', hL, e1, e2, hq, hce, hcv, vx_cls hW₁ hcl, st⟩
end Runs
section Rows
variable {p : Program} {l : Launch} {e : Env} {R : Room} {s : State} {m : MethodId} {args : Array Value} {below : List Frame} {meth : Method} {c : Code} {H : Heap} {locs : List Loc} {cells slots : Nat} {Q : State → Prop}
variable {mc ms : Nat} {free : Addr → Prop} {A0 A1 : Nat → Prop} {H0 : Heap} {a : Array Value} {pc : Nat} {ls : Array Slot} {st0 rest : List Value}
theorem vx_keep {st₀ t T' : State} {L : List Loc} (h0 : st₀.heap = H) (e1 : T'.heap = t.heap) (hS : va_S A0 H0 H locs) (hA : ∀ q, q < H.size → A1 q → A0 q) (hf : ∀ q, free q → A0 q) (hL : ∀ q ∈ L, free q.base) (hF : va_F A1 st₀ t) :
    H.size ≤ T'.heap.size ∧ (∀ q : Nat, q < H.size → ¬ A1 q → T'.heap[q]? = H[q]?) ∧ va_S A0 H0 T'.heap (locs ++ L) := by
  obtain ⟨hz, hk⟩ := hF
  rw [h0] at hz hk
  exact ⟨by rw [e1]; exact hz, fun q h1 h2 => by rw [e1]; exact hk q h1 h2,
    ⟨Nat.le_trans hS.1 (by rw [e1]; exact hz), fun q h1 h2 => by rw [e1, hk q (Nat.lt_of_lt_of_le h1 hS.1) (fun z => h2 (hA q (Nat.lt_of_lt_of_le h1 hS.1) z))]; exact hS.2.1 q h1 h2, fun q hq => by
      rcases List.mem_append.mp hq with h | h
      · exact hS.2.2 q h
      · exact hf _ (hL q h)⟩⟩
theorem vx_calli {S SX : Type} {post : Int32 → S → Prop} {px : SX → Prop} {B : S → State → Prop} {BX : String → SX → State → Prop} {AX : Nat → Prop} (hr : vx_Run p l e R s m args below meth c H locs cells slots mc ms (F0 m pc ls st0) rest (va_Qi post B A1 a) (vx_X px BX AX) free) (hS : va_S A0 H0 H locs) (hA : ∀ q, q < H.size → A1 q → A0 q) (hf : ∀ q, free q → A0 q) (hAX : ∀ q, q < H.size → AX q → A0 q)
    (kx : ∀ (E : String) (ce : Cell) (q9 : Addr) (u : SX) (t : State) (H1 : Heap) (locs1 : List Loc), t.heap = H1 → s.vm.Alike t.vm → px u → BX E u t → H.size ≤ H1.size → (∀ q : Nat, q < H.size → ¬ AX q → H1[q]? = H[q]?) → va_S A0 H0 H1 locs1 → H1[q9]? = some ce → ce.vm = .none → s.vm.findClass E = some ce.cls → vx_W p l e R s m args below meth c H1 locs1 (cells + mc) (slots + ms) Q (F0 m pc ls rest) q9)
    (kk : ∀ (r : Int32) (u : S) (t : State) (H1 : Heap) (locs1 : List Loc), t.heap = H1 → s.vm.Alike t.vm → post r u → B u t → H.size ≤ H1.size → (∀ q : Nat, q < H.size → ¬ A1 q → H1[q]? = H[q]?) → va_S A0 H0 H1 locs1 → W p l e R s m args below meth c H1 locs1 (cells + mc) (slots + ms) Q (F0 m (pc + 3) ls (.int r :: rest))) : W p l e R s m args below meth c H locs cells slots Q (F0 m pc ls st0) := by
  intro T hT X
  rcases hr T hT X with ⟨v, st₀, t, T', L, h0, X', hL, e1, e2, ⟨⟨r, u, hv, hp, hb⟩, hF⟩, st⟩ | ⟨q, st₀, t, T', L, E, ce, h0, X', hL, e1, e2, ⟨u, hp, hb, hF⟩, hce, hcv, hcl, st⟩
  · cases hv
    obtain ⟨k1, k2, k3⟩ := vx_keep h0 e1 hS hA hf hL hF
    obtain ⟨t2, a1, b1⟩ := kk r u t T'.heap (locs ++ L) e1.symm (by rw [← e2]; exact X'.warmed.alike) hp hb k1 k2 k3 T' rfl X'
    exact ⟨t2, st t2 a1, b1⟩
  · obtain ⟨k1, k2, k3⟩ := vx_keep h0 e1 hS hAX hf hL hF
    obtain ⟨t2, a1, b1⟩ := kx E ce q u t T'.heap (locs ++ L) e1.symm (by rw [← e2]; exact X'.warmed.alike) hp hb k1 k2 k3 (by rw [e1]; exact hce) hcv hcl T' rfl X'
    exact ⟨t2, st.trans a1, b1⟩
theorem vx_calll {S SX : Type} {post : Int64 → S → Prop} {px : SX → Prop} {B : S → State → Prop} {BX : String → SX → State → Prop} {AX : Nat → Prop} (hr : vx_Run p l e R s m args below meth c H locs cells slots mc ms (F0 m pc ls st0) rest (va_Ql post B A1 a) (vx_X px BX AX) free) (hS : va_S A0 H0 H locs) (hA : ∀ q, q < H.size → A1 q → A0 q) (hf : ∀ q, free q → A0 q) (hAX : ∀ q, q < H.size → AX q → A0 q)
    (kx : ∀ (E : String) (ce : Cell) (q9 : Addr) (u : SX) (t : State) (H1 : Heap) (locs1 : List Loc), t.heap = H1 → s.vm.Alike t.vm → px u → BX E u t → H.size ≤ H1.size → (∀ q : Nat, q < H.size → ¬ AX q → H1[q]? = H[q]?) → va_S A0 H0 H1 locs1 → H1[q9]? = some ce → ce.vm = .none → s.vm.findClass E = some ce.cls → vx_W p l e R s m args below meth c H1 locs1 (cells + mc) (slots + ms) Q (F0 m pc ls rest) q9)
    (kk : ∀ (r : Int64) (u : S) (t : State) (H1 : Heap) (locs1 : List Loc), t.heap = H1 → s.vm.Alike t.vm → post r u → B u t → H.size ≤ H1.size → (∀ q : Nat, q < H.size → ¬ A1 q → H1[q]? = H[q]?) → va_S A0 H0 H1 locs1 → W p l e R s m args below meth c H1 locs1 (cells + mc) (slots + ms) Q (F0 m (pc + 3) ls (.long r :: rest))) : W p l e R s m args below meth c H locs cells slots Q (F0 m pc ls st0) := by
  intro T hT X
  rcases hr T hT X with ⟨v, st₀, t, T', L, h0, X', hL, e1, e2, ⟨⟨r, u, hv, hp, hb⟩, hF⟩, st⟩ | ⟨q, st₀, t, T', L, E, ce, h0, X', hL, e1, e2, ⟨u, hp, hb, hF⟩, hce, hcv, hcl, st⟩
  · cases hv
    obtain ⟨k1, k2, k3⟩ := vx_keep h0 e1 hS hA hf hL hF
    obtain ⟨t2, a1, b1⟩ := kk r u t T'.heap (locs ++ L) e1.symm (by rw [← e2]; exact X'.warmed.alike) hp hb k1 k2 k3 T' rfl X'
    exact ⟨t2, st t2 a1, b1⟩
  · obtain ⟨k1, k2, k3⟩ := vx_keep h0 e1 hS hAX hf hL hF
    obtain ⟨t2, a1, b1⟩ := kx E ce q u t T'.heap (locs ++ L) e1.symm (by rw [← e2]; exact X'.warmed.alike) hp hb k1 k2 k3 (by rw [e1]; exact hce) hcv hcl T' rfl X'
    exact ⟨t2, st.trans a1, b1⟩
theorem vx_callf {S SX : Type} {post : UInt32 → S → Prop} {px : SX → Prop} {B : S → State → Prop} {BX : String → SX → State → Prop} {AX : Nat → Prop} (hr : vx_Run p l e R s m args below meth c H locs cells slots mc ms (F0 m pc ls st0) rest (va_Qf post B A1 a) (vx_X px BX AX) free) (hS : va_S A0 H0 H locs) (hA : ∀ q, q < H.size → A1 q → A0 q) (hf : ∀ q, free q → A0 q) (hAX : ∀ q, q < H.size → AX q → A0 q)
    (kx : ∀ (E : String) (ce : Cell) (q9 : Addr) (u : SX) (t : State) (H1 : Heap) (locs1 : List Loc), t.heap = H1 → s.vm.Alike t.vm → px u → BX E u t → H.size ≤ H1.size → (∀ q : Nat, q < H.size → ¬ AX q → H1[q]? = H[q]?) → va_S A0 H0 H1 locs1 → H1[q9]? = some ce → ce.vm = .none → s.vm.findClass E = some ce.cls → vx_W p l e R s m args below meth c H1 locs1 (cells + mc) (slots + ms) Q (F0 m pc ls rest) q9)
    (kk : ∀ (r : UInt32) (u : S) (t : State) (H1 : Heap) (locs1 : List Loc), t.heap = H1 → s.vm.Alike t.vm → post r u → B u t → H.size ≤ H1.size → (∀ q : Nat, q < H.size → ¬ A1 q → H1[q]? = H[q]?) → va_S A0 H0 H1 locs1 → W p l e R s m args below meth c H1 locs1 (cells + mc) (slots + ms) Q (F0 m (pc + 3) ls (.float r :: rest))) : W p l e R s m args below meth c H locs cells slots Q (F0 m pc ls st0) := by
  intro T hT X
  rcases hr T hT X with ⟨v, st₀, t, T', L, h0, X', hL, e1, e2, ⟨⟨r, u, hv, hp, hb⟩, hF⟩, st⟩ | ⟨q, st₀, t, T', L, E, ce, h0, X', hL, e1, e2, ⟨u, hp, hb, hF⟩, hce, hcv, hcl, st⟩
  · cases hv
    obtain ⟨k1, k2, k3⟩ := vx_keep h0 e1 hS hA hf hL hF
    obtain ⟨t2, a1, b1⟩ := kk r u t T'.heap (locs ++ L) e1.symm (by rw [← e2]; exact X'.warmed.alike) hp hb k1 k2 k3 T' rfl X'
    exact ⟨t2, st t2 a1, b1⟩
  · obtain ⟨k1, k2, k3⟩ := vx_keep h0 e1 hS hAX hf hL hF
    obtain ⟨t2, a1, b1⟩ := kx E ce q u t T'.heap (locs ++ L) e1.symm (by rw [← e2]; exact X'.warmed.alike) hp hb k1 k2 k3 (by rw [e1]; exact hce) hcv hcl T' rfl X'
    exact ⟨t2, st.trans a1, b1⟩
theorem vx_calld {S SX : Type} {post : UInt64 → S → Prop} {px : SX → Prop} {B : S → State → Prop} {BX : String → SX → State → Prop} {AX : Nat → Prop} (hr : vx_Run p l e R s m args below meth c H locs cells slots mc ms (F0 m pc ls st0) rest (va_Qd post B A1 a) (vx_X px BX AX) free) (hS : va_S A0 H0 H locs) (hA : ∀ q, q < H.size → A1 q → A0 q) (hf : ∀ q, free q → A0 q) (hAX : ∀ q, q < H.size → AX q → A0 q)
    (kx : ∀ (E : String) (ce : Cell) (q9 : Addr) (u : SX) (t : State) (H1 : Heap) (locs1 : List Loc), t.heap = H1 → s.vm.Alike t.vm → px u → BX E u t → H.size ≤ H1.size → (∀ q : Nat, q < H.size → ¬ AX q → H1[q]? = H[q]?) → va_S A0 H0 H1 locs1 → H1[q9]? = some ce → ce.vm = .none → s.vm.findClass E = some ce.cls → vx_W p l e R s m args below meth c H1 locs1 (cells + mc) (slots + ms) Q (F0 m pc ls rest) q9)
    (kk : ∀ (r : UInt64) (u : S) (t : State) (H1 : Heap) (locs1 : List Loc), t.heap = H1 → s.vm.Alike t.vm → post r u → B u t → H.size ≤ H1.size → (∀ q : Nat, q < H.size → ¬ A1 q → H1[q]? = H[q]?) → va_S A0 H0 H1 locs1 → W p l e R s m args below meth c H1 locs1 (cells + mc) (slots + ms) Q (F0 m (pc + 3) ls (.double r :: rest))) : W p l e R s m args below meth c H locs cells slots Q (F0 m pc ls st0) := by
  intro T hT X
  rcases hr T hT X with ⟨v, st₀, t, T', L, h0, X', hL, e1, e2, ⟨⟨r, u, hv, hp, hb⟩, hF⟩, st⟩ | ⟨q, st₀, t, T', L, E, ce, h0, X', hL, e1, e2, ⟨u, hp, hb, hF⟩, hce, hcv, hcl, st⟩
  · cases hv
    obtain ⟨k1, k2, k3⟩ := vx_keep h0 e1 hS hA hf hL hF
    obtain ⟨t2, a1, b1⟩ := kk r u t T'.heap (locs ++ L) e1.symm (by rw [← e2]; exact X'.warmed.alike) hp hb k1 k2 k3 T' rfl X'
    exact ⟨t2, st t2 a1, b1⟩
  · obtain ⟨k1, k2, k3⟩ := vx_keep h0 e1 hS hAX hf hL hF
    obtain ⟨t2, a1, b1⟩ := kx E ce q u t T'.heap (locs ++ L) e1.symm (by rw [← e2]; exact X'.warmed.alike) hp hb k1 k2 k3 (by rw [e1]; exact hce) hcv hcl T' rfl X'
    exact ⟨t2, st.trans a1, b1⟩
theorem vx_callv {S SX : Type} {post : S → Prop} {px : SX → Prop} {B : S → State → Prop} {BX : String → SX → State → Prop} {AX : Nat → Prop} (hr : vx_Run p l e R s m args below meth c H locs cells slots mc ms (F0 m pc ls st0) rest (va_Qv post B A1 a) (vx_X px BX AX) free) (hS : va_S A0 H0 H locs) (hA : ∀ q, q < H.size → A1 q → A0 q) (hf : ∀ q, free q → A0 q) (hAX : ∀ q, q < H.size → AX q → A0 q)
    (kx : ∀ (E : String) (ce : Cell) (q9 : Addr) (u : SX) (t : State) (H1 : Heap) (locs1 : List Loc), t.heap = H1 → s.vm.Alike t.vm → px u → BX E u t → H.size ≤ H1.size → (∀ q : Nat, q < H.size → ¬ AX q → H1[q]? = H[q]?) → va_S A0 H0 H1 locs1 → H1[q9]? = some ce → ce.vm = .none → s.vm.findClass E = some ce.cls → vx_W p l e R s m args below meth c H1 locs1 (cells + mc) (slots + ms) Q (F0 m pc ls rest) q9)
    (kk : ∀ (u : S) (t : State) (H1 : Heap) (locs1 : List Loc), t.heap = H1 → s.vm.Alike t.vm → post u → B u t → H.size ≤ H1.size → (∀ q : Nat, q < H.size → ¬ A1 q → H1[q]? = H[q]?) → va_S A0 H0 H1 locs1 → W p l e R s m args below meth c H1 locs1 (cells + mc) (slots + ms) Q (F0 m (pc + 3) ls (rest))) : W p l e R s m args below meth c H locs cells slots Q (F0 m pc ls st0) := by
  intro T hT X
  rcases hr T hT X with ⟨v, st₀, t, T', L, h0, X', hL, e1, e2, ⟨⟨u, hv, hp, hb⟩, hF⟩, st⟩ | ⟨q, st₀, t, T', L, E, ce, h0, X', hL, e1, e2, ⟨u, hp, hb, hF⟩, hce, hcv, hcl, st⟩
  · cases hv
    obtain ⟨k1, k2, k3⟩ := vx_keep h0 e1 hS hA hf hL hF
    obtain ⟨t2, a1, b1⟩ := kk u t T'.heap (locs ++ L) e1.symm (by rw [← e2]; exact X'.warmed.alike) hp hb k1 k2 k3 T' rfl X'
    exact ⟨t2, st t2 a1, b1⟩
  · obtain ⟨k1, k2, k3⟩ := vx_keep h0 e1 hS hAX hf hL hF
    obtain ⟨t2, a1, b1⟩ := kx E ce q u t T'.heap (locs ++ L) e1.symm (by rw [← e2]; exact X'.warmed.alike) hp hb k1 k2 k3 (by rw [e1]; exact hce) hcv hcl T' rfl X'
    exact ⟨t2, st.trans a1, b1⟩
end Rows
section Ends
variable {p : Program} {l : Launch} {e : Env} {R : Room} {s : State} {m : MethodId} {args : Array Value} {below : List Frame} {meth : Method} {c : Code} {H : Heap} {locs : List Loc} {cells slots : Nat} {Q : State → Prop}
variable {mc ms : Nat} {free : Addr → Prop} {A0 A1 : Nat → Prop} {H0 : Heap} {a : Array Value} {ls : Array Slot} {st0 rest : List Value}
variable {Qc : Array Value → State → Outcome → State → Prop} {XC : String → State → State → Prop}
/-- what a body that may throw owes at its end -/
def vx_MQ (below : List Frame) (Qc : Array Value → State → Outcome → State → Prop) (XC : String → State → State → Prop) (a : Array Value) (s : State) (mc ms : Nat) (free : Addr → Prop) : State → Prop := fun t =>
  ∃ o, t.status = .running ∧ Ended t below o ∧ vx_Q Qc XC mc ms free a s o t
theorem vx_ret {g : JFrame} {mc ms : Nat} (k : W p l e R s m args below meth c H locs cells slots (MQ below Qc args s mc ms free) g) : W p l e R s m args below meth c H locs cells slots (vx_MQ below Qc XC args s mc ms free) g := by
  intro T hT X
  obtain ⟨t, a1, o, b1, b2, b3, b4⟩ := k T hT X
  exact ⟨t, a1, o, b1, b2, Or.inl ⟨b3, b4⟩⟩
/-- not caught here: it goes on to the caller -/
theorem vx_widen {g : JFrame} {q : Addr} {k n : Nat} (h1 : cells ≤ k) (h2 : slots ≤ n) (kk : vx_W p l e R s m args below meth c H locs k n Q g q) : vx_W p l e R s m args below meth c H locs cells slots Q g q := fun T hT X => kk T hT (stand_widen X h1 h2)
theorem vx_out {pc : Nat} {E : String} {ce : Cell} {q : Addr} {mc ms : Nat} (hout : ∀ x ∈ c.exceptionTable.toList, covers x pc = false) (hlocks : meth.locks = false) (hcell : H[q]? = some ce) (hv : ce.vm = .none) (hcl : s.vm.findClass E = some ce.cls)
    (hx : ∀ t : State, t.heap = H → s.vm.Alike t.vm → XC E s t) (hf : ∀ z ∈ locs, free z.base) (hc : cells ≤ mc) (hs : slots ≤ ms) :
    vx_W p l e R s m args below meth c H locs cells slots (vx_MQ below Qc XC args s mc ms free) (F0 m pc ls rest) q := by
  intro T hT X
  obtain ⟨st1, hrun, hend, hW, hsm⟩ := X.leaveThrown q (g := F0 m pc ls rest) rfl rfl rfl hout hlocks
  have hcell9 : (T.setFrames (.throwing q :: below)).heap[q]? = some ce := by
    show T.heap[q]? = some ce
    rw [hT]; exact hcell
  exact ⟨_, st1, .threw q, hrun, hend, Or.inr ⟨q, rfl, E, ce, locs, hx _ hT hW.alike, hcell9, hv, hcl, hW, hsm.mono hc hs, hf⟩⟩
theorem vx_frame {U : State} {k n : Nat} (h : s.sameButNew ({ U with vm := s.vm } : State) locs k n) : s.heap.size ≤ U.heap.size ∧ ∀ q : Nat, q < s.heap.size → (∀ z ∈ locs, z.base ≠ q) → U.heap[q]? = s.heap[q]? := by
  obtain ⟨-, h2, -, -, -, h6⟩ := h
  refine ⟨h2, fun q hq hz => ?_⟩
  obtain ⟨c9, e1, e2, e3, e4⟩ := h6 q _ (Array.getElem?_eq_getElem hq)
  have hs : c9.slots = (s.heap[q]).slots := Array.ext_getElem? fun i => e4 i fun hm => hz _ hm rfl
  have h9 : c9 = s.heap[q] := by
    rw [hs] at e2
    exact e2
  have e5 : U.heap[q]? = some c9 := e1
  rw [e5, h9, Array.getElem?_eq_getElem hq]
/-- the words of a throw but the four that speak of the heap -/
def vx_no (w : Cond) : Bool := decide (w ≠ .isRef (.static Bundle.tN "UNASSIGNED_STACK" Bundle.steD)) && decide (w ≠ .isRef (.static Bundle.tN "SUPPRESSED_SENTINEL" Bundle.listD)) && decide (w ≠ .laysStatic Bundle.tN "UNASSIGNED_STACK" Bundle.steD) && decide (w ≠ .laysStatic Bundle.tN "SUPPRESSED_SENTINEL" Bundle.listD)
def vx_at0 (own : String) (ic : Nat) (X : String) (names : List String) : List Cond := (Bundle.ownAtoms0 own ic X names).filter vx_no
def vx_atS (own : String) (ic : Nat) (X : String) (names : List String) : List Cond := (Bundle.ownAtoms own ic X names).filter vx_no
/-- a word that the tables alone decide, or a good one -/
def vx_ot (w : Cond) : Bool := w.onTables || goodWord w
theorem vx_ot_at {args a' : Array Value} {s U : State} {w : Cond} (hW : s.WarmedH U.vm) (hvm : s.vm = U.vm) (hg : vx_ot w = true) (h : w.before args s = true) : w.before a' U = true := by
  simp only [vx_ot, Bool.or_eq_true] at hg
  rcases hg with hg | hg
  · exact va_tabs hg hvm h
  · exact word_at hW (good_of_word hg) h
/-- a list's words: the good ones out of the method's own list, the others by premises of their own -/
theorem vx_hat {args : Array Value} {s : State} {L B : List Cond} (h1 : ∀ w ∈ L.filter goodWord, w.before args s = true) (h2 : ∀ w ∈ L.filter (fun w => !goodWord w), w ∈ B) (h3 : ∀ w ∈ B, w.before args s = true) : ∀ w ∈ L, w.before args s = true := by
  intro w hw
  by_cases g : goodWord w = true
  · exact h1 w (List.mem_filter.mpr ⟨hw, g⟩)
  · refine h3 w (h2 w (List.mem_filter.mpr ⟨hw, ?_⟩))
    show (!goodWord w) = true
    cases hgw : goodWord w
    · rfl
    · exact absurd hgw g
theorem vx_c {args : Array Value} {s : State} {w : Cond} {B : List Cond} (h : w.before args s = true) (t : ∀ w ∈ B, w.before args s = true) : ∀ w' ∈ w :: B, w'.before args s = true := fun w' h' => (List.mem_cons.mp h').elim (fun e => by rw [e]; exact h) (t w')
theorem vx_n {args : Array Value} {s : State} : ∀ w ∈ ([] : List Cond), w.before args s = true := fun _ h => nomatch h
theorem vx_own {args : Array Value} {s : State} {L : List Cond} (h1 : ∀ w ∈ L.filter vx_no, w.before args s = true)
    (hU : (Cond.isRef (.static Bundle.tN "UNASSIGNED_STACK" Bundle.steD)).before args s = true) (hN : (Cond.isRef (.static Bundle.tN "SUPPRESSED_SENTINEL" Bundle.listD)).before args s = true)
    (lU : (Cond.laysStatic Bundle.tN "UNASSIGNED_STACK" Bundle.steD).before args s = true) (lN : (Cond.laysStatic Bundle.tN "SUPPRESSED_SENTINEL" Bundle.listD).before args s = true) : ∀ w ∈ L, w.before args s = true := by
  intro w hw
  by_cases e1 : w = .isRef (.static Bundle.tN "UNASSIGNED_STACK" Bundle.steD)
  · rw [e1]; exact hU
  · by_cases e2 : w = .isRef (.static Bundle.tN "SUPPRESSED_SENTINEL" Bundle.listD)
    · rw [e2]; exact hN
    · by_cases e3 : w = .laysStatic Bundle.tN "UNASSIGNED_STACK" Bundle.steD
      · rw [e3]; exact lU
      · by_cases e4 : w = .laysStatic Bundle.tN "SUPPRESSED_SENTINEL" Bundle.listD
        · rw [e4]; exact lN
        · exact h1 w (List.mem_filter.mpr ⟨hw, by unfold vx_no; rw [decide_eq_true e1, decide_eq_true e2, decide_eq_true e3, decide_eq_true e4]; rfl⟩)
/-- where a static field lies, its class's statics cell in H -/
def vx_L (C n d : String) (A : Nat → Prop) (U : State) (H : Heap) : Prop := ∃ (c : ClassId) (k : Class) (i : Nat) (f : Field) (a : Nat) (cell : Cell), U.vm.findClass C = some c ∧ U.fieldFound? C n d = some (c, k, i, f) ∧ f.isStatic = true ∧ k.statics = some a ∧ H[a]? = some cell ∧ cell.vm.isStatics = true ∧ cell.cls = c ∧ f.slot < cell.slots.size ∧ k.staticTypes[f.slot]? = some f.type ∧ ¬ A a
theorem vx_L.moved {C n d : String} {A : Nat → Prop} {u U : State} {H : Heap} (hvm : u.vm.Alike U.vm) (h : vx_L C n d A u H) : vx_L C n d A U H := by
  obtain ⟨c, k, i, f, a, cell, h1, h2, h3, h4, h5, h6, h7, h8, h9, h10⟩ := h
  obtain ⟨k', hi', he⟩ := State.fieldFound?_setVm hvm h2
  exact ⟨c, k', i, f, a, cell, by rw [hvm.findClass]; exact h1, hi', h3, by rw [he]; exact h4, h5, h6, h7, h8, by rw [he]; exact h9, h10⟩
theorem vx_L.kept {C n d : String} {A : Nat → Prop} {U : State} {H H1 : Heap} (h : vx_L C n d A U H) (hq : ∀ a : Nat, a < H.size → ¬ A a → H1[a]? = H[a]?) : vx_L C n d A U H1 := by
  obtain ⟨c, k, i, f, a, cell, h1, h2, h3, h4, h5, h6, h7, h8, h9, h10⟩ := h
  exact ⟨c, k, i, f, a, cell, h1, h2, h3, h4, by rw [hq a (Array.getElem?_eq_some_iff.mp h5).1 h10]; exact h5, h6, h7, h8, h9, h10⟩
theorem vx_L.narrow {C n d : String} {A B : Nat → Prop} {U : State} {H : Heap} (h : vx_L C n d A U H) (hAB : ∀ q, B q → A q) : vx_L C n d B U H := by
  obtain ⟨c, k, i, f, a, cell, h1, h2, h3, h4, h5, h6, h7, h8, h9, h10⟩ := h
  exact ⟨c, k, i, f, a, cell, h1, h2, h3, h4, h5, h6, h7, h8, h9, fun z => h10 (hAB _ z)⟩
theorem vx_L.word {C n d : String} {A : Nat → Prop} {s : State} {args : Array Value} (h : vx_L C n d A s s.heap) : (Cond.laysStatic C n d).before args s = true := by
  obtain ⟨c, k, i, f, a, cell, h1, h2, h3, h4, h5, h6, h7, h8, h9, -⟩ := h
  show (Cond.laysStatic C n d).holds args s none s [] = true
  exact Cond.laysStatic_of h1 h2 h3 h4 h5 h6 h7 h8 h9
/-- .. and what it holds: null or some reference -/
def vx_Zq (C n d : String) (A : Nat → Prop) (U : State) (H : Heap) : Prop := va_Zq C n d A U H ∧ vx_L C n d A U H
theorem vx_Zq.moved {C n d : String} {A : Nat → Prop} {u U : State} {H : Heap} (hvm : u.vm.Alike U.vm) (h : vx_Zq C n d A u H) : vx_Zq C n d A U H := ⟨va_Zq.moved hvm h.1, vx_L.moved hvm h.2⟩
theorem vx_Zq.kept {C n d : String} {A : Nat → Prop} {U : State} {H H1 : Heap} (h : vx_Zq C n d A U H) (hq : ∀ a : Nat, a < H.size → ¬ A a → H1[a]? = H[a]?) : vx_Zq C n d A U H1 := ⟨va_Zq.kept h.1 hq, vx_L.kept h.2 hq⟩
theorem vx_Zq.narrow {C n d : String} {A B : Nat → Prop} {U : State} {H : Heap} (h : vx_Zq C n d A U H) (hAB : ∀ q, B q → A q) : vx_Zq C n d B U H := ⟨va_Zq.narrow h.1 hAB, vx_L.narrow h.2 hAB⟩
theorem vx_Zqof {args : Array Value} {s : State} {C n d : String} {A : Nat → Prop} (hl : (Cond.laysStatic C n d).before args s = true) (hini : (Cond.initialized C).before args s = true) (h : (Cond.isRef (.static C n d)).before args s = true) (hA : ∀ a : Nat, a < s.heap.size → ¬ A a) : vx_Zq C n d A s s.heap := by
  refine ⟨va_Zqof hl hini h hA, ?_⟩
  obtain ⟨c, k, i, f, a, cell, h1, h2, h3, h4, h5, h6, h7, h8, h9⟩ := Cond.laysStatic_spec hl
  exact ⟨c, k, i, f, a, cell, h1, h2, h3, h4, h5, h6, h7, h8, h9, hA a (Array.getElem?_eq_some_iff.mp h5).1⟩
theorem vx_isRef {C n d : String} {v : Value} {A : Nat → Prop} {s : State} {args : Array Value} (h : va_Z C n d v A s s.heap) (hv : v.isRef = true) : (Cond.isRef (.static C n d)).before args s = true := by
  obtain ⟨cf, kf, fi, f, a, cell, h1, h2, h3, h4, h5, h6, h7, -⟩ := h
  have he : (Term.static C n d).eval args s none [] s = some v := by
    simp [Term.eval, State.fieldNamed?, h1, h2, h4, h5, h6, h7]
  simp only [Cond.before, Cond.holds, Cond.value, he]
  cases v <;> simp_all [Value.isRef]
theorem vx_isRefq {C n d : String} {A : Nat → Prop} {s : State} {args : Array Value} (h : va_Zq C n d A s s.heap) : (Cond.isRef (.static C n d)).before args s = true := by
  rcases h with h | ⟨t, h⟩
  · exact vx_isRef h rfl
  · exact vx_isRef h rfl
/-- the same frame, seen from here: as if the method were called anew in this heap -/
theorem vx_rebase {T : State} (X : Stand p l e R s m args below meth c T locs cells slots) {R' : Room} (hf : R'.frames ≤ R.frames) (hl : R'.locals ≤ R.locals) (hc : cells + R'.cells ≤ R.cells) (hs : slots + R'.slots ≤ R.slots) :
    Stand p l e R' ((T.setVm s.vm).setFrames (.invoking m args :: below)) m args below meth c T [] 0 0 := by
  have htop : (T.setVm s.vm).topJava?.isSome := X.here.top
  have hF : ((T.setVm s.vm).setFrames (.invoking m args :: below)).frames = .invoking m args :: below := State.frames_setFrames _ (State.cur_lt_of_top htop)
  obtain ⟨g₀, hg0⟩ := Option.isSome_iff_exists.mp htop
  obtain ⟨r, hr⟩ := State.topJava?_eq_some.mp hg0
  have hl9 : e.platform.stackLimits (T.setVm s.vm).me = e.platform.stackLimits s.me := X.limits
  have hb9 : (T.setVm s.vm).me.stackBytes = s.me.stackBytes := X.bytes
  refine ⟨X.admits, X.cas, X.clock, hF, ?_, X.hears, X.method, X.code, X.here, X.tail, X.warmed, ?_, ?_, ?_⟩
  · have h := X.room
    have hU : ((T.setVm s.vm).setFrames (.invoking m args :: below)).localsInUse = s.localsInUse := by
      rw [State.localsInUse_invoking hF (meth := meth) (c := c) X.method X.code, State.localsInUse_invoking X.frames X.method X.code]
    simp only [State.hasRoom, Bool.and_eq_true, decide_eq_true_eq] at h ⊢
    obtain ⟨⟨⟨⟨h1, h2, h3, h4, h5, h6⟩, h7⟩, h8⟩, h9⟩ := h
    rw [X.frames, List.length_cons] at h2 h3
    have q1 := X.heapSize
    have q2 := X.used
    simp only [hF, hU, List.length_cons, State.stackLimits_setFrames, State.stackBytes_setFrames, hl9, hb9]
    refine ⟨⟨⟨⟨by omega, by omega, by omega, by omega, by omega, h6⟩, ?_⟩, ?_⟩, X.book⟩
    · show T.heap.size + R'.cells ≤ e.platform.maxCells
      omega
    · show T.slotsUsed + R'.slots ≤ e.platform.maxSlots
      omega
  · rw [State.stackLimits_setFrames]; rfl
  · rw [State.stackBytes_setFrames]; rfl
  · refine ⟨?_, Nat.le_refl _, Nat.le_refl _, ?_, ?_, fun a c9 h9 => ⟨c9, h9, rfl, rfl, fun _ _ => rfl⟩⟩
    · obtain ⟨t, ht, -⟩ := State.frames_cons hr
      show T.setVm s.vm = { ((T.setVm s.vm).setFrames (.invoking m args :: below)).setFrames (T.setVm s.vm).frames with heap := T.heap, slotsUsed := T.slotsUsed }
      rw [State.setFrames_setFrames, State.setFrames_self ht]
      rfl
    · show T.slotsUsed = T.slotsUsed + ((T.heap.toList.drop T.heap.size).map (·.slots.size)).sum
      rw [List.drop_eq_nil_of_le (Nat.le_of_eq Array.length_toList)]
      rfl
    · show ((T.heap.toList.drop T.heap.size).map (·.slots.size)).sum ≤ 0
      rw [List.drop_eq_nil_of_le (Nat.le_of_eq Array.length_toList)]
      exact Nat.le_refl _
/-- 'throw new E()': new; dup; invokespecial; athrow -/
theorem vx_throw0 {cc : ByteArray} {pc : Nat} (hexec : p.tables.exec = Jvm.exec) (hb : c.code = cc) (hl : l.stackTraces = false) {own cls : String} {names : List String} {ik ic mc ms : Nat} {A : Nat → Prop}
    (hown : s.vm.findClass own = some m.cls) (hcls : Bundle.fit cls = true) (hnames : ∀ n ∈ names, Bundle.fit n = true)
    (hk : (Cond.classLink own ik cls).before args s = true) (hini : (Cond.initialized cls).before args s = true) (hat : ∀ w ∈ vx_at0 own ic cls names, w.before args s = true)
    (hgood : ∀ w ∈ Cond.classLink own ik cls :: Cond.initialized cls :: vx_at0 own ic cls names, vx_ot w = true)
    (hU : vx_Zq Bundle.tN "UNASSIGNED_STACK" Bundle.steD A s s.heap) (hN : vx_Zq Bundle.tN "SUPPRESSED_SENTINEL" Bundle.listD A s s.heap) (hS : va_S A s.heap H locs) (hsize : ls.size = c.maxLocals)
    (d0 : decode cc pc = .ok (.new ik, 3)) (d3 : decode cc (pc + 3) = .ok (.dup, 1)) (d4 : decode cc (pc + 4) = .ok (.invokespecial ic, 3)) (d7 : decode cc (pc + 7) = .ok (.athrow, 1))
    (hout : ∀ x ∈ c.exceptionTable.toList, covers x (pc + 7) = false)
    (hRframes : names.length + 3 < R.frames) (hRlocals : (rest.map fun v => v.category).sum + (13 * (names.length + 1) + 42) ≤ R.locals) (hRcells : cells + 1 ≤ R.cells) (hRslots : slots + 6 ≤ R.slots) (hlocks : meth.locks = false)
    (hx : ∀ t : State, s.vm.Alike t.vm → H.size ≤ t.heap.size → (∀ q : Nat, q < H.size → t.heap[q]? = H[q]?) → XC cls s t)
    (hf : ∀ z ∈ locs, free z.base) (hc : cells + 1 ≤ mc) (hs : slots + 6 ≤ ms) :
    W p l e R s m args below meth c H locs cells slots (vx_MQ below Qc XC args s mc ms free) (F0 m pc ls rest) := by
  intro T hT X
  have htr : e.platform.stackTraces = false := (show e.platform.stackTraces = l.stackTraces by rw [X.admits.platform]).trans hl
  have Y := vx_rebase X (R' := { frames := R.frames, locals := R.locals, cells := 1, slots := 6 }) (Nat.le_refl _) (Nat.le_refl _) hRcells hRslots
  obtain ⟨s', hA⟩ : ∃ z, z = (T.setVm s.vm).setFrames (.invoking m args :: below) := ⟨_, rfl⟩
  rw [← hA] at Y
  have hvm : s'.vm = s.vm := by rw [hA]; rfl
  have hhp : s'.heap = H := by rw [hA]; exact hT
  have hW0 : s.WarmedH s'.vm := by rw [hvm]; exact State.WarmedH.refl s
  have hat' : ∀ w ∈ vx_at0 own ic cls names, w.before args s' = true := fun w hw => vx_ot_at hW0 hvm.symm (hgood w (List.mem_cons_of_mem _ (List.mem_cons_of_mem _ hw))) (hat w hw)
  have hk' : (Cond.classLink own ik cls).before args s' = true := vx_ot_at hW0 hvm.symm (hgood _ List.mem_cons_self) hk
  have hini' : (Cond.initialized cls).before args s' = true := vx_ot_at hW0 hvm.symm (hgood _ (List.mem_cons_of_mem _ List.mem_cons_self)) hini
  have hU' : vx_Zq Bundle.tN "UNASSIGNED_STACK" Bundle.steD A s' s'.heap := by rw [hhp]; exact vx_Zq.moved hW0.alike (hU.kept hS.2.1)
  have hN' : vx_Zq Bundle.tN "SUPPRESSED_SENTINEL" Bundle.listD A s' s'.heap := by rw [hhp]; exact vx_Zq.moved hW0.alike (hN.kept hS.2.1)
  have h : ∀ w ∈ Bundle.ownAtoms0 own ic cls names, w.before args s' = true := vx_own hat' (vx_isRefq hU'.1) (vx_isRefq hN'.1) hU'.2.word hN'.2.word
  have hown' : s'.vm.findClass own = some m.cls := by rw [hvm]; exact hown
  have hins : (Cond.instantiable cls 6).before args s' = true := h _ (by simp [Bundle.ownAtoms0])
  obtain ⟨vm₁, cX, kX, hfX, hkX, -, -, X₁, st1⟩ := Y.newCold hexec (own := own) (C := cls) (index := ik) (n := 6) hown' hk' hins hini'
    (g := F0 m pc ls rest) rfl (by rw [hb]; exact d0) (Nat.le_refl _) (Nat.le_refl _)
  generalize hT1 : (T.setVm vm₁).pushCell { cls := cX, slots := kX.instanceTypes.map defaultValue, vm := .none } = T1 at X₁ st1
  have hcat : (Value.ref T.heap.size).category = 1 := rfl
  have hcellA : T1.heap[T.heap.size]? = some (freshCell cX kX) := by rw [← hT1]; exact State.heap_pushCell_size _ _
  have d3' : decode c.code (pc + 3) = .ok (.dup, 1) := by rw [hb]; exact d3
  obtain ⟨U, hsteps, hrun, hend, hW, hsame, ce, hce, hO⟩ := X₁.ctorThrow0 hexec htr (own := own) (cls := cls) (names := names) (ic := ic) hown' hcls hnames h (fun x hx => nomatch hx) hfX hkX hcellA (by rw [hhp, hT]; exact Nat.le_refl _)
    (g := { method := m, pc := pc + 4, locals := ls, stack := .ref T.heap.size :: .ref T.heap.size :: rest, locked := none }) rfl hsize rfl rfl (rest := rest) rfl
    (by rw [hb]; exact d4) (by rw [hb]; exact d7) hout hRframes (by simp only [List.map_cons, List.sum_cons, hcat]; omega) hlocks
  obtain ⟨f1, f2⟩ := vx_frame hsame
  rw [hhp] at f1 f2
  have hWs : s.WarmedH U.vm := State.WarmedH.trans hW0 hW
  have hcl : s.vm.findClass cls = some ce.cls := by
    have h9 := hO.cls
    rw [hvm] at h9
    exact h9
  have hall : s.sameButNew ({ U with vm := s.vm } : State) locs mc ms := by
    subst hA
    obtain ⟨e1, e2⟩ := hsame
    rw [State.setFrames_setFrames] at e1
    have h2 : (T.setVm s.vm).sameButNew ({ U with vm := s.vm } : State) [] (0 + 1) (0 + 6) := ⟨e1, e2⟩
    have h3 := X.same.trans h2
    rw [List.append_nil] at h3
    exact h3.mono hc hs
  refine ⟨U, ?_, .threw T.heap.size, hrun, hend, Or.inr ⟨T.heap.size, rfl, cls, ce, locs, hx U hWs.alike f1 (fun q hq => f2 q hq (fun z hz => nomatch hz)), hce, hO.vm, hcl, hWs, hall, hf⟩⟩
  refine st1 _ ?_
  show Steps p.tables e below (T1.setTop { method := m, pc := pc + 3, locals := ls, stack := .ref T.heap.size :: rest, locked := none }) _
  jvm_step X₁.here [X₁.here.top, hexec, d3', Value.category]
  exact hsteps
/-- 'throw new E("text")': new; dup; ldc; invokespecial; athrow -/
theorem vx_throwS {cc : ByteArray} {pc : Nat} (hexec : p.tables.exec = Jvm.exec) (hb : c.code = cc) (hl : l.stackTraces = false) {own cls text : String} {names : List String} {ik is ic mc ms sa : Nat} {A : Nat → Prop}
    (hown : s.vm.findClass own = some m.cls) (hcls : Bundle.fit cls = true) (hnames : ∀ n ∈ names, Bundle.fit n = true)
    (hk : (Cond.classLink own ik cls).before args s = true) (hini : (Cond.initialized cls).before args s = true) (hstr : vk_R own is text sa s) (hat : ∀ w ∈ vx_atS own ic cls names, w.before args s = true)
    (hgood : ∀ w ∈ Cond.classLink own ik cls :: Cond.initialized cls :: vx_atS own ic cls names, vx_ot w = true)
    (hU : vx_Zq Bundle.tN "UNASSIGNED_STACK" Bundle.steD A s s.heap) (hN : vx_Zq Bundle.tN "SUPPRESSED_SENTINEL" Bundle.listD A s s.heap) (hS : va_S A s.heap H locs) (hsize : ls.size = c.maxLocals)
    (d0 : decode cc pc = .ok (.new ik, 3)) (d3 : decode cc (pc + 3) = .ok (.dup, 1)) (d4 : decode cc (pc + 4) = .ok (.ldc is, 2)) (d6 : decode cc (pc + 6) = .ok (.invokespecial ic, 3)) (d9 : decode cc (pc + 9) = .ok (.athrow, 1))
    (hout : ∀ x ∈ c.exceptionTable.toList, covers x (pc + 9) = false)
    (hRframes : names.length + 3 < R.frames) (hRlocals : (rest.map fun v => v.category).sum + (13 * (names.length + 1) + 43) ≤ R.locals) (hRcells : cells + 1 ≤ R.cells) (hRslots : slots + 6 ≤ R.slots) (hlocks : meth.locks = false)
    (hx : ∀ t : State, s.vm.Alike t.vm → H.size ≤ t.heap.size → (∀ q : Nat, q < H.size → t.heap[q]? = H[q]?) → XC cls s t)
    (hf : ∀ z ∈ locs, free z.base) (hc : cells + 1 ≤ mc) (hs : slots + 6 ≤ ms) :
    W p l e R s m args below meth c H locs cells slots (vx_MQ below Qc XC args s mc ms free) (F0 m pc ls rest) := by
  intro T hT X
  have htr : e.platform.stackTraces = false := (show e.platform.stackTraces = l.stackTraces by rw [X.admits.platform]).trans hl
  have Y := vx_rebase X (R' := { frames := R.frames, locals := R.locals, cells := 1, slots := 6 }) (Nat.le_refl _) (Nat.le_refl _) hRcells hRslots
  obtain ⟨s', hA⟩ : ∃ z, z = (T.setVm s.vm).setFrames (.invoking m args :: below) := ⟨_, rfl⟩
  rw [← hA] at Y
  have hvm : s'.vm = s.vm := by rw [hA]; rfl
  have hhp : s'.heap = H := by rw [hA]; exact hT
  have hW0 : s.WarmedH s'.vm := by rw [hvm]; exact State.WarmedH.refl s
  have hat' : ∀ w ∈ vx_atS own ic cls names, w.before args s' = true := fun w hw => vx_ot_at hW0 hvm.symm (hgood w (List.mem_cons_of_mem _ (List.mem_cons_of_mem _ hw))) (hat w hw)
  have hk' : (Cond.classLink own ik cls).before args s' = true := vx_ot_at hW0 hvm.symm (hgood _ List.mem_cons_self) hk
  have hini' : (Cond.initialized cls).before args s' = true := vx_ot_at hW0 hvm.symm (hgood _ (List.mem_cons_of_mem _ List.mem_cons_self)) hini
  have hU' : vx_Zq Bundle.tN "UNASSIGNED_STACK" Bundle.steD A s' s'.heap := by rw [hhp]; exact vx_Zq.moved hW0.alike (hU.kept hS.2.1)
  have hN' : vx_Zq Bundle.tN "SUPPRESSED_SENTINEL" Bundle.listD A s' s'.heap := by rw [hhp]; exact vx_Zq.moved hW0.alike (hN.kept hS.2.1)
  have h : ∀ w ∈ Bundle.ownAtoms own ic cls names, w.before args s' = true := vx_own hat' (vx_isRefq hU'.1) (vx_isRefq hN'.1) hU'.2.word hN'.2.word
  have hown' : s'.vm.findClass own = some m.cls := by rw [hvm]; exact hown
  have hins : (Cond.instantiable cls 6).before args s' = true := h _ (by simp [Bundle.ownAtoms])
  obtain ⟨vm₁, cX, kX, hfX, hkX, -, -, X₁, st1⟩ := Y.newCold hexec (own := own) (C := cls) (index := ik) (n := 6) hown' hk' hins hini'
    (g := F0 m pc ls rest) rfl (by rw [hb]; exact d0) (Nat.le_refl _) (Nat.le_refl _)
  generalize hT1 : (T.setVm vm₁).pushCell { cls := cX, slots := kX.instanceTypes.map defaultValue, vm := .none } = T1 at X₁ st1
  have hcat : (Value.ref T.heap.size).category = 1 := rfl
  have hcellA : T1.heap[T.heap.size]? = some (freshCell cX kX) := by rw [← hT1]; exact State.heap_pushCell_size _ _
  have d3' : decode c.code (pc + 3) = .ok (.dup, 1) := by rw [hb]; exact d3
  have d4' : decode c.code (pc + 4) = .ok (.ldc is, 2) := by rw [hb]; exact d4
  have hstr' : vk_R own is text sa s' := vk_R.warm hW0 hstr
  obtain ⟨U, hsteps, hrun, hend, hW, hsame, ce, hce, hO⟩ := X₁.ctorThrowS hexec htr (own := own) (cls := cls) (names := names) (ic := ic) hown' hcls hnames h (fun x hx => nomatch hx) hfX hkX hcellA (by rw [hhp, hT]; exact Nat.le_refl _) (msg := .ref sa) rfl
    (g := { method := m, pc := pc + 6, locals := ls, stack := .ref sa :: .ref T.heap.size :: .ref T.heap.size :: rest, locked := none }) rfl hsize rfl rfl (rest := rest) rfl
    (by rw [hb]; exact d6) (by rw [hb]; exact d9) hout hRframes (by simp only [List.map_cons, List.sum_cons, hcat]; omega) hlocks
  obtain ⟨f1, f2⟩ := vx_frame hsame
  rw [hhp] at f1 f2
  have hWs : s.WarmedH U.vm := State.WarmedH.trans hW0 hW
  have hcl : s.vm.findClass cls = some ce.cls := by
    have h9 := hO.cls
    rw [hvm] at h9
    exact h9
  have hall : s.sameButNew ({ U with vm := s.vm } : State) locs mc ms := by
    subst hA
    obtain ⟨e1, e2⟩ := hsame
    rw [State.setFrames_setFrames] at e1
    have h2 : (T.setVm s.vm).sameButNew ({ U with vm := s.vm } : State) [] (0 + 1) (0 + 6) := ⟨e1, e2⟩
    have h3 := X.same.trans h2
    rw [List.append_nil] at h3
    exact h3.mono hc hs
  refine ⟨U, ?_, .threw T.heap.size, hrun, hend, Or.inr ⟨T.heap.size, rfl, cls, ce, locs, hx U hWs.alike f1 (fun q hq => f2 q hq (fun z hz => nomatch hz)), hce, hO.vm, hcl, hWs, hall, hf⟩⟩
  refine st1 _ ?_
  show Steps p.tables e below (T1.setTop { method := m, pc := pc + 3, locals := ls, stack := .ref T.heap.size :: rest, locked := none }) _
  jvm_step X₁.here [X₁.here.top, hexec, d3', Value.category]
  exact X₁.ldcString hexec (own := own) (text := text) (index := is) (a := sa) hown' hstr'.1 hstr'.2
    (g := { method := m, pc := pc + 4, locals := ls, stack := .ref T.heap.size :: .ref T.heap.size :: rest, locked := none }) rfl d4' _ hsteps
/-- 'throw new E("text")', the text by a wide index -/
theorem vx_throwSW {cc : ByteArray} {pc : Nat} (hexec : p.tables.exec = Jvm.exec) (hb : c.code = cc) (hl : l.stackTraces = false) {own cls text : String} {names : List String} {ik is ic mc ms sa : Nat} {A : Nat → Prop}
    (hown : s.vm.findClass own = some m.cls) (hcls : Bundle.fit cls = true) (hnames : ∀ n ∈ names, Bundle.fit n = true)
    (hk : (Cond.classLink own ik cls).before args s = true) (hini : (Cond.initialized cls).before args s = true) (hstr : vk_R own is text sa s) (hat : ∀ w ∈ vx_atS own ic cls names, w.before args s = true)
    (hgood : ∀ w ∈ Cond.classLink own ik cls :: Cond.initialized cls :: vx_atS own ic cls names, vx_ot w = true)
    (hU : vx_Zq Bundle.tN "UNASSIGNED_STACK" Bundle.steD A s s.heap) (hN : vx_Zq Bundle.tN "SUPPRESSED_SENTINEL" Bundle.listD A s s.heap) (hS : va_S A s.heap H locs) (hsize : ls.size = c.maxLocals)
    (d0 : decode cc pc = .ok (.new ik, 3)) (d3 : decode cc (pc + 3) = .ok (.dup, 1)) (d4 : decode cc (pc + 4) = .ok (.ldc_w is, 3)) (d7 : decode cc (pc + 7) = .ok (.invokespecial ic, 3)) (d10 : decode cc (pc + 10) = .ok (.athrow, 1))
    (hout : ∀ x ∈ c.exceptionTable.toList, covers x (pc + 10) = false)
    (hRframes : names.length + 3 < R.frames) (hRlocals : (rest.map fun v => v.category).sum + (13 * (names.length + 1) + 43) ≤ R.locals) (hRcells : cells + 1 ≤ R.cells) (hRslots : slots + 6 ≤ R.slots) (hlocks : meth.locks = false)
    (hx : ∀ t : State, s.vm.Alike t.vm → H.size ≤ t.heap.size → (∀ q : Nat, q < H.size → t.heap[q]? = H[q]?) → XC cls s t)
    (hf : ∀ z ∈ locs, free z.base) (hc : cells + 1 ≤ mc) (hs : slots + 6 ≤ ms) :
    W p l e R s m args below meth c H locs cells slots (vx_MQ below Qc XC args s mc ms free) (F0 m pc ls rest) := by
  intro T hT X
  have htr : e.platform.stackTraces = false := (show e.platform.stackTraces = l.stackTraces by rw [X.admits.platform]).trans hl
  have Y := vx_rebase X (R' := { frames := R.frames, locals := R.locals, cells := 1, slots := 6 }) (Nat.le_refl _) (Nat.le_refl _) hRcells hRslots
  obtain ⟨s', hA⟩ : ∃ z, z = (T.setVm s.vm).setFrames (.invoking m args :: below) := ⟨_, rfl⟩
  rw [← hA] at Y
  have hvm : s'.vm = s.vm := by rw [hA]; rfl
  have hhp : s'.heap = H := by rw [hA]; exact hT
  have hW0 : s.WarmedH s'.vm := by rw [hvm]; exact State.WarmedH.refl s
  have hat' : ∀ w ∈ vx_atS own ic cls names, w.before args s' = true := fun w hw => vx_ot_at hW0 hvm.symm (hgood w (List.mem_cons_of_mem _ (List.mem_cons_of_mem _ hw))) (hat w hw)
  have hk' : (Cond.classLink own ik cls).before args s' = true := vx_ot_at hW0 hvm.symm (hgood _ List.mem_cons_self) hk
  have hini' : (Cond.initialized cls).before args s' = true := vx_ot_at hW0 hvm.symm (hgood _ (List.mem_cons_of_mem _ List.mem_cons_self)) hini
  have hU' : vx_Zq Bundle.tN "UNASSIGNED_STACK" Bundle.steD A s' s'.heap := by rw [hhp]; exact vx_Zq.moved hW0.alike (hU.kept hS.2.1)
  have hN' : vx_Zq Bundle.tN "SUPPRESSED_SENTINEL" Bundle.listD A s' s'.heap := by rw [hhp]; exact vx_Zq.moved hW0.alike (hN.kept hS.2.1)
  have h : ∀ w ∈ Bundle.ownAtoms own ic cls names, w.before args s' = true := vx_own hat' (vx_isRefq hU'.1) (vx_isRefq hN'.1) hU'.2.word hN'.2.word
  have hown' : s'.vm.findClass own = some m.cls := by rw [hvm]; exact hown
  have hins : (Cond.instantiable cls 6).before args s' = true := h _ (by simp [Bundle.ownAtoms])
  obtain ⟨vm₁, cX, kX, hfX, hkX, -, -, X₁, st1⟩ := Y.newCold hexec (own := own) (C := cls) (index := ik) (n := 6) hown' hk' hins hini'
    (g := F0 m pc ls rest) rfl (by rw [hb]; exact d0) (Nat.le_refl _) (Nat.le_refl _)
  generalize hT1 : (T.setVm vm₁).pushCell { cls := cX, slots := kX.instanceTypes.map defaultValue, vm := .none } = T1 at X₁ st1
  have hcat : (Value.ref T.heap.size).category = 1 := rfl
  have hcellA : T1.heap[T.heap.size]? = some (freshCell cX kX) := by rw [← hT1]; exact State.heap_pushCell_size _ _
  have d3' : decode c.code (pc + 3) = .ok (.dup, 1) := by rw [hb]; exact d3
  have d4' : decode c.code (pc + 4) = .ok (.ldc_w is, 3) := by rw [hb]; exact d4
  have hstr' : vk_R own is text sa s' := vk_R.warm hW0 hstr
  obtain ⟨U, hsteps, hrun, hend, hW, hsame, ce, hce, hO⟩ := X₁.ctorThrowS hexec htr (own := own) (cls := cls) (names := names) (ic := ic) hown' hcls hnames h (fun x hx => nomatch hx) hfX hkX hcellA (by rw [hhp, hT]; exact Nat.le_refl _) (msg := .ref sa) rfl
    (g := { method := m, pc := pc + 7, locals := ls, stack := .ref sa :: .ref T.heap.size :: .ref T.heap.size :: rest, locked := none }) rfl hsize rfl rfl (rest := rest) rfl
    (by rw [hb]; exact d7) (by rw [hb]; exact d10) hout hRframes (by simp only [List.map_cons, List.sum_cons, hcat]; omega) hlocks
  obtain ⟨f1, f2⟩ := vx_frame hsame
  rw [hhp] at f1 f2
  have hWs : s.WarmedH U.vm := State.WarmedH.trans hW0 hW
  have hcl : s.vm.findClass cls = some ce.cls := by
    have h9 := hO.cls
    rw [hvm] at h9
    exact h9
  have hall : s.sameButNew ({ U with vm := s.vm } : State) locs mc ms := by
    subst hA
    obtain ⟨e1, e2⟩ := hsame
    rw [State.setFrames_setFrames] at e1
    have h2 : (T.setVm s.vm).sameButNew ({ U with vm := s.vm } : State) [] (0 + 1) (0 + 6) := ⟨e1, e2⟩
    have h3 := X.same.trans h2
    rw [List.append_nil] at h3
    exact h3.mono hc hs
  refine ⟨U, ?_, .threw T.heap.size, hrun, hend, Or.inr ⟨T.heap.size, rfl, cls, ce, locs, hx U hWs.alike f1 (fun q hq => f2 q hq (fun z hz => nomatch hz)), hce, hO.vm, hcl, hWs, hall, hf⟩⟩
  refine st1 _ ?_
  show Steps p.tables e below (T1.setTop { method := m, pc := pc + 3, locals := ls, stack := .ref T.heap.size :: rest, locked := none }) _
  jvm_step X₁.here [X₁.here.top, hexec, d3', Value.category]
  exact X₁.ldcStringW hexec (own := own) (text := text) (index := is) (a := sa) hown' hstr'.1 hstr'.2
    (g := { method := m, pc := pc + 4, locals := ls, stack := .ref T.heap.size :: .ref T.heap.size :: rest, locked := none }) rfl d4' _ hsteps
end Ends
section Bodies
variable {l : Launch}
theorem vx_ofW {y : MethodName} {ws ws' : List Cond} {rm : Room} {Pc : Array Value → State → Prop} {Qc : Array Value → State → Outcome → State → Prop} {XC : String → State → State → Prop} {mc ms : Nat} {free : Addr → Prop} {cc : ByteArray} {maxL : Nat} {ret : Option FieldType}
    (hy : plainName y.cls = true) (hw : ws = Cond.code y cc maxL ret :: ws')
    (body : ∀ p e s m args below meth c s₁, BodyLoose p l y (headSpec ws rm) cc maxL ret e s m args below meth c s₁ → c.maxLocals = maxL → (∀ x ∈ c.exceptionTable.toList, False) → Pc args s →
      W p l e (headSpec ws rm).room s m args below meth c s.heap [] 0 0 (vx_MQ below Qc XC args s mc ms free) (entryFrame m args maxL)) : vx_Met l y ws rm Pc Qc XC mc ms free := by
  refine MetFree.of_bodyS (code := cc) (maxLocals := maxL) (ret := ret) hy ?_ ?_
  · intro args s m h hn
    obtain ⟨meth, c, h1, h2, h3, h4, h5, h6, -, -⟩ := Cond.code_spec hn (atoms_spec (ws := ws) h _ (by rw [hw]; exact List.mem_cons_self))
    exact ⟨meth, c, h1, h2, h3, h4, h5, h6⟩
  · intro p e s m args below meth c s₁ B hml hP _
    have hh0 : s₁.heap = s.heap := by rw [B.state]; rfl
    have ht : ∀ x ∈ c.exceptionTable.toList, False := by
      obtain ⟨meth9, c9, h1, h2, -, -, -, -, h7, -⟩ := Cond.code_spec B.named (atoms_spec (ws := ws) B.pre _ (by rw [hw]; exact List.mem_cons_self))
      cases Option.some.inj (h1.symm.trans B.method)
      cases Option.some.inj (h2.symm.trans (Stand.of_body B).code)
      intro x hx
      rw [Array.isEmpty_iff.mp h7] at hx
      cases hx
    obtain ⟨t, a1, o, b1, b2, b3⟩ := body p e s m args below meth c s₁ B hml ht hP s₁ hh0 (Stand.of_body B)
    exact ⟨t, o, a1, b1, b2, b3⟩
/-- the table of a body with handlers -/
theorem vx_table {p : Program} {x y : MethodName} {S : Spec} {cc bytes : ByteArray} {maxL maxL' : Nat} {ret ret' : Option FieldType} {e : Env} {s s₁ : State} {m : MethodId} {args : Array Value} {below : List Frame} {meth : Method} {c : Code} {hh : List (Nat × Nat × Nat × Nat)}
    (B : BodyLoose p l y S cc maxL ret e s m args below meth c s₁) (h : (Cond.codeWith y bytes maxL' ret' hh).before args s = true) : c.exceptionTable.toList = tableOf hh := by
  obtain ⟨m9, meth9, c9, hn9, h1, h2, -, -, h6, -⟩ := Cond.codeWith_spec h
  cases Option.some.inj (hn9.symm.trans B.named)
  cases Option.some.inj (h1.symm.trans B.method)
  cases Option.some.inj (h2.symm.trans (Stand.of_body B).code)
  rw [← h6, table_eq]
end Bodies
end VXA
/-! ===== END ===== -/
/-! ===== BEGIN a static call of a method with an exception table ===== -/
section VXS
variable {p : Program} {l : Launch} {e : Env} {R : Room} {s : State} {m : MethodId} {args : Array Value} {below : List Frame} {meth : Method} {c : Code} {T : State} {H : Heap} {locs : List Loc} {cells slots : Nat}
abbrev vx_CSW (R : Room) (s : State) (args : Array Value) (own : String) (index : Nat) (y : MethodName) (bytes : ByteArray) (maxL : Nat) (ret : Option FieldType) (hh : List (Nat × Nat × Nat × Nat)) (ws : List Cond) (rm : Room) (mc ms n : Nat) : Prop :=
  (rm.cells = mc ∧ rm.slots = ms ∧ rm.frames + 1 ≤ R.frames ∧ 8 + (maxL + 11) + rm.locals ≤ R.locals ∧ (∀ w ∈ ws, ∀ (a' : Array Value) (U : State), s.WarmedH U.vm → w.before a' U = true) ∧ Cond.codeWith y bytes maxL ret hh ∈ ws) ∧
  (Cond.codeWith y bytes maxL ret hh).before args s = true ∧ (Cond.initialized y.cls).before args s = true ∧ (y.cls ≠ "java/lang/invoke/MethodHandle" ∧ y.cls ≠ "java/lang/invoke/VarHandle") ∧
  (∀ sig, parseMethodDescriptor y.desc = some sig → n = sig.parameters.length) ∧ (Cond.methodLink own index y).before args s = true ∧ (Cond.static y).before args s = true
theorem vx_cwSW {own : String} {index maxL mc ms : Nat} {y : MethodName} {bytes : ByteArray} {ret : Option FieldType} {hh : List (Nat × Nat × Nat × Nat)} {Ts ws ws' : List Cond} {rm : Room} (n : Nat) (ht : ∀ w ∈ Ts, w.before args s = true) (hT : GoodIn Ts (va_wsS own index y ws)) (hw : ws = Cond.codeWith y bytes maxL ret hh :: ws') (hrc : rm.cells = mc) (hrs : rm.slots = ms)
    (hd : y.cls ≠ "java/lang/invoke/MethodHandle" ∧ y.cls ≠ "java/lang/invoke/VarHandle" ∧ (parseMethodDescriptor y.desc).map (fun d => d.parameters.length) = some n) (hR : rm.frames + 1 ≤ R.frames ∧ 8 + (maxL + 11) + rm.locals ≤ R.locals) :
    vx_CSW R s args own index y bytes maxL ret hh ws rm mc ms n := by
  have ok : ∀ w ∈ va_wsS own index y ws, w.before args s = true := fun w h => ht w (hT w h).1
  have hG : GoodIn Ts ws := fun w h => hT w (by unfold va_wsS; exact List.mem_append_right _ h)
  have hc : Cond.codeWith y bytes maxL ret hh ∈ ws := by rw [hw]; exact List.mem_cons_self
  refine ⟨⟨hrc, hrs, hR.1, hR.2, pay_in ht hG, hc⟩, ht _ (hG _ hc).1, ok _ (by simp [va_wsS]), ⟨hd.1, hd.2.1⟩, fun sig h => ?_, ok _ (by simp [va_wsS]), ok _ (by simp [va_wsS])⟩
  have h2 := hd.2.2
  rw [h] at h2
  exact (Option.some.inj h2).symm
theorem vx_callSW (X : Stand p l e R s m args below meth c T locs cells slots) (hexec : p.tables.exec = Jvm.exec) {own : String} {index : Nat} {y : MethodName} {bytes : ByteArray} {maxL : Nat} {ret : Option FieldType} {hh : List (Nat × Nat × Nat × Nat)}
    (hown : s.vm.findClass own = some m.cls) (hlink : (Cond.methodLink own index y).before args s = true) (hstat : (Cond.static y).before args s = true) (hinit : (Cond.initialized y.cls).before args s = true)
    (hcode : (Cond.codeWith y bytes maxL ret hh).before args s = true) (hy : y.cls ≠ "java/lang/invoke/MethodHandle" ∧ y.cls ≠ "java/lang/invoke/VarHandle")
    {W9 : Nat} {Pre : Pt → Array Value → Prop} {Post : Pt → Array Value → Option Value → Pt → Prop} (hK : Back l R p e below s args y 3 W9 Pre Post)
    {g : JFrame} (hg : g.method = m) (hsize : g.locals.size = c.maxLocals) {argsL rest : List Value} (hlen : ∀ sig, parseMethodDescriptor y.desc = some sig → argsL.length = sig.parameters.length)
    (hstack : g.stack = argsL.reverse ++ rest) (hW : 2 * g.monitorRoom + (rest.map fun v => v.category).sum ≤ W9) (hdg : decode c.code g.pc = .ok (.invokestatic index, 3))
    (hpre : ∀ vm₁, s.WarmedH vm₁ → Pre ⟨T.setVm vm₁, locs, cells, slots⟩ argsL.toArray) :
    ∃ (v : Option Value) (vm₁ : Vm) (B : Pt), s.WarmedH vm₁ ∧ Stand p l e R s m args below meth c B.U B.locs B.cells B.slots ∧ Post ⟨T.setVm vm₁, locs, cells, slots⟩ argsL.toArray v B ∧
      ∀ target, Steps p.tables e below (B.U.setTop { g with pc := g.pc + 3, stack := v.toList ++ rest }) target → Steps p.tables e below (T.setTop g) target := by
  obtain ⟨mk, methM, cM, hnamed, hmethM, -, -, -, -, -, -, hsigM⟩ := Cond.codeWith_spec hcode
  have hstatic : methM.isStatic = true := Cond.static_spec hnamed hmethM hstat
  obtain ⟨kP, hkP, -⟩ := className_of_methodNamed hnamed
  have hinitP : kP.init = .initialized := Cond.initialized_spec (findClass_of_methodNamed hnamed) hkP hinit
  obtain ⟨vm₁, X₁, hstep₁⟩ := X.invokestatic hexec hown hlink hnamed hmethM hstatic hkP hinitP hy (g := g) hg (argsL := argsL) (rest := rest) (hlen _ hsigM) hstack hdg
  obtain ⟨v, B, X', hpost, hsteps⟩ := hK m meth c ⟨T.setVm vm₁, locs, cells, slots⟩ { g with stack := rest } (.invokestatic index) mk argsL.toArray X₁ hg hsize hdg hW (X₁.named hnamed) (hpre vm₁ X₁.warmed)
  exact ⟨v, vm₁, B, X₁.warmed, X', hpost, fun target h => hstep₁ _ fun acts => by rw [doInvoke_state]; exact hsteps.trans h⟩
theorem vx_runSW {y : MethodName} {bytes cc : ByteArray} {maxL nL mc ms n index : Nat} {ret : Option FieldType} {hh : List (Nat × Nat × Nat × Nat)} {ws : List Cond} {rm : Room} {Pc : Array Value → State → Prop} {Qc : Array Value → State → Outcome → State → Prop} {free : Addr → Prop} {Ts : List Cond} {own : String} {As rest : List Value} {g : JFrame}
    (S : CallFix p m c cc nL s args Ts own) (hM : Met l y ws rm Pc Qc mc ms free) (cw : vx_CSW R s args own index y bytes maxL ret hh ws rm mc ms n) (hp : PreS s H Pc As)
    (hg : g.method = m) (hn : As.length = n) (hsize : g.locals.size = nL) (hstack : g.stack = As.reverse ++ rest) (hW : 2 * g.monitorRoom + (rest.map fun v => v.category).sum ≤ 8) (hdg : decode cc g.pc = .ok (.invokestatic index, 3)) (hf : cells + mc ≤ R.cells ∧ slots + ms ≤ R.slots) :
    va_Run p l e R s m args below meth c H locs cells slots mc ms g rest (Qc As.toArray) (free) := by
  obtain ⟨⟨hrc, hrs, hfr, hlo, hws, hcw⟩, hcode, hini, hy, hlen, hl, hstt⟩ := cw
  have hK : Back l R p e below s args y 3 8 (PreOf R mc ms Pc) (PostOf Qc mc ms free) := va_backW (hh := hh) (bytes := bytes) (maxL := maxL) (ret := ret) hM hp.1 hrc hrs hfr hlo hws hcw (fun a' U hW => word_at hW (Or.inl (by first | rfl | simp [Cond.onTables, Cond.keeps, Cond.steady])) hini)
  obtain ⟨hx, hb, hml, ho, -⟩ := S
  intro T hT X
  obtain ⟨v, vm₁, ⟨U', l2, c2, s2⟩, hW₁, X', ⟨g', mk, t, L, e1, e2, hq, h1, hL, h2, h3⟩, st⟩ := vx_callSW X hx (hh := hh) (bytes := bytes) (maxL := maxL) (ret := ret) ho hl hstt hini hcode hy hK hg (hsize.trans hml.symm) (argsL := As) (rest := rest) (fun sig h => hn.trans (hlen sig h)) hstack hW (by rw [hb]; exact hdg)
    (fun vm₁ hW₁ => ⟨hf.1, hf.2, hp.2 (T.setVm vm₁) hT hW₁⟩)
  dsimp only [Pt.U, Pt.locs, Pt.cells, Pt.slots] at X' e1 e2 h1 h2 h3 st
  subst h1; subst h2; subst h3
  exact ⟨v, (T.setVm vm₁).calling g' mk As.toArray, t, U', L, hT, X', hL, e1, e2, hq, st⟩
/-- a thing of a world lies in the heap -/
theorem vx_lt {D : va_G} {cl : List vw_C} {ws : va_W} {H1 : Heap} (h : va_P D cl ws H1) {k : Nat} {q : Nat × va_E} (hk : ws[k]? = some q) : q.1 < H1.size := (h k q hk).lt
end VXS
/-! ===== END ===== -/
/-! ===== BEGIN methods with a table of their own: called by a name, returning or throwing ===== -/
section VXH
/-! vx_backW, vx_callVX, vx_callSX, vx_callVW, vx_runVW, vx_runVX, vx_runSX, vx_ofWH follow the same proofs as their sisters above (Free/Laws.lean, Shelf42/LK1.lean); vx_outP calls Shelf42/NT130.lean (outThrough). -/
section
variable {l : Launch} {R : Room} {p : Program} {e : Env} {below : List Frame} {s : State} {sargs : Array Value} {y : MethodName} {len W9 : Nat}
theorem vx_backW {ws : List Cond} {rm : Room} {Pc : Array Value → State → Prop} {Qc : Array Value → State → Outcome → State → Prop} {XC : String → State → State → Prop} {mc ms : Nat} {free : Addr → Prop} {bytes : ByteArray} {maxL : Nat} {ret : Option FieldType} {hh : List (Nat × Nat × Nat × Nat)}
    (hM : vx_Met l y ws rm Pc Qc XC mc ms free) (hblind : FrameBlind Pc) (hrc : rm.cells = mc) (hrs : rm.slots = ms)
    (hframes : rm.frames + 1 ≤ R.frames) (hlocals : W9 + (maxL + 11) + rm.locals ≤ R.locals)
    (hws : ∀ w ∈ ws, ∀ a' U, s.WarmedH U.vm → w.before a' U = true) (hcode : Cond.codeWith y bytes maxL ret hh ∈ ws) (hinit : ∀ a' U, s.WarmedH U.vm → (Cond.initialized y.cls).before a' U = true) :
    vx_Back l R p e below s sargs y len W9 (PreOf R mc ms Pc) (PostOf Qc mc ms free) (vx_Post XC mc ms free) := by
  intro m meth c A g ig mk a X hg hsize hdg hW hn hp
  have h1 : (headSpec ws rm).pre.before a A.U = true := atoms_intro fun w hw => hws w hw _ _ X.warmed
  have h2 : (Cond.codeWith y bytes maxL ret hh).before a A.U = true := hws _ hcode _ _ X.warmed
  have h3 : (Cond.initialized y.cls).before a A.U = true := hinit _ _ X.warmed
  have h4 : A.cells + (headSpec ws rm).room.cells ≤ R.cells := by rw [show (headSpec ws rm).room.cells = mc from hrc]; exact hp.1
  have h5 : A.slots + (headSpec ws rm).room.slots ≤ R.slots := by rw [show (headSpec ws rm).room.slots = ms from hrs]; exact hp.2.1
  have hPc : Pc a (A.U.calling g mk a) := hblind _ _ _ _ hp.2.2
  obtain ⟨U, Ls, c0, s0⟩ := A
  dsimp only [Pt.U, Pt.locs, Pt.cells, Pt.slots] at h1 h2 h3 h4 h5 X hn hPc ⊢
  obtain ⟨m9, methY, cY, hn9, hmY, hcY, -, hlY, -⟩ := Cond.codeWith_spec h2
  cases Option.some.inj (hn9.symm.trans hn)
  obtain ⟨kY, hkY, -⟩ := className_of_methodNamed hn
  have hinitY : kY.init = .initialized := Cond.initialized_spec (findClass_of_methodNamed hn) hkY h3
  have h : At U g.method c below := by rw [hg]; exact X.here
  have hlocals9 : W9 + (maxL + 11) + (headSpec ws rm).room.locals ≤ R.locals := hlocals
  have happ : (headSpec ws rm).appliesLoose y e.platform (U.calling g mk a) = true :=
    Spec.appliesLoose_calling (g := g) h hdg hn hkY hinitY
      (X.room_calling (g := g) (R' := (headSpec ws rm).room) hsize hmY hcY hframes (by rw [hlY]; omega) h4 h5) h1
  obtain ⟨mid, hmid⟩ := h.above
  have hfr : (U.setTop g).frames = (.java g :: mid) ++ below := by rw [State.frames_setTop' g h.top, hmid]; rfl
  obtain ⟨o, s₂, hsteps, -, hend, hq⟩ := Steps.callFree hM p X.admits X.cas X.clock (acts := []) hfr happ hPc trivial
  have hq' : vx_Q Qc XC mc ms free a (U.calling g mk a) o s₂ := hq
  rw [State.frames_setTop' g h.top] at hend
  obtain ⟨g₀, hg0⟩ := Option.isSome_iff_exists.mp h.top
  obtain ⟨r, hr⟩ := State.topJava?_eq_some.mp hg0
  have hr' : (({ U with heap := s₂.heap, slotsUsed := s₂.slotsUsed } : State).setVm s₂.vm).frames = .java g₀ :: r := hr
  rcases hq' with ⟨hqc, L, hfe, hL⟩ | ⟨q, rfl, E, ce, L, hx, hce, hcv, hcl, hW₂, hsm, hL⟩
  · obtain ⟨⟨v, rfl⟩, hW₂, e2, q2, q3, q4, q5, q6⟩ := id hfe
    have e3 : s₂ = ({ (U.calling g mk a).setFrames s₂.frames with heap := s₂.heap, slotsUsed := s₂.slotsUsed } : State).setVm s₂.vm := by
      have : s₂ = ({ s₂ with vm := (U.calling g mk a).vm } : State).setVm s₂.vm := rfl
      rw [e2] at this
      exact this
    obtain ⟨c₂, i₂, len₂, hc₂, hd₂, hf₂⟩ := hend
    have hW' : U.WarmedH s₂.vm := hW₂
    have hcc : c₂ = c := by
      have h1 : s₂.code? g.method = U.code? g.method := by
        rw [State.code?_eq, State.code?_eq, hW'.alike.method?]
      exact Option.some.inj (hc₂.symm.trans (h1.trans h.code))
    subst hcc
    have hlen : len₂ = len := by rw [hdg] at hd₂; cases hd₂; rfl
    subst hlen
    have hs₂ : s₂ = (({ U with heap := s₂.heap, slotsUsed := s₂.slotsUsed } : State).setVm s₂.vm).setTop { g with pc := g.pc + len₂, stack := v.toList ++ g.stack } := by
      refine e3.trans ?_
      rw [hf₂, State.calling_eq h.top, State.setFrames_setFrames, State.setTop_of_frames _ hr', hr]
      rfl
    have hsame : U.sameButNew ({ U with heap := s₂.heap, slotsUsed := s₂.slotsUsed } : State) L mc ms := by
      refine ⟨?_, q2, q3, q4, q5, q6⟩
      obtain ⟨t, ht, -⟩ := State.frames_cons hr
      show ({ U with heap := s₂.heap, slotsUsed := s₂.slotsUsed } : State) = { U.setFrames U.frames with heap := s₂.heap, slotsUsed := s₂.slotsUsed }
      rw [State.setFrames_self ht]
    subst hg
    refine Or.inl ⟨v, ⟨(({ U with heap := s₂.heap, slotsUsed := s₂.slotsUsed } : State).setVm s₂.vm), Ls ++ L, c0 + mc, s0 + ms⟩,
      ⟨X.admits, X.cas, X.clock, X.frames, X.room, X.hears, X.method, X.code, (X.here.setHeapUsed s₂.heap s₂.slotsUsed).setVm hW'.alike, X.tail, State.WarmedH.trans X.warmed hW', X.limits, X.bytes, X.same.trans (hsame.setVm s.vm)⟩,
      ⟨g, mk, s₂, L, rfl, rfl, hqc, rfl, hL, rfl, rfl⟩, ?_⟩
    show Steps p.tables e below _ ((({ U with heap := s₂.heap, slotsUsed := s₂.slotsUsed } : State).setVm s₂.vm).setTop { g with pc := g.pc + len₂, stack := v.toList ++ g.stack })
    rw [← hs₂]
    exact hsteps
  · obtain ⟨e2, q2, q3, q4, q5, q6⟩ := id hsm
    have e3 : s₂ = ({ (U.calling g mk a).setFrames s₂.frames with heap := s₂.heap, slotsUsed := s₂.slotsUsed } : State).setVm s₂.vm := by
      have : s₂ = ({ s₂ with vm := (U.calling g mk a).vm } : State).setVm s₂.vm := rfl
      rw [e2] at this
      exact this
    have hf₂ : s₂.frames = .throwing q :: .java g :: U.frames.tail := hend
    have hW' : U.WarmedH s₂.vm := hW₂
    have hs₂ : s₂ = ((({ U with heap := s₂.heap, slotsUsed := s₂.slotsUsed } : State).setVm s₂.vm).setTop g).pushFrame (.throwing q) := by
      refine e3.trans ?_
      rw [hf₂, State.calling_eq h.top, State.setFrames_setFrames, State.pushFrame, State.frames_setTop _ hr', State.setTop_of_frames _ hr', State.setFrames_setFrames, hr]
      rfl
    have hsame : U.sameButNew ({ U with heap := s₂.heap, slotsUsed := s₂.slotsUsed } : State) L mc ms := by
      refine ⟨?_, q2, q3, q4, q5, q6⟩
      obtain ⟨t, ht, -⟩ := State.frames_cons hr
      show ({ U with heap := s₂.heap, slotsUsed := s₂.slotsUsed } : State) = { U.setFrames U.frames with heap := s₂.heap, slotsUsed := s₂.slotsUsed }
      rw [State.setFrames_self ht]
    subst hg
    refine Or.inr ⟨q, ⟨(({ U with heap := s₂.heap, slotsUsed := s₂.slotsUsed } : State).setVm s₂.vm), Ls ++ L, c0 + mc, s0 + ms⟩,
      ⟨X.admits, X.cas, X.clock, X.frames, X.room, X.hears, X.method, X.code, (X.here.setHeapUsed s₂.heap s₂.slotsUsed).setVm hW'.alike, X.tail, State.WarmedH.trans X.warmed hW', X.limits, X.bytes, X.same.trans (hsame.setVm s.vm)⟩,
      ⟨g, mk, s₂, L, E, ce, rfl, rfl, hx, hce, hcv, hcl, rfl, hL, rfl, rfl⟩, ?_⟩
    show Steps p.tables e below _ (((({ U with heap := s₂.heap, slotsUsed := s₂.slotsUsed } : State).setVm s₂.vm).setTop g).pushFrame (.throwing q))
    rw [← hs₂]
    exact hsteps
end
variable {p : Program} {l : Launch} {e : Env} {R : Room} {s : State} {m : MethodId} {args : Array Value} {below : List Frame} {meth : Method} {c : Code} {T : State} {H : Heap} {locs : List Loc} {cells slots : Nat}
theorem vx_callVX (X : Stand p l e R s m args below meth c T locs cells slots) (hexec : p.tables.exec = Jvm.exec) {own C : String} {index : Nat} {y : MethodName} {bytes : ByteArray} {maxL : Nat} {ret : Option FieldType} {hh : List (Nat × Nat × Nat × Nat)}
    (hown : s.vm.findClass own = some m.cls) (hlink : (Cond.methodLink own index y).before args s = true) (hinst : (Cond.instanceMethod y).before args s = true) (hsel : (Cond.selects C y y).before args s = true)
    (hcode : (Cond.codeWith y bytes maxL ret hh).before args s = true) (hy : y.cls ≠ "java/lang/invoke/MethodHandle" ∧ y.cls ≠ "java/lang/invoke/VarHandle")
    {W9 : Nat} {Pre : Pt → Array Value → Prop} {Post : Pt → Array Value → Option Value → Pt → Prop} {PostX : Pt → Array Value → Addr → Pt → Prop} (hK : vx_Back l R p e below s args y 3 W9 Pre Post PostX)
    {b : Addr} {cellB : Cell} (hcell : T.heap[b]? = some cellB) (hobj : cellB.vm.isStatics = false) (hcls : s.vm.findClass C = some cellB.cls)
    {g : JFrame} (hg : g.method = m) (hsize : g.locals.size = c.maxLocals) {argsL rest : List Value} (hlen : ∀ sig, parseMethodDescriptor y.desc = some sig → argsL.length = sig.parameters.length)
    (hstack : g.stack = argsL.reverse ++ .ref b :: rest) (hW : 2 * g.monitorRoom + (rest.map fun v => v.category).sum ≤ W9) (hdg : decode c.code g.pc = .ok (.invokevirtual index, 3))
    (hpre : ∀ vm₁, s.WarmedH vm₁ → Pre ⟨T.setVm vm₁, locs, cells, slots⟩ (Value.ref b :: argsL).toArray) :
    (∃ (v : Option Value) (vm₁ : Vm) (B : Pt), s.WarmedH vm₁ ∧ Stand p l e R s m args below meth c B.U B.locs B.cells B.slots ∧ Post ⟨T.setVm vm₁, locs, cells, slots⟩ (Value.ref b :: argsL).toArray v B ∧
      ∀ target, Steps p.tables e below (B.U.setTop { g with pc := g.pc + 3, stack := v.toList ++ rest }) target → Steps p.tables e below (T.setTop g) target) ∨
    (∃ (q : Addr) (vm₁ : Vm) (B : Pt), s.WarmedH vm₁ ∧ Stand p l e R s m args below meth c B.U B.locs B.cells B.slots ∧ PostX ⟨T.setVm vm₁, locs, cells, slots⟩ (Value.ref b :: argsL).toArray q B ∧
      Steps p.tables e below (T.setTop g) ((B.U.setTop { g with stack := rest }).pushFrame (.throwing q))) := by
  obtain ⟨mk, methM, hnamed, hmethM, hstM, habM⟩ := Cond.instanceMethod_spec hinst
  obtain ⟨m8, methM', cM, hn8, hmethM', -, -, -, -, -, -, hsigM⟩ := Cond.codeWith_spec hcode
  cases Option.some.inj (hn8.symm.trans hnamed)
  cases hmethM.symm.trans hmethM'
  obtain ⟨c2, r2, m2, q1, q2, q3, q4, kP, hkP, hkPi⟩ := Cond.selects_spec hsel
  cases hcls.symm.trans q1
  cases (State.methodFound?_of_named hnamed hy).symm.trans q2
  cases hnamed.symm.trans q3
  have hselP : selectMethod e.platform s.vm cellB.cls mk = .method mk := by rw [Launch.admits_selectMethod X.admits]; exact q4
  obtain ⟨vm₁, X₁, hstep₁⟩ := X.invokevirtual hexec hown hlink hnamed hmethM hstM hkP hkPi hy (a := b) (cell := cellB) hcell
    (fun z h => by rw [h] at hobj; cases hobj) hselP hmethM habM hkP hkPi (g := g) hg (argsL := argsL) (rest := rest) (hlen _ hsigM) hstack hdg
  rcases hK m meth c ⟨T.setVm vm₁, locs, cells, slots⟩ { g with stack := rest } (.invokevirtual index) mk (Value.ref b :: argsL).toArray X₁ hg hsize hdg hW (X₁.named hnamed) (hpre vm₁ X₁.warmed) with ⟨v, B, X', hpost, hsteps⟩ | ⟨q, B, X', hpost, hsteps⟩
  · exact Or.inl ⟨v, vm₁, B, X₁.warmed, X', hpost, fun target h => hstep₁ _ fun acts => by rw [doInvoke_state]; exact hsteps.trans h⟩
  · exact Or.inr ⟨q, vm₁, B, X₁.warmed, X', hpost, hstep₁ _ fun acts => by rw [doInvoke_state]; exact hsteps⟩
theorem vx_callSX (X : Stand p l e R s m args below meth c T locs cells slots) (hexec : p.tables.exec = Jvm.exec) {own : String} {index : Nat} {y : MethodName} {bytes : ByteArray} {maxL : Nat} {ret : Option FieldType} {hh : List (Nat × Nat × Nat × Nat)}
    (hown : s.vm.findClass own = some m.cls) (hlink : (Cond.methodLink own index y).before args s = true) (hstat : (Cond.static y).before args s = true) (hinit : (Cond.initialized y.cls).before args s = true)
    (hcode : (Cond.codeWith y bytes maxL ret hh).before args s = true) (hy : y.cls ≠ "java/lang/invoke/MethodHandle" ∧ y.cls ≠ "java/lang/invoke/VarHandle")
    {W9 : Nat} {Pre : Pt → Array Value → Prop} {Post : Pt → Array Value → Option Value → Pt → Prop} {PostX : Pt → Array Value → Addr → Pt → Prop} (hK : vx_Back l R p e below s args y 3 W9 Pre Post PostX)
    {g : JFrame} (hg : g.method = m) (hsize : g.locals.size = c.maxLocals) {argsL rest : List Value} (hlen : ∀ sig, parseMethodDescriptor y.desc = some sig → argsL.length = sig.parameters.length)
    (hstack : g.stack = argsL.reverse ++ rest) (hW : 2 * g.monitorRoom + (rest.map fun v => v.category).sum ≤ W9) (hdg : decode c.code g.pc = .ok (.invokestatic index, 3))
    (hpre : ∀ vm₁, s.WarmedH vm₁ → Pre ⟨T.setVm vm₁, locs, cells, slots⟩ argsL.toArray) :
    (∃ (v : Option Value) (vm₁ : Vm) (B : Pt), s.WarmedH vm₁ ∧ Stand p l e R s m args below meth c B.U B.locs B.cells B.slots ∧ Post ⟨T.setVm vm₁, locs, cells, slots⟩ argsL.toArray v B ∧
      ∀ target, Steps p.tables e below (B.U.setTop { g with pc := g.pc + 3, stack := v.toList ++ rest }) target → Steps p.tables e below (T.setTop g) target) ∨
    (∃ (q : Addr) (vm₁ : Vm) (B : Pt), s.WarmedH vm₁ ∧ Stand p l e R s m args below meth c B.U B.locs B.cells B.slots ∧ PostX ⟨T.setVm vm₁, locs, cells, slots⟩ argsL.toArray q B ∧
      Steps p.tables e below (T.setTop g) ((B.U.setTop { g with stack := rest }).pushFrame (.throwing q))) := by
  obtain ⟨mk, methM, cM, hnamed, hmethM, -, -, -, -, -, -, hsigM⟩ := Cond.codeWith_spec hcode
  have hstatic : methM.isStatic = true := Cond.static_spec hnamed hmethM hstat
  obtain ⟨kP, hkP, -⟩ := className_of_methodNamed hnamed
  have hinitP : kP.init = .initialized := Cond.initialized_spec (findClass_of_methodNamed hnamed) hkP hinit
  obtain ⟨vm₁, X₁, hstep₁⟩ := X.invokestatic hexec hown hlink hnamed hmethM hstatic hkP hinitP hy (g := g) hg (argsL := argsL) (rest := rest) (hlen _ hsigM) hstack hdg
  rcases hK m meth c ⟨T.setVm vm₁, locs, cells, slots⟩ { g with stack := rest } (.invokestatic index) mk argsL.toArray X₁ hg hsize hdg hW (X₁.named hnamed) (hpre vm₁ X₁.warmed) with ⟨v, B, X', hpost, hsteps⟩ | ⟨q, B, X', hpost, hsteps⟩
  · exact Or.inl ⟨v, vm₁, B, X₁.warmed, X', hpost, fun target h => hstep₁ _ fun acts => by rw [doInvoke_state]; exact hsteps.trans h⟩
  · exact Or.inr ⟨q, vm₁, B, X₁.warmed, X', hpost, hstep₁ _ fun acts => by rw [doInvoke_state]; exact hsteps⟩
theorem vx_callVW (X : Stand p l e R s m args below meth c T locs cells slots) (hexec : p.tables.exec = Jvm.exec) {own C : String} {index : Nat} {y : MethodName} {bytes : ByteArray} {maxL : Nat} {ret : Option FieldType} {hh : List (Nat × Nat × Nat × Nat)}
    (hown : s.vm.findClass own = some m.cls) (hlink : (Cond.methodLink own index y).before args s = true) (hinst : (Cond.instanceMethod y).before args s = true) (hsel : (Cond.selects C y y).before args s = true)
    (hcode : (Cond.codeWith y bytes maxL ret hh).before args s = true) (hy : y.cls ≠ "java/lang/invoke/MethodHandle" ∧ y.cls ≠ "java/lang/invoke/VarHandle")
    {W9 : Nat} {Pre : Pt → Array Value → Prop} {Post : Pt → Array Value → Option Value → Pt → Prop} (hK : Back l R p e below s args y 3 W9 Pre Post)
    {b : Addr} {cellB : Cell} (hcell : T.heap[b]? = some cellB) (hobj : cellB.vm.isStatics = false) (hcls : s.vm.findClass C = some cellB.cls)
    {g : JFrame} (hg : g.method = m) (hsize : g.locals.size = c.maxLocals) {argsL rest : List Value} (hlen : ∀ sig, parseMethodDescriptor y.desc = some sig → argsL.length = sig.parameters.length)
    (hstack : g.stack = argsL.reverse ++ .ref b :: rest) (hW : 2 * g.monitorRoom + (rest.map fun v => v.category).sum ≤ W9) (hdg : decode c.code g.pc = .ok (.invokevirtual index, 3))
    (hpre : ∀ vm₁, s.WarmedH vm₁ → Pre ⟨T.setVm vm₁, locs, cells, slots⟩ (Value.ref b :: argsL).toArray) :
    ∃ (v : Option Value) (vm₁ : Vm) (B : Pt), s.WarmedH vm₁ ∧ Stand p l e R s m args below meth c B.U B.locs B.cells B.slots ∧ Post ⟨T.setVm vm₁, locs, cells, slots⟩ (Value.ref b :: argsL).toArray v B ∧
      ∀ target, Steps p.tables e below (B.U.setTop { g with pc := g.pc + 3, stack := v.toList ++ rest }) target → Steps p.tables e below (T.setTop g) target := by
  obtain ⟨mk, methM, hnamed, hmethM, hstM, habM⟩ := Cond.instanceMethod_spec hinst
  obtain ⟨m8, methM', cM, hn8, hmethM', -, -, -, -, -, -, hsigM⟩ := Cond.codeWith_spec hcode
  cases Option.some.inj (hn8.symm.trans hnamed)
  cases hmethM.symm.trans hmethM'
  obtain ⟨c2, r2, m2, q1, q2, q3, q4, kP, hkP, hkPi⟩ := Cond.selects_spec hsel
  cases hcls.symm.trans q1
  cases (State.methodFound?_of_named hnamed hy).symm.trans q2
  cases hnamed.symm.trans q3
  have hselP : selectMethod e.platform s.vm cellB.cls mk = .method mk := by rw [Launch.admits_selectMethod X.admits]; exact q4
  obtain ⟨vm₁, X₁, hstep₁⟩ := X.invokevirtual hexec hown hlink hnamed hmethM hstM hkP hkPi hy (a := b) (cell := cellB) hcell
    (fun z h => by rw [h] at hobj; cases hobj) hselP hmethM habM hkP hkPi (g := g) hg (argsL := argsL) (rest := rest) (hlen _ hsigM) hstack hdg
  obtain ⟨v, B, X', hpost, hsteps⟩ := hK m meth c ⟨T.setVm vm₁, locs, cells, slots⟩ { g with stack := rest } (.invokevirtual index) mk (Value.ref b :: argsL).toArray X₁ hg hsize hdg hW (X₁.named hnamed) (hpre vm₁ X₁.warmed)
  exact ⟨v, vm₁, B, X₁.warmed, X', hpost, fun target h => hstep₁ _ fun acts => by rw [doInvoke_state]; exact hsteps.trans h⟩
abbrev vx_CVW (R : Room) (s : State) (args : Array Value) (own C : String) (index : Nat) (y : MethodName) (bytes : ByteArray) (maxL : Nat) (ret : Option FieldType) (hh : List (Nat × Nat × Nat × Nat)) (ws : List Cond) (rm : Room) (mc ms n : Nat) : Prop :=
  (rm.cells = mc ∧ rm.slots = ms ∧ rm.frames + 1 ≤ R.frames ∧ 8 + (maxL + 11) + rm.locals ≤ R.locals ∧ (∀ w ∈ ws, ∀ (a' : Array Value) (U : State), s.WarmedH U.vm → w.before a' U = true) ∧ Cond.codeWith y bytes maxL ret hh ∈ ws) ∧
  (Cond.codeWith y bytes maxL ret hh).before args s = true ∧ (Cond.initialized y.cls).before args s = true ∧ (y.cls ≠ "java/lang/invoke/MethodHandle" ∧ y.cls ≠ "java/lang/invoke/VarHandle") ∧
  (∀ sig, parseMethodDescriptor y.desc = some sig → n = sig.parameters.length) ∧ (Cond.methodLink own index y).before args s = true ∧ (Cond.instanceMethod y).before args s = true ∧ (Cond.selects C y y).before args s = true
theorem vx_cwVW {own C : String} {index maxL mc ms : Nat} {y : MethodName} {bytes : ByteArray} {ret : Option FieldType} {hh : List (Nat × Nat × Nat × Nat)} {Ts ws ws' : List Cond} {rm : Room} (n : Nat) (ht : ∀ w ∈ Ts, w.before args s = true) (hT : GoodIn Ts (wsV own index C y ws)) (hw : ws = Cond.codeWith y bytes maxL ret hh :: ws') (hrc : rm.cells = mc) (hrs : rm.slots = ms)
    (hd : y.cls = C ∧ y.cls ≠ "java/lang/invoke/MethodHandle" ∧ y.cls ≠ "java/lang/invoke/VarHandle" ∧ (parseMethodDescriptor y.desc).map (fun d => d.parameters.length) = some n) (hR : rm.frames + 1 ≤ R.frames ∧ 8 + (maxL + 11) + rm.locals ≤ R.locals) :
    vx_CVW R s args own C index y bytes maxL ret hh ws rm mc ms n := by
  obtain ⟨hC, hd⟩ := hd
  subst hC
  have ok : ∀ w ∈ wsV own index y.cls y ws, w.before args s = true := fun w h => ht w (hT w h).1
  have hG : GoodIn Ts ws := fun w h => hT w (by unfold wsV; exact List.mem_append_right _ h)
  have hc : Cond.codeWith y bytes maxL ret hh ∈ ws := by rw [hw]; exact List.mem_cons_self
  refine ⟨⟨hrc, hrs, hR.1, hR.2, pay_in ht hG, hc⟩, ht _ (hG _ hc).1, ok _ (by simp [wsV]), ⟨hd.1, hd.2.1⟩, fun sig h => ?_, ok _ (by simp [wsV]), ok _ (by simp [wsV]), ok _ (by simp [wsV])⟩
  have h2 := hd.2.2
  rw [h] at h2
  exact (Option.some.inj h2).symm
theorem vx_runVW {y : MethodName} {bytes cc : ByteArray} {maxL nL mc ms n index : Nat} {ret : Option FieldType} {hh : List (Nat × Nat × Nat × Nat)} {ws : List Cond} {rm : Room} {Pc : Array Value → State → Prop} {Qc : Array Value → State → Outcome → State → Prop} {free : Addr → Prop} {Ts : List Cond} {own C : String} {b : Addr} {As rest : List Value} {g : JFrame}
    (S : CallFix p m c cc nL s args Ts own) (hM : Met l y ws rm Pc Qc mc ms free) (cw : vx_CVW R s args own C index y bytes maxL ret hh ws rm mc ms n) (hp : PreV s H C b Pc As)
    (hg : g.method = m) (hn : As.length = n) (hsize : g.locals.size = nL) (hstack : g.stack = As.reverse ++ .ref b :: rest) (hW : 2 * g.monitorRoom + (rest.map fun v => v.category).sum ≤ 8) (hdg : decode cc g.pc = .ok (.invokevirtual index, 3)) (hf : cells + mc ≤ R.cells ∧ slots + ms ≤ R.slots) :
    va_Run p l e R s m args below meth c H locs cells slots mc ms g rest (Qc (Value.ref b :: As).toArray) free := by
  obtain ⟨⟨hrc, hrs, hfr, hlo, hws, hcw⟩, hcode, hini, hy, hlen, hl, hin, hse⟩ := cw
  have hK : Back l R p e below s args y 3 8 (PreOf R mc ms Pc) (PostOf Qc mc ms free) := va_backW (hh := hh) (bytes := bytes) (maxL := maxL) (ret := ret) hM hp.1 hrc hrs hfr hlo hws hcw (fun a' U hW => word_at hW (Or.inl (by first | rfl | simp [Cond.onTables, Cond.keeps, Cond.steady])) hini)
  obtain ⟨hx, hb, hml, ho, -⟩ := S
  obtain ⟨-, ⟨cellB, hcB, hoB, hclB⟩, hPc⟩ := hp
  intro T hT X
  obtain ⟨v, vm₁, ⟨U', l2, c2, s2⟩, hW₁, X', ⟨g', mk, t, L, e1, e2, hq, h1, hL, h2, h3⟩, st⟩ := vx_callVW X hx (C := C) (hh := hh) (bytes := bytes) (maxL := maxL) (ret := ret) ho hl hin hse hcode hy hK (by rw [hT]; exact hcB) hoB hclB hg (hsize.trans hml.symm) (argsL := As) (rest := rest) (fun sig h => hn.trans (hlen sig h)) hstack hW (by rw [hb]; exact hdg)
    (fun vm₁ hW₁ => ⟨hf.1, hf.2, hPc (T.setVm vm₁) hT hW₁⟩)
  dsimp only [Pt.U, Pt.locs, Pt.cells, Pt.slots] at X' e1 e2 h1 h2 h3 st
  subst h1; subst h2; subst h3
  exact ⟨v, (T.setVm vm₁).calling g' mk (Value.ref b :: As).toArray, t, U', L, hT, X', hL, e1, e2, hq, st⟩
section
variable {y : MethodName} {bytes cc : ByteArray} {maxL nL mc ms n index : Nat} {ret : Option FieldType} {ws : List Cond} {rm : Room} {Pc : Array Value → State → Prop} {Qc : Array Value → State → Outcome → State → Prop} {XC : String → State → State → Prop} {free : Addr → Prop} {Ts : List Cond} {own C : String} {b : Addr} {As rest : List Value} {g : JFrame}
theorem vx_runVX {hh : List (Nat × Nat × Nat × Nat)} (S : CallFix p m c cc nL s args Ts own) (hM : vx_Met l y ws rm Pc Qc XC mc ms free) (cw : vx_CVW R s args own C index y bytes maxL ret hh ws rm mc ms n) (hp : PreV s H C b Pc As)
    (hg : g.method = m) (hn : As.length = n) (hsize : g.locals.size = nL) (hstack : g.stack = As.reverse ++ .ref b :: rest) (hW : 2 * g.monitorRoom + (rest.map fun v => v.category).sum ≤ 8) (hdg : decode cc g.pc = .ok (.invokevirtual index, 3)) (hf : cells + mc ≤ R.cells ∧ slots + ms ≤ R.slots) :
    vx_Run p l e R s m args below meth c H locs cells slots mc ms g rest (Qc (Value.ref b :: As).toArray) XC free := by
  obtain ⟨⟨hrc, hrs, hfr, hlo, hws, hcw⟩, hcode, hini, hy, hlen, hl, hin, hse⟩ := cw
  have hK : vx_Back l R p e below s args y 3 8 (PreOf R mc ms Pc) (PostOf Qc mc ms free) (vx_Post XC mc ms free) := vx_backW (hh := hh) (bytes := bytes) (maxL := maxL) (ret := ret) hM hp.1 hrc hrs hfr hlo hws hcw (fun a' U hW => word_at hW (Or.inl (by first | rfl | simp [Cond.onTables, Cond.keeps, Cond.steady])) hini)
  obtain ⟨hx, hb, hml, ho, -⟩ := S
  obtain ⟨-, ⟨cellB, hcB, hoB, hclB⟩, hPc⟩ := hp
  intro T hT X
  rcases vx_callVX X hx (C := C) (hh := hh) (bytes := bytes) (maxL := maxL) (ret := ret) ho hl hin hse hcode hy hK (by rw [hT]; exact hcB) hoB hclB hg (hsize.trans hml.symm) (argsL := As) (rest := rest) (fun sig h => hn.trans (hlen sig h)) hstack hW (by rw [hb]; exact hdg)
    (fun vm₁ hW₁ => ⟨hf.1, hf.2, hPc (T.setVm vm₁) hT hW₁⟩) with ⟨v, vm₁, ⟨U', l2, c2, s2⟩, hW₁, X', ⟨g', mk, t, L, e1, e2, hq, h1, hL, h2, h3⟩, st⟩ | ⟨q, vm₁, ⟨U', l2, c2, s2⟩, hW₁, X', ⟨g', mk, t, L, E, ce, e1, e2, hq, hce, hcv, hcl, h1, hL, h2, h3⟩, st⟩
  · dsimp only [Pt.U, Pt.locs, Pt.cells, Pt.slots] at X' e1 e2 h1 h2 h3 st
    subst h1; subst h2; subst h3
    exact Or.inl ⟨v, (T.setVm vm₁).calling g' mk (Value.ref b :: As).toArray, t, U', L, hT, X', hL, e1, e2, hq, st⟩
  · dsimp only [Pt.U, Pt.locs, Pt.cells, Pt.slots] at X' e1 e2 h1 h2 h3 st hcl
    subst h1; subst h2; subst h3
    exact Or.inr ⟨q, (T.setVm vm₁).calling g' mk (Value.ref b :: As).toArray, t, U', L, E, ce, hT, X', hL, e1, e2, hq, hce, hcv, vx_cls hW₁ hcl, st⟩
theorem vx_runSX {hh : List (Nat × Nat × Nat × Nat)} (S : CallFix p m c cc nL s args Ts own) (hM : vx_Met l y ws rm Pc Qc XC mc ms free) (cw : vx_CSW R s args own index y bytes maxL ret hh ws rm mc ms n) (hp : PreS s H Pc As)
    (hg : g.method = m) (hn : As.length = n) (hsize : g.locals.size = nL) (hstack : g.stack = As.reverse ++ rest) (hW : 2 * g.monitorRoom + (rest.map fun v => v.category).sum ≤ 8) (hdg : decode cc g.pc = .ok (.invokestatic index, 3)) (hf : cells + mc ≤ R.cells ∧ slots + ms ≤ R.slots) :
    vx_Run p l e R s m args below meth c H locs cells slots mc ms g rest (Qc As.toArray) XC free := by
  obtain ⟨⟨hrc, hrs, hfr, hlo, hws, hcw⟩, hcode, hini, hy, hlen, hl, hstt⟩ := cw
  have hK : vx_Back l R p e below s args y 3 8 (PreOf R mc ms Pc) (PostOf Qc mc ms free) (vx_Post XC mc ms free) := vx_backW (hh := hh) (bytes := bytes) (maxL := maxL) (ret := ret) hM hp.1 hrc hrs hfr hlo hws hcw (fun a' U hW => word_at hW (Or.inl (by first | rfl | simp [Cond.onTables, Cond.keeps, Cond.steady])) hini)
  obtain ⟨hx, hb, hml, ho, -⟩ := S
  intro T hT X
  rcases vx_callSX X hx (hh := hh) (bytes := bytes) (maxL := maxL) (ret := ret) ho hl hstt hini hcode hy hK hg (hsize.trans hml.symm) (argsL := As) (rest := rest) (fun sig h => hn.trans (hlen sig h)) hstack hW (by rw [hb]; exact hdg)
    (fun vm₁ hW₁ => ⟨hf.1, hf.2, hp.2 (T.setVm vm₁) hT hW₁⟩) with ⟨v, vm₁, ⟨U', l2, c2, s2⟩, hW₁, X', ⟨g', mk, t, L, e1, e2, hq, h1, hL, h2, h3⟩, st⟩ | ⟨q, vm₁, ⟨U', l2, c2, s2⟩, hW₁, X', ⟨g', mk, t, L, E, ce, e1, e2, hq, hce, hcv, hcl, h1, hL, h2, h3⟩, st⟩
  · dsimp only [Pt.U, Pt.locs, Pt.cells, Pt.slots] at X' e1 e2 h1 h2 h3 st
    subst h1; subst h2; subst h3
    exact Or.inl ⟨v, (T.setVm vm₁).calling g' mk As.toArray, t, U', L, hT, X', hL, e1, e2, hq, st⟩
  · dsimp only [Pt.U, Pt.locs, Pt.cells, Pt.slots] at X' e1 e2 h1 h2 h3 st hcl
    subst h1; subst h2; subst h3
    exact Or.inr ⟨q, (T.setVm vm₁).calling g' mk As.toArray, t, U', L, E, ce, hT, X', hL, e1, e2, hq, hce, hcv, vx_cls hW₁ hcl, st⟩
end
end VXH
theorem vx_ofWH {l : Launch} {y : MethodName} {ws ws' : List Cond} {rm : Room} {Pc : Array Value → State → Prop} {Qc : Array Value → State → Outcome → State → Prop} {XC : String → State → State → Prop} {mc ms : Nat} {free : Addr → Prop} {cc : ByteArray} {maxL : Nat} {ret : Option FieldType} {hh : List (Nat × Nat × Nat × Nat)}
    (hy : plainName y.cls = true) (hw : ws = Cond.codeWith y cc maxL ret hh :: ws')
    (body : ∀ p e s m args below meth c s₁, BodyLoose p l y (headSpec ws rm) cc maxL ret e s m args below meth c s₁ → c.maxLocals = maxL → Pc args s →
      W p l e (headSpec ws rm).room s m args below meth c s.heap [] 0 0 (vx_MQ below Qc XC args s mc ms free) (entryFrame m args maxL)) : vx_Met l y ws rm Pc Qc XC mc ms free := by
  refine MetFree.of_bodyS (code := cc) (maxLocals := maxL) (ret := ret) hy ?_ ?_
  · intro args s m h hn
    obtain ⟨m9, meth, c, hn9, h1, h2, h3, h4, -, h5, h6, -⟩ := Cond.codeWith_spec (atoms_spec (ws := ws) h _ (by rw [hw]; exact List.mem_cons_self))
    cases hn.symm.trans hn9
    exact ⟨meth, c, h1, h2, h3, h4, h5, h6⟩
  · intro p e s m args below meth c s₁ B hml hP _
    have hh0 : s₁.heap = s.heap := by rw [B.state]; rfl
    obtain ⟨t, a1, o, b1, b2, b3⟩ := body p e s m args below meth c s₁ B hml hP s₁ hh0 (Stand.of_body B)
    exact ⟨t, o, a1, b1, b2, b3⟩
/-! ===== END ===== -/
end
section
def RX0 : String := "GraphTexts$Cursor"
def TX0 : u_T := fun k => match k with
  | 0 => ("GraphTexts$Cursor", "text", "LGraphTexts$Row;", false)
  | 1 => ("GraphTexts$Cursor", "at", "I", false)
  | 2 => ("GraphTexts$Cursor", "now", "I", false)
  | 3 => ("GraphTexts$Cursor", "line", "I", false)
  | 4 => ("GraphTexts$Cursor", "lineStart", "I", false)
  | 5 => ("GraphTexts$Cursor", "faultCode", "I", false)
  | 6 => ("GraphTexts$Cursor", "faultLine", "I", false)
  | _ => ("GraphTexts$Cursor", "faultPlace", "I", false)
def tyX0 : Nat → FieldType := fun k => match k with
  | 0 => .object "GraphTexts$Row"
  | 1 => .int
  | 2 => .int
  | 3 => .int
  | 4 => .int
  | 5 => .int
  | 6 => .int
  | _ => .int
abbrev wsX00 : List Cond := u_ws RX0 TX0 8
theorem nmX0 : ∀ a, a < 8 → ∀ b, b < 8 → a ≠ b → (TX0 a).2.1 ≠ (TX0 b).2.1 := by decide +kernel
theorem tyX0_ok : ∀ k, k < 8 → parseFieldDescriptor (TX0 k).2.2.1 = some (tyX0 k) := by decide +kernel
abbrev cX0_init : ByteArray := prog_2_method_1_code
def yX0_init : MethodName := ⟨RX0, "<init>", "(LGraphTexts$Row;)V"⟩
abbrev cX0_start : ByteArray := prog_2_method_2_code
def yX0_start : MethodName := ⟨RX0, "start", "(LGraphTexts$Row;)V"⟩
abbrev cX0_hasLine : ByteArray := prog_2_method_3_code
def yX0_hasLine : MethodName := ⟨RX0, "hasLine", "()Z"⟩
abbrev cX0_nextLine : ByteArray := prog_2_method_4_code
def yX0_nextLine : MethodName := ⟨RX0, "nextLine", "()V"⟩
abbrev cX0_step : ByteArray := prog_2_method_5_code
def yX0_step : MethodName := ⟨RX0, "step", "()V"⟩
abbrev cX0_skipBlanks : ByteArray := prog_2_method_6_code
def yX0_skipBlanks : MethodName := ⟨RX0, "skipBlanks", "()V"⟩
abbrev cX0_isWordEnd : ByteArray := prog_2_method_7_code
def yX0_isWordEnd : MethodName := ⟨RX0, "isWordEnd", "()Z"⟩
abbrev cX0_placeOf : ByteArray := prog_2_method_8_code
def yX0_placeOf : MethodName := ⟨RX0, "placeOf", "(I)I"⟩
abbrev cX0_wrong : ByteArray := prog_2_method_9_code
def yX0_wrong : MethodName := ⟨RX0, "wrong", "(II)Z"⟩
abbrev cX0_wrongElsewhere : ByteArray := prog_2_method_10_code
def yX0_wrongElsewhere : MethodName := ⟨RX0, "wrongElsewhere", "(III)Z"⟩
def RX1 : String := "GraphTexts$Graph"
def TX1 : u_T := fun k => match k with
  | 0 => ("GraphTexts$Graph", "signs", "LGraphTexts$Row;", true)
  | 1 => ("GraphTexts$Graph", "nodes", "LGraphTexts$Spans;", true)
  | 2 => ("GraphTexts$Graph", "heads", "LGraphTexts$Spans;", true)
  | 3 => ("GraphTexts$Graph", "comments", "LGraphTexts$Spans;", true)
  | 4 => ("GraphTexts$Graph", "kinds", "LGraphTexts$Row;", true)
  | 5 => ("GraphTexts$Graph", "from", "LGraphTexts$Row;", true)
  | 6 => ("GraphTexts$Graph", "to", "LGraphTexts$Row;", true)
  | 7 => ("GraphTexts$Graph", "arcLines", "LGraphTexts$Row;", true)
  | 8 => ("GraphTexts$Graph", "values", "LGraphTexts$Spans;", true)
  | 9 => ("GraphTexts$Graph", "types", "LGraphTexts$Row;", true)
  | 10 => ("GraphTexts$Graph", "thousandths", "LGraphTexts$Row;", true)
  | 11 => ("GraphTexts$Graph", "lines", "LGraphTexts$Row;", true)
  | 12 => ("GraphTexts$Graph", "arcsLeftOut", "I", false)
  | 13 => ("GraphTexts$Graph", "toldNodes", "I", false)
  | _ => ("GraphTexts$Graph", "toldArcs", "I", false)
def tyX1 : Nat → FieldType := fun k => match k with
  | 0 => .object "GraphTexts$Row"
  | 1 => .object "GraphTexts$Spans"
  | 2 => .object "GraphTexts$Spans"
  | 3 => .object "GraphTexts$Spans"
  | 4 => .object "GraphTexts$Row"
  | 5 => .object "GraphTexts$Row"
  | 6 => .object "GraphTexts$Row"
  | 7 => .object "GraphTexts$Row"
  | 8 => .object "GraphTexts$Spans"
  | 9 => .object "GraphTexts$Row"
  | 10 => .object "GraphTexts$Row"
  | 11 => .object "GraphTexts$Row"
  | 12 => .int
  | 13 => .int
  | _ => .int
abbrev wsX10 : List Cond := u_ws RX1 TX1 15
theorem nmX1 : ∀ a, a < 15 → ∀ b, b < 15 → a ≠ b → (TX1 a).2.1 ≠ (TX1 b).2.1 := by decide +kernel
theorem tyX1_ok : ∀ k, k < 15 → parseFieldDescriptor (TX1 k).2.2.1 = some (tyX1 k) := by decide +kernel
abbrev cX1_init : ByteArray := prog_3_method_1_code
def yX1_init : MethodName := ⟨RX1, "<init>", "()V"⟩
abbrev cX1_clear : ByteArray := prog_3_method_2_code
def yX1_clear : MethodName := ⟨RX1, "clear", "()V"⟩
abbrev cX1_arcCount : ByteArray := prog_3_method_3_code
def yX1_arcCount : MethodName := ⟨RX1, "arcCount", "()I"⟩
abbrev cX1_hasValue : ByteArray := prog_3_method_4_code
def yX1_hasValue : MethodName := ⟨RX1, "hasValue", "(II)Z"⟩
abbrev cX1_roomOf : ByteArray := prog_3_method_5_code
def yX1_roomOf : MethodName := ⟨RX1, "roomOf", "(II)I"⟩
abbrev cX1_missingOf : ByteArray := prog_3_method_6_code
def yX1_missingOf : MethodName := ⟨RX1, "missingOf", "(I)I"⟩
abbrev cX1_hasArc : ByteArray := prog_3_method_7_code
def yX1_hasArc : MethodName := ⟨RX1, "hasArc", "(II)Z"⟩
abbrev cX1_addArc : ByteArray := prog_3_method_8_code
def yX1_addArc : MethodName := ⟨RX1, "addArc", "(III)V"⟩
abbrev cX1_addValue : ByteArray := prog_3_method_9_code
def yX1_addValue : MethodName := ⟨RX1, "addValue", "(III)V"⟩
abbrev cX1_leaveArcOut : ByteArray := prog_3_method_10_code
def yX1_leaveArcOut : MethodName := ⟨RX1, "leaveArcOut", "()V"⟩
abbrev cX1_settleKinds : ByteArray := prog_3_method_11_code
def yX1_settleKinds : MethodName := ⟨RX1, "settleKinds", "()V"⟩
abbrev cX1_guessKind : ByteArray := prog_3_method_12_code
def yX1_guessKind : MethodName := ⟨RX1, "guessKind", "(I)I"⟩
def RX2 : String := "GraphTexts$Reader"
def TX2 : u_T := fun k => match k with
  | 0 => ("GraphTexts$Reader", "cursor", "LGraphTexts$Cursor;", true)
  | 1 => ("GraphTexts$Reader", "graph", "LGraphTexts$Graph;", false)
  | 2 => ("GraphTexts$Reader", "manner", "I", false)
  | 3 => ("GraphTexts$Reader", "arcWasRead", "Z", false)
  | 4 => ("GraphTexts$Reader", "countLine", "I", false)
  | 5 => ("GraphTexts$Reader", "nodesPlace", "I", false)
  | 6 => ("GraphTexts$Reader", "arcsPlace", "I", false)
  | 7 => ("GraphTexts$Reader", "number", "I", false)
  | 8 => ("GraphTexts$Reader", "nameAt", "I", false)
  | 9 => ("GraphTexts$Reader", "nameStart", "I", false)
  | 10 => ("GraphTexts$Reader", "valueType", "I", false)
  | 11 => ("GraphTexts$Reader", "valueStart", "I", false)
  | 12 => ("GraphTexts$Reader", "arcAt", "I", false)
  | 13 => ("GraphTexts$Reader", "first", "I", false)
  | 14 => ("GraphTexts$Reader", "second", "I", false)
  | _ => ("GraphTexts$Reader", "doubled", "Z", false)
def tyX2 : Nat → FieldType := fun k => match k with
  | 0 => .object "GraphTexts$Cursor"
  | 1 => .object "GraphTexts$Graph"
  | 2 => .int
  | 3 => .boolean
  | 4 => .int
  | 5 => .int
  | 6 => .int
  | 7 => .int
  | 8 => .int
  | 9 => .int
  | 10 => .int
  | 11 => .int
  | 12 => .int
  | 13 => .int
  | 14 => .int
  | _ => .boolean
abbrev wsX20 : List Cond := u_ws RX2 TX2 16
theorem nmX2 : ∀ a, a < 16 → ∀ b, b < 16 → a ≠ b → (TX2 a).2.1 ≠ (TX2 b).2.1 := by decide +kernel
theorem tyX2_ok : ∀ k, k < 16 → parseFieldDescriptor (TX2 k).2.2.1 = some (tyX2 k) := by decide +kernel
abbrev cX2_init : ByteArray := prog_4_method_1_code
def yX2_init : MethodName := ⟨RX2, "<init>", "(LGraphTexts$Row;LGraphTexts$Graph;)V"⟩
abbrev cX2_readText : ByteArray := prog_4_method_2_code
def yX2_readText : MethodName := ⟨RX2, "readText", "(LGraphTexts$Row;LGraphTexts$Graph;I)Z"⟩
abbrev cX2_countIsTrue : ByteArray := prog_4_method_3_code
def yX2_countIsTrue : MethodName := ⟨RX2, "countIsTrue", "()Z"⟩
abbrev cX2_readLine : ByteArray := prog_4_method_4_code
def yX2_readLine : MethodName := ⟨RX2, "readLine", "()Z"⟩
abbrev cX2_readComment : ByteArray := prog_4_method_5_code
def yX2_readComment : MethodName := ⟨RX2, "readComment", "()Z"⟩
abbrev cX2_readCount : ByteArray := prog_4_method_6_code
def yX2_readCount : MethodName := ⟨RX2, "readCount", "()Z"⟩
abbrev cX2_readNumber : ByteArray := prog_4_method_7_code
def yX2_readNumber : MethodName := ⟨RX2, "readNumber", "()Z"⟩
abbrev cX2_readHead : ByteArray := prog_4_method_8_code
def yX2_readHead : MethodName := ⟨RX2, "readHead", "()Z"⟩
abbrev cX2_kindOfLetter : ByteArray := prog_4_method_9_code
def yX2_kindOfLetter : MethodName := ⟨RX2, "kindOfLetter", "(I)I"⟩
abbrev cX2_readEnds : ByteArray := prog_4_method_10_code
def yX2_readEnds : MethodName := ⟨RX2, "readEnds", "()Z"⟩
abbrev cX2_endArc : ByteArray := prog_4_method_11_code
def yX2_endArc : MethodName := ⟨RX2, "endArc", "()Z"⟩
abbrev cX2_takeNode : ByteArray := prog_4_method_12_code
def yX2_takeNode : MethodName := ⟨RX2, "takeNode", "()I"⟩
abbrev cX2_readValues : ByteArray := prog_4_method_13_code
def yX2_readValues : MethodName := ⟨RX2, "readValues", "()Z"⟩
abbrev cX2_readValue : ByteArray := prog_4_method_14_code
def yX2_readValue : MethodName := ⟨RX2, "readValue", "(I)Z"⟩
abbrev cX2_readFigures : ByteArray := prog_4_method_15_code
def yX2_readFigures : MethodName := ⟨RX2, "readFigures", "(IZ)Z"⟩
abbrev cX2_readFraction : ByteArray := prog_4_method_16_code
def yX2_readFraction : MethodName := ⟨RX2, "readFraction", "(I)Z"⟩
abbrev cX2_readGuessed : ByteArray := prog_4_method_17_code
def yX2_readGuessed : MethodName := ⟨RX2, "readGuessed", "()Z"⟩
abbrev cX2_figuresOnly : ByteArray := prog_4_method_18_code
def yX2_figuresOnly : MethodName := ⟨RX2, "figuresOnly", "(I)Z"⟩
abbrev cX2_thousandthsRead : ByteArray := prog_4_method_19_code
def yX2_thousandthsRead : MethodName := ⟨RX2, "thousandthsRead", "()I"⟩
abbrev cX2_readName : ByteArray := prog_4_method_20_code
def yX2_readName : MethodName := ⟨RX2, "readName", "()Z"⟩
abbrev cX2_readPlain : ByteArray := prog_4_method_21_code
def yX2_readPlain : MethodName := ⟨RX2, "readPlain", "()Z"⟩
abbrev cX2_readQuoted : ByteArray := prog_4_method_22_code
def yX2_readQuoted : MethodName := ⟨RX2, "readQuoted", "()Z"⟩
abbrev cX2_readGap : ByteArray := prog_4_method_23_code
def yX2_readGap : MethodName := ⟨RX2, "readGap", "()Z"⟩
abbrev cX2_readLineEnd : ByteArray := prog_4_method_24_code
def yX2_readLineEnd : MethodName := ⟨RX2, "readLineEnd", "()Z"⟩
def RX3 : String := "GraphTexts$Row"
def TX3 : u_T := fun k => match k with
  | 0 => ("GraphTexts$Row", "cells", "[I", true)
  | _ => ("GraphTexts$Row", "length", "I", false)
def tyX3 : Nat → FieldType := fun k => match k with
  | 0 => .array .int
  | _ => .int
abbrev wsX30 : List Cond := u_ws RX3 TX3 2
theorem nmX3 : ∀ a, a < 2 → ∀ b, b < 2 → a ≠ b → (TX3 a).2.1 ≠ (TX3 b).2.1 := by decide +kernel
theorem tyX3_ok : ∀ k, k < 2 → parseFieldDescriptor (TX3 k).2.2.1 = some (tyX3 k) := by decide +kernel
abbrev cX3_init : ByteArray := prog_5_method_1_code
def yX3_init : MethodName := ⟨RX3, "<init>", "(I)V"⟩
abbrev cX3_clear : ByteArray := prog_5_method_2_code
def yX3_clear : MethodName := ⟨RX3, "clear", "()V"⟩
abbrev cX3_cut : ByteArray := prog_5_method_3_code
def yX3_cut : MethodName := ⟨RX3, "cut", "(I)V"⟩
abbrev cX3_add : ByteArray := prog_5_method_4_code
def yX3_add : MethodName := ⟨RX3, "add", "(I)V"⟩
abbrev cX3_put : ByteArray := prog_5_method_5_code
def yX3_put : MethodName := ⟨RX3, "put", "(II)V"⟩
abbrev cX3_has : ByteArray := prog_5_method_6_code
def yX3_has : MethodName := ⟨RX3, "has", "(I)Z"⟩
abbrev cX3_at : ByteArray := prog_5_method_7_code
def yX3_at : MethodName := ⟨RX3, "at", "(I)I"⟩
def RX4 : String := "GraphTexts$Spans"
def TX4 : u_T := fun k => match k with
  | 0 => ("GraphTexts$Spans", "signs", "LGraphTexts$Row;", true)
  | 1 => ("GraphTexts$Spans", "starts", "LGraphTexts$Row;", true)
  | 2 => ("GraphTexts$Spans", "lengths", "LGraphTexts$Row;", true)
  | _ => ("GraphTexts$Spans", "count", "I", false)
def tyX4 : Nat → FieldType := fun k => match k with
  | 0 => .object "GraphTexts$Row"
  | 1 => .object "GraphTexts$Row"
  | 2 => .object "GraphTexts$Row"
  | _ => .int
abbrev wsX40 : List Cond := u_ws RX4 TX4 4
theorem nmX4 : ∀ a, a < 4 → ∀ b, b < 4 → a ≠ b → (TX4 a).2.1 ≠ (TX4 b).2.1 := by decide +kernel
theorem tyX4_ok : ∀ k, k < 4 → parseFieldDescriptor (TX4 k).2.2.1 = some (tyX4 k) := by decide +kernel
abbrev cX4_init : ByteArray := prog_6_method_1_code
def yX4_init : MethodName := ⟨RX4, "<init>", "(LGraphTexts$Row;I)V"⟩
abbrev cX4_clear : ByteArray := prog_6_method_2_code
def yX4_clear : MethodName := ⟨RX4, "clear", "()V"⟩
abbrev cX4_cut : ByteArray := prog_6_method_3_code
def yX4_cut : MethodName := ⟨RX4, "cut", "(I)V"⟩
abbrev cX4_add : ByteArray := prog_6_method_4_code
def yX4_add : MethodName := ⟨RX4, "add", "(II)V"⟩
abbrev cX4_has : ByteArray := prog_6_method_5_code
def yX4_has : MethodName := ⟨RX4, "has", "(I)Z"⟩
abbrev cX4_lengthOf : ByteArray := prog_6_method_6_code
def yX4_lengthOf : MethodName := ⟨RX4, "lengthOf", "(I)I"⟩
abbrev cX4_signAt : ByteArray := prog_6_method_7_code
def yX4_signAt : MethodName := ⟨RX4, "signAt", "(II)I"⟩
abbrev cX4_indexOf : ByteArray := prog_6_method_8_code
def yX4_indexOf : MethodName := ⟨RX4, "indexOf", "(LGraphTexts$Row;II)I"⟩
abbrev cX4_isSame : ByteArray := prog_6_method_9_code
def yX4_isSame : MethodName := ⟨RX4, "isSame", "(ILGraphTexts$Row;II)Z"⟩
abbrev cX4_isPlainName : ByteArray := prog_6_method_10_code
def yX4_isPlainName : MethodName := ⟨RX4, "isPlainName", "(I)Z"⟩
def RX5 : String := "GraphTexts$Writer"
def TX5 : u_T := fun k => match k with
  | _ => ("GraphTexts$Writer", "written", "LGraphTexts$Row;", true)
def tyX5 : Nat → FieldType := fun k => match k with
  | _ => .object "GraphTexts$Row"
abbrev wsX50 : List Cond := u_ws RX5 TX5 1
theorem nmX5 : ∀ a, a < 1 → ∀ b, b < 1 → a ≠ b → (TX5 a).2.1 ≠ (TX5 b).2.1 := by decide +kernel
theorem tyX5_ok : ∀ k, k < 1 → parseFieldDescriptor (TX5 k).2.2.1 = some (tyX5 k) := by decide +kernel
abbrev cX5_init : ByteArray := prog_7_method_1_code
def yX5_init : MethodName := ⟨RX5, "<init>", "(LGraphTexts$Row;)V"⟩
abbrev cX5_writeGraph : ByteArray := prog_7_method_2_code
def yX5_writeGraph : MethodName := ⟨RX5, "writeGraph", "(LGraphTexts$Graph;)V"⟩
abbrev cX5_writeComment : ByteArray := prog_7_method_3_code
def yX5_writeComment : MethodName := ⟨RX5, "writeComment", "(LGraphTexts$Graph;I)V"⟩
abbrev cX5_writeCount : ByteArray := prog_7_method_4_code
def yX5_writeCount : MethodName := ⟨RX5, "writeCount", "(LGraphTexts$Graph;)V"⟩
abbrev cX5_writeHead : ByteArray := prog_7_method_5_code
def yX5_writeHead : MethodName := ⟨RX5, "writeHead", "(LGraphTexts$Graph;I)V"⟩
abbrev cX5_letterOfKind : ByteArray := prog_7_method_6_code
def yX5_letterOfKind : MethodName := ⟨RX5, "letterOfKind", "(I)I"⟩
abbrev cX5_writeArc : ByteArray := prog_7_method_7_code
def yX5_writeArc : MethodName := ⟨RX5, "writeArc", "(LGraphTexts$Graph;I)V"⟩
abbrev cX5_writeValue : ByteArray := prog_7_method_8_code
def yX5_writeValue : MethodName := ⟨RX5, "writeValue", "(LGraphTexts$Graph;II)V"⟩
abbrev cX5_writeName : ByteArray := prog_7_method_9_code
def yX5_writeName : MethodName := ⟨RX5, "writeName", "(LGraphTexts$Spans;I)V"⟩
abbrev cX5_writeThousandths : ByteArray := prog_7_method_10_code
def yX5_writeThousandths : MethodName := ⟨RX5, "writeThousandths", "(I)V"⟩
abbrev cX5_writeWhole : ByteArray := prog_7_method_11_code
def yX5_writeWhole : MethodName := ⟨RX5, "writeWhole", "(I)V"⟩
def RX6 : String := "GraphTexts"
def TX6 : u_T := fun k => match k with
  | 0 => ("GraphTexts", "text", "LGraphTexts$Row;", true)
  | 1 => ("GraphTexts", "written", "LGraphTexts$Row;", true)
  | 2 => ("GraphTexts", "reader", "LGraphTexts$Reader;", true)
  | 3 => ("GraphTexts", "writer", "LGraphTexts$Writer;", true)
  | 4 => ("GraphTexts", "graph", "LGraphTexts$Graph;", false)
  | 5 => ("GraphTexts", "spare", "LGraphTexts$Graph;", false)
  | 6 => ("GraphTexts", "graphIsThere", "Z", false)
  | _ => ("GraphTexts", "mannerNow", "I", false)
def tyX6 : Nat → FieldType := fun k => match k with
  | 0 => .object "GraphTexts$Row"
  | 1 => .object "GraphTexts$Row"
  | 2 => .object "GraphTexts$Reader"
  | 3 => .object "GraphTexts$Writer"
  | 4 => .object "GraphTexts$Graph"
  | 5 => .object "GraphTexts$Graph"
  | 6 => .boolean
  | _ => .int
abbrev wsX60 : List Cond := u_ws RX6 TX6 8
theorem nmX6 : ∀ a, a < 8 → ∀ b, b < 8 → a ≠ b → (TX6 a).2.1 ≠ (TX6 b).2.1 := by decide +kernel
theorem tyX6_ok : ∀ k, k < 8 → parseFieldDescriptor (TX6 k).2.2.1 = some (tyX6 k) := by decide +kernel
abbrev cX6_init : ByteArray := prog_1_method_1_code
def yX6_init : MethodName := ⟨RX6, "<init>", "()V"⟩
abbrev cX6_feed : ByteArray := prog_1_method_2_code
def yX6_feed : MethodName := ⟨RX6, "feed", "(IJ)I"⟩
abbrev cX6_read : ByteArray := prog_1_method_3_code
def yX6_read : MethodName := ⟨RX6, "read", "()I"⟩
abbrev cX6_fault : ByteArray := prog_1_method_4_code
def yX6_fault : MethodName := ⟨RX6, "fault", "(I)I"⟩
abbrev cX6_manner : ByteArray := prog_1_method_5_code
def yX6_manner : MethodName := ⟨RX6, "manner", "(I)I"⟩
abbrev cX6_find : ByteArray := prog_1_method_6_code
def yX6_find : MethodName := ⟨RX6, "find", "()I"⟩
abbrev cX6_node : ByteArray := prog_1_method_7_code
def yX6_node : MethodName := ⟨RX6, "node", "(II)I"⟩
abbrev cX6_arc : ByteArray := prog_1_method_8_code
def yX6_arc : MethodName := ⟨RX6, "arc", "(II)I"⟩
abbrev cX6_kind : ByteArray := prog_1_method_9_code
def yX6_kind : MethodName := ⟨RX6, "kind", "(I)I"⟩
abbrev cX6_head : ByteArray := prog_1_method_10_code
def yX6_head : MethodName := ⟨RX6, "head", "(II)I"⟩
abbrev cX6_value : ByteArray := prog_1_method_11_code
def yX6_value : MethodName := ⟨RX6, "value", "(II)I"⟩
abbrev cX6_sign : ByteArray := prog_1_method_12_code
def yX6_sign : MethodName := ⟨RX6, "sign", "(III)I"⟩
abbrev cX6_comment : ByteArray := prog_1_method_13_code
def yX6_comment : MethodName := ⟨RX6, "comment", "(II)I"⟩
abbrev cX6_print : ByteArray := prog_1_method_14_code
def yX6_print : MethodName := ⟨RX6, "print", "()I"⟩
abbrev cX6_out : ByteArray := prog_1_method_15_code
def yX6_out : MethodName := ⟨RX6, "out", "(I)I"⟩
abbrev cX6_about : ByteArray := prog_1_method_16_code
def yX6_about : MethodName := ⟨RX6, "about", "(I)I"⟩
abbrev cX6_signOfSpan : ByteArray := prog_1_method_17_code
def yX6_signOfSpan : MethodName := ⟨RX6, "signOfSpan", "(LGraphTexts$Spans;II)I"⟩
abbrev cX6_isFigure : ByteArray := prog_1_method_18_code
def yX6_isFigure : MethodName := ⟨RX6, "isFigure", "(I)Z"⟩
abbrev cX6_isPlain : ByteArray := prog_1_method_19_code
def yX6_isPlain : MethodName := ⟨RX6, "isPlain", "(I)Z"⟩
abbrev cX6_isPrintable : ByteArray := prog_1_method_20_code
def yX6_isPrintable : MethodName := ⟨RX6, "isPrintable", "(I)Z"⟩
def RX7 : String := "GraphTextsModel"
def TX7 : u_T := fun k => match k with
  | 0 => ("GraphTextsModel", "thrown", "I", false)
  | 1 => ("GraphTextsModel", "text", "[I", true)
  | 2 => ("GraphTextsModel", "size", "I", false)
  | 3 => ("GraphTextsModel", "manner", "I", false)
  | 4 => ("GraphTextsModel", "faultLine", "I", false)
  | 5 => ("GraphTextsModel", "faultPlace", "I", false)
  | 6 => ("GraphTextsModel", "isThere", "Z", false)
  | 7 => ("GraphTextsModel", "nodes", "[I", true)
  | 8 => ("GraphTextsModel", "nodeName", "[I", true)
  | 9 => ("GraphTextsModel", "arcs", "[I", true)
  | 10 => ("GraphTextsModel", "arcFrom", "[I", true)
  | 11 => ("GraphTextsModel", "arcTo", "[I", true)
  | 12 => ("GraphTextsModel", "arcLine", "[I", true)
  | 13 => ("GraphTextsModel", "columns", "[I", true)
  | 14 => ("GraphTextsModel", "columnKind", "[I", true)
  | 15 => ("GraphTextsModel", "columnName", "[I", true)
  | 16 => ("GraphTextsModel", "valueSort", "[I", true)
  | 17 => ("GraphTextsModel", "valueOf", "[I", true)
  | 18 => ("GraphTextsModel", "valueSigns", "[I", true)
  | 19 => ("GraphTextsModel", "leftOut", "[I", true)
  | 20 => ("GraphTextsModel", "comments", "[I", true)
  | 21 => ("GraphTextsModel", "commentText", "[I", true)
  | 22 => ("GraphTextsModel", "lineMany", "[I", true)
  | 23 => ("GraphTextsModel", "lineSort", "[I", true)
  | 24 => ("GraphTextsModel", "countOf", "[I", true)
  | 25 => ("GraphTextsModel", "out", "[I", true)
  | 26 => ("GraphTextsModel", "outMany", "I", false)
  | 27 => ("GraphTextsModel", "at", "I", false)
  | 28 => ("GraphTextsModel", "line", "I", false)
  | 29 => ("GraphTextsModel", "lineFrom", "I", false)
  | 30 => ("GraphTextsModel", "fault", "I", false)
  | 31 => ("GraphTextsModel", "faultAt", "I", false)
  | 32 => ("GraphTextsModel", "name", "[I", true)
  | 33 => ("GraphTextsModel", "sort", "I", false)
  | 34 => ("GraphTextsModel", "thousandths", "I", false)
  | 35 => ("GraphTextsModel", "hasCount", "Z", false)
  | 36 => ("GraphTextsModel", "countAt", "[I", true)
  | 37 => ("GraphTextsModel", "countLine", "[I", true)
  | 38 => ("GraphTextsModel", "hasArc", "Z", false)
  | 39 => ("GraphTextsModel", "ownSort", "[I", true)
  | 40 => ("GraphTextsModel", "ownValue", "[I", true)
  | _ => ("GraphTextsModel", "ownSigns", "[I", true)
def tyX7 : Nat → FieldType := fun k => match k with
  | 0 => .int
  | 1 => .array .int
  | 2 => .int
  | 3 => .int
  | 4 => .int
  | 5 => .int
  | 6 => .boolean
  | 7 => .array .int
  | 8 => .array .int
  | 9 => .array .int
  | 10 => .array .int
  | 11 => .array .int
  | 12 => .array .int
  | 13 => .array .int
  | 14 => .array .int
  | 15 => .array .int
  | 16 => .array .int
  | 17 => .array .int
  | 18 => .array .int
  | 19 => .array .int
  | 20 => .array .int
  | 21 => .array .int
  | 22 => .array .int
  | 23 => .array .int
  | 24 => .array .int
  | 25 => .array .int
  | 26 => .int
  | 27 => .int
  | 28 => .int
  | 29 => .int
  | 30 => .int
  | 31 => .int
  | 32 => .array .int
  | 33 => .int
  | 34 => .int
  | 35 => .boolean
  | 36 => .array .int
  | 37 => .array .int
  | 38 => .boolean
  | 39 => .array .int
  | 40 => .array .int
  | _ => .array .int
abbrev wsX70 : List Cond := u_ws RX7 TX7 42
theorem nmX7 : ∀ a, a < 42 → ∀ b, b < 42 → a ≠ b → (TX7 a).2.1 ≠ (TX7 b).2.1 := by decide +kernel
theorem tyX7_ok : ∀ k, k < 42 → parseFieldDescriptor (TX7 k).2.2.1 = some (tyX7 k) := by decide +kernel
abbrev cX7_init : ByteArray := prog_9_method_1_code
def yX7_init : MethodName := ⟨RX7, "<init>", "()V"⟩
abbrev cX7_thrown : ByteArray := prog_9_method_2_code
def yX7_thrown : MethodName := ⟨RX7, "thrown", "()I"⟩
abbrev cX7_in : ByteArray := prog_9_method_3_code
def yX7_in : MethodName := ⟨RX7, "in", "(III)Z"⟩
abbrev cX7_feed : ByteArray := prog_9_method_4_code
def yX7_feed : MethodName := ⟨RX7, "feed", "(IJ)I"⟩
abbrev cX7_here : ByteArray := prog_9_method_5_code
def yX7_here : MethodName := ⟨RX7, "here", "()I"⟩
abbrev cX7_wrong : ByteArray := prog_9_method_6_code
def yX7_wrong : MethodName := ⟨RX7, "wrong", "(II)V"⟩
abbrev cX7_isFigure : ByteArray := prog_9_method_7_code
def yX7_isFigure : MethodName := ⟨RX7, "isFigure", "(I)Z"⟩
abbrev cX7_isPlain : ByteArray := prog_9_method_8_code
def yX7_isPlain : MethodName := ⟨RX7, "isPlain", "(I)Z"⟩
abbrev cX7_blanks : ByteArray := prog_9_method_9_code
def yX7_blanks : MethodName := ⟨RX7, "blanks", "()V"⟩
abbrev cX7_ended : ByteArray := prog_9_method_10_code
def yX7_ended : MethodName := ⟨RX7, "ended", "()V"⟩
abbrev cX7_sign : ByteArray := prog_9_method_11_code
def yX7_sign : MethodName := ⟨RX7, "sign", "(II)V"⟩
abbrev cX7_readName : ByteArray := prog_9_method_12_code
def yX7_readName : MethodName := ⟨RX7, "readName", "()V"⟩
abbrev cX7_readQuoted : ByteArray := prog_9_method_13_code
def yX7_readQuoted : MethodName := ⟨RX7, "readQuoted", "()V"⟩
abbrev cX7_readNumber : ByteArray := prog_9_method_14_code
def yX7_readNumber : MethodName := ⟨RX7, "readNumber", "(Z)V"⟩
abbrev cX7_readDecimals : ByteArray := prog_9_method_15_code
def yX7_readDecimals : MethodName := ⟨RX7, "readDecimals", "()V"⟩
abbrev cX7_plainSort : ByteArray := prog_9_method_16_code
def yX7_plainSort : MethodName := ⟨RX7, "plainSort", "()I"⟩
abbrev cX7_readPlainDecimal : ByteArray := prog_9_method_17_code
def yX7_readPlainDecimal : MethodName := ⟨RX7, "readPlainDecimal", "()V"⟩
abbrev cX7_readValue : ByteArray := prog_9_method_18_code
def yX7_readValue : MethodName := ⟨RX7, "readValue", "(I)V"⟩
abbrev cX7_readAny : ByteArray := prog_9_method_19_code
def yX7_readAny : MethodName := ⟨RX7, "readAny", "(I)V"⟩
abbrev cX7_isSame : ByteArray := prog_9_method_20_code
def yX7_isSame : MethodName := ⟨RX7, "isSame", "([II)Z"⟩
abbrev cX7_layName : ByteArray := prog_9_method_21_code
def yX7_layName : MethodName := ⟨RX7, "layName", "([II)V"⟩
abbrev cX7_laySort : ByteArray := prog_9_method_22_code
def yX7_laySort : MethodName := ⟨RX7, "laySort", "(I)V"⟩
abbrev cX7_readComment : ByteArray := prog_9_method_23_code
def yX7_readComment : MethodName := ⟨RX7, "readComment", "()V"⟩
abbrev cX7_readCount : ByteArray := prog_9_method_24_code
def yX7_readCount : MethodName := ⟨RX7, "readCount", "()V"⟩
abbrev cX7_readHead : ByteArray := prog_9_method_25_code
def yX7_readHead : MethodName := ⟨RX7, "readHead", "()V"⟩
abbrev cX7_nodeOf : ByteArray := prog_9_method_26_code
def yX7_nodeOf : MethodName := ⟨RX7, "nodeOf", "(I)I"⟩
abbrev cX7_isDoubled : ByteArray := prog_9_method_27_code
def yX7_isDoubled : MethodName := ⟨RX7, "isDoubled", "(II)Z"⟩
abbrev cX7_readArc : ByteArray := prog_9_method_28_code
def yX7_readArc : MethodName := ⟨RX7, "readArc", "()V"⟩
abbrev cX7_layArc : ByteArray := prog_9_method_29_code
def yX7_layArc : MethodName := ⟨RX7, "layArc", "(II)V"⟩
abbrev cX7_readLine : ByteArray := prog_9_method_30_code
def yX7_readLine : MethodName := ⟨RX7, "readLine", "()V"⟩
abbrev cX7_guessKinds : ByteArray := prog_9_method_31_code
def yX7_guessKinds : MethodName := ⟨RX7, "guessKinds", "()V"⟩
abbrev cX7_takeOver : ByteArray := prog_9_method_32_code
def yX7_takeOver : MethodName := ⟨RX7, "takeOver", "()V"⟩
abbrev cX7_takeRow : ByteArray := prog_9_method_33_code
def yX7_takeRow : MethodName := ⟨RX7, "takeRow", "([II)V"⟩
abbrev cX7_read : ByteArray := prog_9_method_34_code
def yX7_read : MethodName := ⟨RX7, "read", "()I"⟩
abbrev cX7_lie : ByteArray := prog_9_method_35_code
def yX7_lie : MethodName := ⟨RX7, "lie", "(II)V"⟩
abbrev cX7_fault : ByteArray := prog_9_method_36_code
def yX7_fault : MethodName := ⟨RX7, "fault", "(I)I"⟩
abbrev cX7_manner : ByteArray := prog_9_method_37_code
def yX7_manner : MethodName := ⟨RX7, "manner", "(I)I"⟩
abbrev cX7_find : ByteArray := prog_9_method_38_code
def yX7_find : MethodName := ⟨RX7, "find", "()I"⟩
abbrev cX7_node : ByteArray := prog_9_method_39_code
def yX7_node : MethodName := ⟨RX7, "node", "(II)I"⟩
abbrev cX7_arc : ByteArray := prog_9_method_40_code
def yX7_arc : MethodName := ⟨RX7, "arc", "(II)I"⟩
abbrev cX7_isColumn : ByteArray := prog_9_method_41_code
def yX7_isColumn : MethodName := ⟨RX7, "isColumn", "(I)Z"⟩
abbrev cX7_kind : ByteArray := prog_9_method_42_code
def yX7_kind : MethodName := ⟨RX7, "kind", "(I)I"⟩
abbrev cX7_head : ByteArray := prog_9_method_43_code
def yX7_head : MethodName := ⟨RX7, "head", "(II)I"⟩
abbrev cX7_value : ByteArray := prog_9_method_44_code
def yX7_value : MethodName := ⟨RX7, "value", "(II)I"⟩
abbrev cX7_sign_ : ByteArray := prog_9_method_45_code
def yX7_sign_ : MethodName := ⟨RX7, "sign", "(III)I"⟩
abbrev cX7_comment : ByteArray := prog_9_method_46_code
def yX7_comment : MethodName := ⟨RX7, "comment", "(II)I"⟩
abbrev cX7_put : ByteArray := prog_9_method_47_code
def yX7_put : MethodName := ⟨RX7, "put", "(I)V"⟩
abbrev cX7_putName : ByteArray := prog_9_method_48_code
def yX7_putName : MethodName := ⟨RX7, "putName", "([II)V"⟩
abbrev cX7_putWhole : ByteArray := prog_9_method_49_code
def yX7_putWhole : MethodName := ⟨RX7, "putWhole", "(I)V"⟩
abbrev cX7_putNumber : ByteArray := prog_9_method_50_code
def yX7_putNumber : MethodName := ⟨RX7, "putNumber", "(I)V"⟩
abbrev cX7_putArc : ByteArray := prog_9_method_51_code
def yX7_putArc : MethodName := ⟨RX7, "putArc", "(I)V"⟩
abbrev cX7_print : ByteArray := prog_9_method_52_code
def yX7_print : MethodName := ⟨RX7, "print", "()I"⟩
abbrev cX7_out : ByteArray := prog_9_method_53_code
def yX7_out : MethodName := ⟨RX7, "out", "(I)I"⟩
abbrev cX7_about : ByteArray := prog_9_method_54_code
def yX7_about : MethodName := ⟨RX7, "about", "(I)I"⟩
def RJx00060 : String := "java/lang/ArrayIndexOutOfBoundsException"
def TJx00060 : u_T := fun k => match k with
  | 0 => ("java/lang/Throwable", "backtrace", "Ljava/lang/Object;", false)
  | 1 => ("java/lang/Throwable", "detailMessage", "Ljava/lang/String;", false)
  | 2 => ("java/lang/Throwable", "cause", "Ljava/lang/Throwable;", false)
  | 3 => ("java/lang/Throwable", "stackTrace", "[Ljava/lang/StackTraceElement;", false)
  | 4 => ("java/lang/Throwable", "depth", "I", false)
  | _ => ("java/lang/Throwable", "suppressedExceptions", "Ljava/util/List;", false)
def tyJx00060 : Nat → FieldType := fun k => match k with
  | 0 => .object "java/lang/Object"
  | 1 => .object "java/lang/String"
  | 2 => .object "java/lang/Throwable"
  | 3 => .array (.object "java/lang/StackTraceElement")
  | 4 => .int
  | _ => .object "java/util/List"
abbrev wsJx000600 : List Cond := u_ws RJx00060 TJx00060 6
theorem nmJx00060 : ∀ a, a < 6 → ∀ b, b < 6 → a ≠ b → (TJx00060 a).2.1 ≠ (TJx00060 b).2.1 := by decide +kernel
theorem tyJx00060_ok : ∀ k, k < 6 → parseFieldDescriptor (TJx00060 k).2.2.1 = some (tyJx00060 k) := by decide +kernel
abbrev cJx00060_init_a7421 : ByteArray := prog_10_method_2_code
def yJx00060_init_a7421 : MethodName := ⟨RJx00060, "<init>", "(Ljava/lang/String;)V"⟩
def RJx3273f : String := "java/lang/ClassCastException"
def TJx3273f : u_T := fun k => match k with
  | 0 => ("java/lang/Throwable", "backtrace", "Ljava/lang/Object;", false)
  | 1 => ("java/lang/Throwable", "detailMessage", "Ljava/lang/String;", false)
  | 2 => ("java/lang/Throwable", "cause", "Ljava/lang/Throwable;", false)
  | 3 => ("java/lang/Throwable", "stackTrace", "[Ljava/lang/StackTraceElement;", false)
  | 4 => ("java/lang/Throwable", "depth", "I", false)
  | _ => ("java/lang/Throwable", "suppressedExceptions", "Ljava/util/List;", false)
def tyJx3273f : Nat → FieldType := fun k => match k with
  | 0 => .object "java/lang/Object"
  | 1 => .object "java/lang/String"
  | 2 => .object "java/lang/Throwable"
  | 3 => .array (.object "java/lang/StackTraceElement")
  | 4 => .int
  | _ => .object "java/util/List"
abbrev wsJx3273f0 : List Cond := u_ws RJx3273f TJx3273f 6
theorem nmJx3273f : ∀ a, a < 6 → ∀ b, b < 6 → a ≠ b → (TJx3273f a).2.1 ≠ (TJx3273f b).2.1 := by decide +kernel
theorem tyJx3273f_ok : ∀ k, k < 6 → parseFieldDescriptor (TJx3273f k).2.2.1 = some (tyJx3273f k) := by decide +kernel
abbrev cJx3273f_init_a7421 : ByteArray := prog_11_method_2_code
def yJx3273f_init_a7421 : MethodName := ⟨RJx3273f, "<init>", "(Ljava/lang/String;)V"⟩
def RJ9 : String := "java/lang/Math"
def TJ9 : u_T := fun k => match k with
  | _ => ("", "", "", false)
def tyJ9 : Nat → FieldType := fun k => match k with
  | _ => .int
abbrev wsJ90 : List Cond := u_ws RJ9 TJ9 0
theorem nmJ9 : ∀ a, a < 0 → ∀ b, b < 0 → a ≠ b → (TJ9 a).2.1 ≠ (TJ9 b).2.1 := by decide +kernel
theorem tyJ9_ok : ∀ k, k < 0 → parseFieldDescriptor (TJ9 k).2.2.1 = some (tyJ9 k) := by decide +kernel
abbrev cJ9_max_7cf53 : ByteArray := prog_14_method_65_code
def yJ9_max_7cf53 : MethodName := ⟨RJ9, "max", "(II)I"⟩
abbrev cJ9_min_7cf53 : ByteArray := prog_14_method_69_code
def yJ9_min_7cf53 : MethodName := ⟨RJ9, "min", "(II)I"⟩
def RJx5d777 : String := "java/lang/NullPointerException"
def TJx5d777 : u_T := fun k => match k with
  | 0 => ("java/lang/Throwable", "backtrace", "Ljava/lang/Object;", false)
  | 1 => ("java/lang/Throwable", "detailMessage", "Ljava/lang/String;", false)
  | 2 => ("java/lang/Throwable", "cause", "Ljava/lang/Throwable;", false)
  | 3 => ("java/lang/Throwable", "stackTrace", "[Ljava/lang/StackTraceElement;", false)
  | 4 => ("java/lang/Throwable", "depth", "I", false)
  | 5 => ("java/lang/Throwable", "suppressedExceptions", "Ljava/util/List;", false)
  | 6 => ("java/lang/NullPointerException", "extendedMessageState", "I", false)
  | _ => ("java/lang/NullPointerException", "extendedMessage", "Ljava/lang/String;", false)
def tyJx5d777 : Nat → FieldType := fun k => match k with
  | 0 => .object "java/lang/Object"
  | 1 => .object "java/lang/String"
  | 2 => .object "java/lang/Throwable"
  | 3 => .array (.object "java/lang/StackTraceElement")
  | 4 => .int
  | 5 => .object "java/util/List"
  | 6 => .int
  | _ => .object "java/lang/String"
abbrev wsJx5d7770 : List Cond := u_ws RJx5d777 TJx5d777 8
theorem nmJx5d777 : ∀ a, a < 8 → ∀ b, b < 8 → a ≠ b → (TJx5d777 a).2.1 ≠ (TJx5d777 b).2.1 := by decide +kernel
theorem tyJx5d777_ok : ∀ k, k < 8 → parseFieldDescriptor (TJx5d777 k).2.2.1 = some (tyJx5d777 k) := by decide +kernel
abbrev cJx5d777_init_da8c8 : ByteArray := prog_15_method_1_code
def yJx5d777_init_da8c8 : MethodName := ⟨RJx5d777, "<init>", "()V"⟩
abbrev cJx5d777_init_a7421 : ByteArray := prog_15_method_2_code
def yJx5d777_init_a7421 : MethodName := ⟨RJx5d777, "<init>", "(Ljava/lang/String;)V"⟩
abbrev cJx5d777_fillInStackTrace_cddbd : ByteArray := prog_15_method_3_code
def yJx5d777_fillInStackTrace_cddbd : MethodName := ⟨RJx5d777, "fillInStackTrace", "()Ljava/lang/Throwable;"⟩
def RJ0 : String := "java/lang/String"
def TJ0 : u_T := fun k => match k with
  | 0 => ("java/lang/String", "value", "[B", true)
  | _ => ("java/lang/String", "coder", "B", true)
def tyJ0 : Nat → FieldType := fun k => match k with
  | 0 => .array .byte
  | _ => .byte
abbrev wsJ00 : List Cond := u_ws RJ0 TJ0 2
theorem nmJ0 : ∀ a, a < 2 → ∀ b, b < 2 → a ≠ b → (TJ0 a).2.1 ≠ (TJ0 b).2.1 := by decide +kernel
theorem tyJ0_ok : ∀ k, k < 2 → parseFieldDescriptor (TJ0 k).2.2.1 = some (tyJ0 k) := by decide +kernel
def RL : String := "GraphTextsLaw"
abbrev cL_node : ByteArray := method_3_code
def yL_node : MethodName := ⟨RL, "node", "(LGraphTexts;II[J)I"⟩
abbrev cL_head : ByteArray := method_4_code
def yL_head : MethodName := ⟨RL, "head", "(LGraphTexts;II[J)I"⟩
abbrev cL_value : ByteArray := method_5_code
def yL_value : MethodName := ⟨RL, "value", "(LGraphTexts;II[J)I"⟩
abbrev cL_sign : ByteArray := method_6_code
def yL_sign : MethodName := ⟨RL, "sign", "(LGraphTexts;III[J)I"⟩
abbrev cL_comment : ByteArray := method_7_code
def yL_comment : MethodName := ⟨RL, "comment", "(LGraphTexts;II[J)I"⟩
abbrev cL_out : ByteArray := method_8_code
def yL_out : MethodName := ⟨RL, "out", "(LGraphTexts;I[J)I"⟩
abbrev cL_law : ByteArray := code
def yL_law : MethodName := ⟨RL, "law", "([I)Z"⟩
end
section
def mi_cl : List vw_C := [(RX0, TX0, 8), (RX1, TX1, 15), (RX2, TX2, 16), (RX3, TX3, 2), (RX4, TX4, 4), (RX5, TX5, 1), (RX6, TX6, 8), (RX7, TX7, 42)]
def mi_str : List (String × Nat × String) := [("GraphTexts", 184, "no such sign"), ("GraphTexts", 144, "the VALUE is MISSING"), ("GraphTexts", 151, "the VALUE is a NAME"), ("GraphTexts", 157, "the VALUE is a number"), ("GraphTexts", 171, "no such byte was WRITTEN")]
end
section
/-! A SMALL MACHINE. Its heap is a list of cells at b, b + 1, ..; its values are the machine's, but that a reference is told from b on, and the script by a float. A method's code is a list of small steps; a step is a function. mi_Ok: a step is the machine's. -/
section MI0
abbrev mL : Type := List (Option Value)
abbrev mC : Type := (Nat × List Value) ⊕ (List Int32 ⊕ List Int64)
abbrev mH : Type := List mC
abbrev mR : Type := Option Value ⊕ String
abbrev mS : Type := Nat × mL × List Value × mH
abbrev mF : Type := Bool → Nat → (Nat → Int32) → mL → List Value → mH → Option mS
def mi_v (b bs : Nat) (v : Value) : Value := match v with
  | .ref a => .ref (b + a)
  | .float _ => .ref bs
  | .int x => .int x
  | .long x => .long x
  | .double x => .double x
  | .null => .null
  | .retAddr q => .retAddr q
theorem mi_v_cat (b bs : Nat) (v : Value) : (mi_v b bs v).category = v.category := by cases v <;> rfl
def mi_e (b bs : Nat) (cI cL : ClassId) (c : mC) : va_E := match c with
  | .inl o => .inr (o.1, o.2.map (mi_v b bs))
  | .inr (.inl xs) => .inl (cI, xs.length, .inl (fun j => xs.getD j 0))
  | .inr (.inr xs) => .inl (cL, xs.length, .inr (.inl (fun j => xs.getD j 0)))
def mi_w (b bs : Nat) (cI cL : ClassId) : Nat → mH → va_W
  | _, [] => []
  | k, c :: h => (b + k, mi_e b bs cI cL c) :: mi_w b bs cI cL (k + 1) h
theorem mi_w_get {b bs : Nat} {cI cL : ClassId} : ∀ (h : mH) (k i : Nat), (mi_w b bs cI cL k h)[i]? = (h[i]?).map (fun c => (b + (k + i), mi_e b bs cI cL c))
  | [], k, i => by simp [mi_w]
  | c :: h, k, 0 => by simp [mi_w]
  | c :: h, k, i + 1 => by
    simp only [mi_w, List.getElem?_cons_succ]
    rw [mi_w_get h (k + 1) i]
    have e : k + 1 + i = k + (i + 1) := by omega
    rw [e]
theorem mi_w_set {b bs : Nat} {cI cL : ClassId} : ∀ (h : mH) (k i : Nat) (c : mC), (mi_w b bs cI cL k h).set i (b + (k + i), mi_e b bs cI cL c) = mi_w b bs cI cL k (h.set i c)
  | [], k, i, c => by simp [mi_w]
  | c0 :: h, k, 0, c => by simp [mi_w]
  | c0 :: h, k, i + 1, c => by
    simp only [mi_w, List.set_cons_succ]
    have e : k + (i + 1) = k + 1 + i := by omega
    rw [e, mi_w_set h (k + 1) i c]
theorem mi_w_push {b bs : Nat} {cI cL : ClassId} : ∀ (h : mH) (k : Nat) (c : mC), mi_w b bs cI cL k (h ++ [c]) = mi_w b bs cI cL k h ++ [(b + (k + h.length), mi_e b bs cI cL c)]
  | [], k, c => by simp [mi_w]
  | c0 :: h, k, c => by
    simp only [mi_w, List.cons_append, List.length_cons]
    rw [mi_w_push h (k + 1) c]
    have e : k + 1 + h.length = k + (h.length + 1) := by omega
    rw [e]
theorem mi_w_len {b bs : Nat} {cI cL : ClassId} : ∀ (h : mH) (k : Nat), (mi_w b bs cI cL k h).length = h.length
  | [], k => rfl
  | c :: h, k => by simp [mi_w, mi_w_len h (k + 1)]
/-- the cells lie apart, from b on -/
theorem mi_w_D {b bs : Nat} {cI cL : ClassId} (h : mH) : va_D (fun q => b ≤ q) (mi_w b bs cI cL 0 h) := by
  refine ⟨fun i j p q hi hj hpq => ?_, fun k q hk => ?_⟩
  · rw [mi_w_get] at hi hj
    cases h1 : h[i]? with
    | none => rw [h1] at hi; cases hi
    | some c1 =>
      cases h2 : h[j]? with
      | none => rw [h2] at hj; cases hj
      | some c2 =>
        rw [h1] at hi; rw [h2] at hj
        cases hi; cases hj
        have e : b + (0 + i) = b + (0 + j) := hpq
        omega
  · rw [mi_w_get] at hk
    cases h1 : h[k]? with
    | none => rw [h1] at hk; cases hk
    | some c1 =>
      rw [h1] at hk
      cases hk
      exact Nat.le_add_right _ _
/-- how many places a cell has, and a heap -/
def mi_zc (c : mC) : Nat := match c with
  | .inl o => o.2.length
  | .inr (.inl xs) => xs.length
  | .inr (.inr xs) => xs.length
def mi_z : mH → Nat
  | [] => 0
  | c :: h => mi_zc c + mi_z h
theorem mi_z_set : ∀ (h : mH) (i : Nat) (c c0 : mC), h[i]? = some c0 → mi_zc c = mi_zc c0 → mi_z (h.set i c) = mi_z h
  | [], i, c, c0, h1, _ => by simp at h1
  | d :: h, 0, c, c0, h1, h2 => by
    simp only [List.getElem?_cons_zero, Option.some.injEq] at h1
    subst h1
    simp [mi_z, h2]
  | d :: h, i + 1, c, c0, h1, h2 => by
    simp only [List.getElem?_cons_succ] at h1
    simp [mi_z, mi_z_set h i c c0 h1 h2]
theorem mi_z_push : ∀ (h : mH) (c : mC), mi_z (h ++ [c]) = mi_z h + mi_zc c
  | [], c => by simp [mi_z]
  | d :: h, c => by simp [mi_z, mi_z_push h c]; omega
/-- the locals -/
def mi_has (b bs : Nat) (ls : Array Slot) (nL : Nat) (lo : mL) : Prop := ls.size = nL ∧ lv_wf ls ∧ ∀ (i : Nat) (v : Value), lo[i]? = some (some v) → ls[i]? = some (.val (mi_v b bs v))
def mi_lv (b bs : Nat) (lo : mL) : List (Nat × Value) := lo.zipIdx.filterMap (fun q => q.1.map (fun v => (q.2, mi_v b bs v)))
theorem mi_lv_mem {b bs : Nat} {lo : mL} {q : Nat × Value} : q ∈ mi_lv b bs lo ↔ ∃ v, lo[q.1]? = some (some v) ∧ q.2 = mi_v b bs v := by
  obtain ⟨i, w⟩ := q
  constructor
  · intro h
    obtain ⟨⟨o, j⟩, h1, h2⟩ := List.mem_filterMap.mp h
    rw [List.mem_zipIdx_iff_getElem?] at h1
    cases o with
    | none => cases h2
    | some v =>
      simp only [Option.map_some, Option.some.injEq, Prod.mk.injEq] at h2
      obtain ⟨rfl, rfl⟩ := h2
      exact ⟨v, h1, rfl⟩
  · rintro ⟨v, h1, h2⟩
    refine List.mem_filterMap.mpr ⟨(some v, i), ?_, ?_⟩
    · rw [List.mem_zipIdx_iff_getElem?]
      exact h1
    · simp only [Option.map_some]
      exact congrArg (fun z => some (i, z)) h2.symm
theorem mi_has_lv {b bs : Nat} {ls : Array Slot} {nL : Nat} {lo : mL} (h : mi_has b bs ls nL lo) : lv_has ls nL (mi_lv b bs lo) := by
  refine ⟨h.1, h.2.1, fun q hq => ?_⟩
  obtain ⟨v, h1, h2⟩ := mi_lv_mem.mp hq
  rw [h2]
  exact h.2.2 q.1 v h1
/-- a store of a value of one slot: not behind a long's first half -/
def mi_st (lo : mL) (i : Nat) (v : Value) : Option mL := match lo[i]? with
  | none => none
  | some (some _) => some (lo.set i (some v))
  | some none => match i with
    | 0 => some (lo.set 0 (some v))
    | j + 1 => match lo[j]? with
      | some (some (.long _)) => none
      | some (some (.double _)) => none
      | _ => some (lo.set (j + 1) (some v))
theorem mi_st_has {b bs : Nat} {ls ls' : Array Slot} {nL i : Nat} {lo lo' : mL} {v : Value} (h : mi_has b bs ls nL lo) (hs : mi_st lo i v = some lo')
    (h' : lv_has ls' nL ((i, mi_v b bs v) :: (mi_lv b bs lo).filter (fun q => !(q.1 == i) && !(q.1 + 1 == i && q.2.category == 2)))) : mi_has b bs ls' nL lo' := by
  have key : lo' = lo.set i (some v) ∧ i < lo.length ∧ ∀ (j : Nat) (w : Value), j + 1 = i → lo[j]? = some (some w) → ¬ w.category = 2 := by
    unfold mi_st at hs
    cases h1 : lo[i]? with
    | none => rw [h1] at hs; cases hs
    | some o =>
      have hi := (List.getElem?_eq_some_iff.mp h1).1
      rw [h1] at hs
      cases o with
      | some w0 =>
        simp only [Option.some.injEq] at hs
        refine ⟨hs.symm, hi, fun j w hj hw hc => ?_⟩
        subst hj
        have a1 := h.2.1.1 j _ (h.2.2 j w hw) (by rw [mi_v_cat]; exact hc)
        have a2 := h.2.2 (j + 1) w0 h1
        rw [a1] at a2
        cases a2
      | none =>
        cases i with
        | zero =>
          simp only [Option.some.injEq] at hs
          exact ⟨hs.symm, hi, fun j w hj _ _ => by omega⟩
        | succ j0 =>
          simp only at hs
          refine ⟨?_, hi, fun j w hj hw hc => ?_⟩
          · revert hs
            split
            · intro q; cases q
            · intro q; cases q
            · intro q; exact (Option.some.inj q).symm
          · have : j = j0 := by omega
            subst this
            rw [hw] at hs
            cases w <;> simp [Value.category] at hc <;> simp at hs
  obtain ⟨rfl, hi, hc⟩ := key
  refine ⟨h'.1, h'.2.1, fun j w hj => ?_⟩
  by_cases hji : j = i
  · subst hji
    rw [List.getElem?_set_self hi] at hj
    cases hj
    exact h'.2.2 (j, mi_v b bs v) List.mem_cons_self
  · rw [List.getElem?_set_ne (Ne.symm hji)] at hj
    refine h'.2.2 (j, mi_v b bs w) (List.mem_cons_of_mem _ (List.mem_filter.mpr ⟨mi_lv_mem.mpr ⟨w, hj, rfl⟩, ?_⟩))
    simp only [Bool.and_eq_true, Bool.not_eq_true', beq_eq_false_iff_ne, ne_eq, Bool.and_eq_false_iff]
    refine ⟨hji, ?_⟩
    by_cases hj1 : j + 1 = i
    · right
      rw [mi_v_cat]
      exact hc j w hj1 hj
    · left
      exact hj1
end MI0
end
section
/-! THE STATIC SIDE: the classes' tables, the words, what is known of a state all the time. -/
section MI1
def mi_good : List Cond := lw_tbl.filter goodWord
def mi_isNest (w : Cond) : Bool := match w with
  | .fieldLinkNest _ _ _ _ _ _ => true
  | .methodLinkNest _ _ _ _ => true
  | _ => false
def mi_nw : List Cond := lw_tbl.filter mi_isNest
theorem mi_good_ok {w : Cond} (h : w ∈ mi_good) : goodWord w = true := (List.mem_filter.mp h).2
theorem mi_good_tbl {w : Cond} (h : w ∈ mi_good) : w ∈ lw_tbl := (List.mem_filter.mp h).1
/-- a class of the list: its words, its fields' types, their names apart -/
def mi_CF (ci : Nat) (C : String) (T : u_T) (N : Nat) (ty : Nat → FieldType) : Prop :=
  mi_cl[ci]? = some (C, T, N) ∧ (∀ w ∈ u_ws C T N, w ∈ mi_good) ∧ (∀ k, k < N → parseFieldDescriptor (T k).2.2.1 = some (ty k)) ∧ (∀ a, a < N → ∀ b, b < N → a ≠ b → (T a).2.1 ≠ (T b).2.1)
/-- entry 'index' of the class own names field k of class ci, of type fty, final or not -/
def mi_FL (own : String) (index ci k : Nat) (fty : FieldType) (fin : Bool) : Prop :=
  ∃ (C : String) (T : u_T) (N : Nat) (ty : Nat → FieldType), mi_CF ci C T N ty ∧ k < N ∧ ty k = fty ∧ (T k).2.2.2 = fin ∧ (T k).1 = C ∧
    (Cond.fieldLink own index (T k).1 (T k).2.1 (T k).2.2.1 ∈ mi_good ∨ ∃ host, Cond.fieldLinkNest own index (T k).1 (T k).2.1 (T k).2.2.1 host ∈ mi_nw)
/-- what is known of a state all the time -/
def mi_K (b bs : Nat) (cI cL : ClassId) (D : va_G) (LS : Nat) (xs : Nat → Int32) (U : State) : Prop :=
  va_K D mi_cl [(cI, .int), (cL, .long)] U ∧ (∀ w ∈ mi_nw, va_Nw w U) ∧ va_X bs LS xs U U.heap ∧ bs < b ∧ bs < U.heap.size ∧
  (vx_Zq Bundle.tN "UNASSIGNED_STACK" Bundle.steD (fun q => b ≤ q) U U.heap ∧ vx_Zq Bundle.tN "SUPPRESSED_SENTINEL" Bundle.listD (fun q => b ≤ q) U U.heap ∧ ∀ q ∈ mi_str, ∃ a, vk_R q.1 q.2.1 q.2.2 a U)
theorem mi_nw_warm {w : Cond} (hw : w ∈ mi_nw) {s U : State} (hW : s.WarmedH U.vm) (h : va_Nw w s) : va_Nw w U := by
  have hn : mi_isNest w = true := (List.mem_filter.mp hw).2
  cases w <;> first | (cases hn; done) | exact va_Nw.warmF hW h | exact va_Nw.warmM hW h
theorem mi_K.warm {b bs : Nat} {cI cL : ClassId} {D : va_G} {LS : Nat} {xs : Nat → Int32} {s U : State} {H : Heap} {locs : List Loc} (h : mi_K b bs cI cL D LS xs s) (hS : va_S (fun q => b ≤ q) s.heap H locs) (hU : U.heap = H) (hW : s.WarmedH U.vm) : mi_K b bs cI cL D LS xs U := by
  obtain ⟨h1, h2, h3, h4, h5, h6, h7, h8⟩ := h
  have hkp : ∀ a : Nat, a < s.heap.size → ¬ (fun q => b ≤ q) a → U.heap[a]? = s.heap[a]? := fun a ha hn => by rw [hU]; exact hS.2.1 a ha hn
  refine ⟨va_K.moved hW.alike h1, fun w hw => mi_nw_warm hw hW (h2 w hw), va_X.moved hW.alike (h3.kept (hkp bs h5 (Nat.not_le.mpr h4))), h4, ?_, ?_, ?_, fun q hq => ?_⟩
  · rw [hU]; exact Nat.lt_of_lt_of_le h5 hS.1
  · exact vx_Zq.moved hW.alike (h6.kept hkp)
  · exact vx_Zq.moved hW.alike (h7.kept hkp)
  · obtain ⟨a, ha⟩ := h8 q hq
    exact ⟨a, ha.warm hW⟩
theorem mi_K.calling {b bs : Nat} {cI cL : ClassId} {D : va_G} {LS : Nat} {xs : Nat → Int32} {U : State} (h : mi_K b bs cI cL D LS xs U) (g : JFrame) (mk : MethodId) (a : Array Value) : mi_K b bs cI cL D LS xs (U.calling g mk a) :=
  mi_K.warm (U := U.calling g mk a) (H := U.heap) (locs := []) h va_S.rf rfl (State.WarmedH.refl U)
/-- the heap holds the cells -/
def mi_R (b bs : Nat) (cI cL : ClassId) (D : va_G) (h : mH) (H : Heap) : Prop := va_P D mi_cl (mi_w b bs cI cL 0 h) H
theorem mi_R.size {b bs : Nat} {cI cL : ClassId} {D : va_G} {h : mH} {H : Heap} (hR : mi_R b bs cI cL D h H) (hb : b ≤ H.size) : b + h.length ≤ H.size := by
  cases hl : h.length with
  | zero => exact hb
  | succ n =>
    have h1 : n < h.length := by omega
    have h2 : (mi_w b bs cI cL 0 h)[n]? = some (b + (0 + n), mi_e b bs cI cL h[n]) := by rw [mi_w_get, List.getElem?_eq_getElem h1]; rfl
    have h3 : b + (0 + n) < H.size := (hR n _ h2).lt
    omega
/-- where a method stands: fixed -/
def mi_X (b bs : Nat) (cI cL : ClassId) (D : va_G) (LS : Nat) (xs : Nat → Int32) (own : String) (cc : ByteArray) (nL : Nat) (ini : Bool) (p : Program) (l : Launch) (R : Room) (s : State) (m : MethodId) (args : Array Value) (meth : Method) (c : Code) : Prop :=
  p.tables.exec = Jvm.exec ∧ c.code = cc ∧ c.maxLocals = nL ∧ s.vm.findClass own = some m.cls ∧ (∀ w ∈ mi_good, w.before args s = true) ∧ mi_K b bs cI cL D LS xs s ∧ b ≤ s.heap.size ∧ (ini = true → meth.name = "<init>") ∧ meth.locks = false ∧ 1 ≤ R.frames ∧ 40 ≤ R.locals ∧ l.stackTraces = false
/-- the machine comes to Q from the small state -/
def mi_W (b bs : Nat) (cI cL : ClassId) (D : va_G) (nL : Nat) (p : Program) (l : Launch) (e : Env) (R : Room) (s : State) (m : MethodId) (args : Array Value) (below : List Frame) (meth : Method) (c : Code) (Q : State → Prop) (n0 z0 : Nat) (x : mS) : Prop :=
  ∀ (H : Heap) (locs : List Loc) (ls : Array Slot), mi_R b bs cI cL D x.2.2.2 H → mi_has b bs ls nL x.2.1 → va_S (fun q => b ≤ q) s.heap H locs →
    W p l e R s m args below meth c H locs (x.2.2.2.length - n0) (mi_z x.2.2.2 - z0) Q (F0 m x.1 ls (x.2.2.1.map (mi_v b bs)))
/-- a step of the small machine is one of the machine -/
def mi_Ok (own : String) (cc : ByteArray) (nL : Nat) (ini : Bool) (pc : Nat) (f : mF) : Prop :=
  ∀ (al : Bool) (LS : Nat) (xs : Nat → Int32) (lo : mL) (st : List Value) (h : mH) (x : mS), f al LS xs lo st h = some x →
    (h.length ≤ x.2.2.2.length ∧ mi_z h ≤ mi_z x.2.2.2) ∧
    ∀ (b bs : Nat) (cI cL : ClassId) (D : va_G) (p : Program) (l : Launch) (e : Env) (R : Room) (s : State) (m : MethodId) (args : Array Value) (below : List Frame) (meth : Method) (c : Code) (Q : State → Prop) (n0 z0 : Nat),
      mi_X b bs cI cL D LS xs own cc nL ini p l R s m args meth c → (al = true → s.heap.size = b + n0) → n0 ≤ h.length → z0 ≤ mi_z h → x.2.2.2.length - n0 ≤ R.cells → mi_z x.2.2.2 - z0 ≤ R.slots →
      mi_W b bs cI cL D nL p l e R s m args below meth c Q n0 z0 x → mi_W b bs cI cL D nL p l e R s m args below meth c Q n0 z0 (pc, lo, st, h)
end MI1
end
section
/-! THE STEPS, and that each is the machine's. -/
section MI2
variable {own : String} {cc : ByteArray} {nL : Nat} {ini : Bool} {pc nx tgt : Nat}
def mi_push (v : Value) (nx : Nat) : mF := fun _ _ _ lo st h => some (nx, lo, v :: st, h)
theorem mi_iconst_ok {n : Int} {v : Int32} (hv : Int32.ofInt n = v) (d : decode cc pc = .ok (.iconst n, 1)) (hn : pc + 1 = nx) : mi_Ok own cc nL ini pc (mi_push (.int v) nx) := by
  intro al LS xs lo st h x hf
  cases hf
  subst hn
  refine ⟨⟨Nat.le_refl _, Nat.le_refl _⟩, fun b bs cI cL D p l e R s m args below meth c Q n0 z0 X hal _ _ _ _ hW H locs ls hR hh hS => ?_⟩
  exact lv_iconst X.1 X.2.1 d hv (hW H locs ls hR hh hS)
theorem mi_bipush_ok {n : Int} {v : Int32} (hv : (Int8.ofInt n).toInt32 = v) (d : decode cc pc = .ok (.bipush n, 2)) (hn : pc + 2 = nx) : mi_Ok own cc nL ini pc (mi_push (.int v) nx) := by
  intro al LS xs lo st h x hf
  cases hf
  subst hn
  refine ⟨⟨Nat.le_refl _, Nat.le_refl _⟩, fun b bs cI cL D p l e R s m args below meth c Q n0 z0 X hal _ _ _ _ hW H locs ls hR hh hS => ?_⟩
  exact lv_bipush X.1 X.2.1 d hv (hW H locs ls hR hh hS)
theorem mi_sipush_ok {n : Int} {v : Int32} (hv : (Int16.ofInt n).toInt32 = v) (d : decode cc pc = .ok (.sipush n, 3)) (hn : pc + 3 = nx) : mi_Ok own cc nL ini pc (mi_push (.int v) nx) := by
  intro al LS xs lo st h x hf
  cases hf
  subst hn
  refine ⟨⟨Nat.le_refl _, Nat.le_refl _⟩, fun b bs cI cL D p l e R s m args below meth c Q n0 z0 X hal _ _ _ _ hW H locs ls hR hh hS => ?_⟩
  exact lv_sipush X.1 X.2.1 d hv (hW H locs ls hR hh hS)
theorem mi_ldc_ok {index : Nat} {v : Int32} (d : decode cc pc = .ok (.ldc index, 2)) (hc : Cond.constant own index v ∈ mi_good) (hn : pc + 2 = nx) : mi_Ok own cc nL ini pc (mi_push (.int v) nx) := by
  intro al LS xs lo st h x hf
  cases hf
  subst hn
  refine ⟨⟨Nat.le_refl _, Nat.le_refl _⟩, fun b bs cI cL D p l e R s m args below meth c Q n0 z0 X hal _ _ _ _ hW H locs ls hR hh hS => ?_⟩
  exact lv_ldc X.1 X.2.1 X.2.2.2.1 (X.2.2.2.2.1 _ hc) d (hW H locs ls hR hh hS)
theorem mi_ldc2_ok {index : Nat} {v : Int64} (d : decode cc pc = .ok (.ldc2_w index, 3)) (hc : Cond.constantLong own index v ∈ mi_good) (hn : pc + 3 = nx) : mi_Ok own cc nL ini pc (mi_push (.long v) nx) := by
  intro al LS xs lo st h x hf
  cases hf
  subst hn
  refine ⟨⟨Nat.le_refl _, Nat.le_refl _⟩, fun b bs cI cL D p l e R s m args below meth c Q n0 z0 X hal _ _ _ _ hW H locs ls hR hh hS => ?_⟩
  exact lv_ldc2 X.1 X.2.1 X.2.2.2.1 (X.2.2.2.2.1 _ hc) d (hW H locs ls hR hh hS)
def mi_ild (i nx : Nat) : mF := fun _ _ _ lo st h => match lo[i]? with
  | some (some (.int x)) => some (nx, lo, .int x :: st, h)
  | _ => none
def mi_lld (i nx : Nat) : mF := fun _ _ _ lo st h => match lo[i]? with
  | some (some (.long x)) => some (nx, lo, .long x :: st, h)
  | _ => none
def mi_ald (i nx : Nat) : mF := fun _ _ _ lo st h => match lo[i]? with
  | some (some (.ref x)) => some (nx, lo, .ref x :: st, h)
  | some (some (.float x)) => some (nx, lo, .float x :: st, h)
  | _ => none
theorem mi_iload_n_ok {k : Fin 4} {i : Nat} (d : decode cc pc = .ok (.iload_n k, 1)) (hk : (k : Nat) = i) (hn : pc + 1 = nx) : mi_Ok own cc nL ini pc (mi_ild i nx) := by
  intro al LS xs lo st h x hf
  subst hn
  unfold mi_ild at hf
  split at hf
  · next x0 h0 =>
    cases hf
    refine ⟨⟨Nat.le_refl _, Nat.le_refl _⟩, fun b bs cI cL D p l e R s m args below meth c Q n0 z0 X hal _ _ _ _ hW H locs ls hR hh hS => ?_⟩
    exact lv_iload_n X.1 X.2.1 d hk (hh.2.2 i _ h0) (hW H locs ls hR hh hS)
  · cases hf
theorem mi_iload_ok {i : Nat} (d : decode cc pc = .ok (.iload i, 2)) (hn : pc + 2 = nx) : mi_Ok own cc nL ini pc (mi_ild i nx) := by
  intro al LS xs lo st h x hf
  subst hn
  unfold mi_ild at hf
  split at hf
  · next x0 h0 =>
    cases hf
    refine ⟨⟨Nat.le_refl _, Nat.le_refl _⟩, fun b bs cI cL D p l e R s m args below meth c Q n0 z0 X hal _ _ _ _ hW H locs ls hR hh hS => ?_⟩
    exact lv_iload X.1 X.2.1 d (hh.2.2 i _ h0) (hW H locs ls hR hh hS)
  · cases hf
theorem mi_lload_n_ok {k : Fin 4} {i : Nat} (d : decode cc pc = .ok (.lload_n k, 1)) (hk : (k : Nat) = i) (hn : pc + 1 = nx) : mi_Ok own cc nL ini pc (mi_lld i nx) := by
  intro al LS xs lo st h x hf
  subst hn
  unfold mi_lld at hf
  split at hf
  · next x0 h0 =>
    cases hf
    refine ⟨⟨Nat.le_refl _, Nat.le_refl _⟩, fun b bs cI cL D p l e R s m args below meth c Q n0 z0 X hal _ _ _ _ hW H locs ls hR hh hS => ?_⟩
    exact lv_lload_n X.1 X.2.1 d hk (hh.2.2 i _ h0) (hW H locs ls hR hh hS)
  · cases hf
theorem mi_aload_n_ok {k : Fin 4} {i : Nat} (d : decode cc pc = .ok (.aload_n k, 1)) (hk : (k : Nat) = i) (hn : pc + 1 = nx) : mi_Ok own cc nL ini pc (mi_ald i nx) := by
  intro al LS xs lo st h x hf
  subst hn
  unfold mi_ald at hf
  split at hf
  · next x0 h0 =>
    cases hf
    refine ⟨⟨Nat.le_refl _, Nat.le_refl _⟩, fun b bs cI cL D p l e R s m args below meth c Q n0 z0 X hal _ _ _ _ hW H locs ls hR hh hS => ?_⟩
    exact lv_aload_n X.1 X.2.1 d hk (hh.2.2 i _ h0) (hW H locs ls hR hh hS)
  · next x0 h0 =>
    cases hf
    refine ⟨⟨Nat.le_refl _, Nat.le_refl _⟩, fun b bs cI cL D p l e R s m args below meth c Q n0 z0 X hal _ _ _ _ hW H locs ls hR hh hS => ?_⟩
    exact lv_aload_n X.1 X.2.1 d hk (hh.2.2 i _ h0) (hW H locs ls hR hh hS)
  · cases hf
theorem mi_aload_ok {i : Nat} (d : decode cc pc = .ok (.aload i, 2)) (hn : pc + 2 = nx) : mi_Ok own cc nL ini pc (mi_ald i nx) := by
  intro al LS xs lo st h x hf
  subst hn
  unfold mi_ald at hf
  split at hf
  · next x0 h0 =>
    cases hf
    refine ⟨⟨Nat.le_refl _, Nat.le_refl _⟩, fun b bs cI cL D p l e R s m args below meth c Q n0 z0 X hal _ _ _ _ hW H locs ls hR hh hS => ?_⟩
    exact lv_aload X.1 X.2.1 d (hh.2.2 i _ h0) (hW H locs ls hR hh hS)
  · next x0 h0 =>
    cases hf
    refine ⟨⟨Nat.le_refl _, Nat.le_refl _⟩, fun b bs cI cL D p l e R s m args below meth c Q n0 z0 X hal _ _ _ _ hW H locs ls hR hh hS => ?_⟩
    exact lv_aload X.1 X.2.1 d (hh.2.2 i _ h0) (hW H locs ls hR hh hS)
  · cases hf
def mi_ist (i nx : Nat) : mF := fun _ _ _ lo st h => match st with
  | .int x :: r => (match mi_st lo i (.int x) with
    | some lo' => some (nx, lo', r, h)
    | none => none)
  | _ => none
def mi_ast (i nx : Nat) : mF := fun _ _ _ lo st h => match st with
  | .ref x :: r => (match mi_st lo i (.ref x) with
    | some lo' => some (nx, lo', r, h)
    | none => none)
  | _ => none
def mi_inc (i : Nat) (n : Int) (nx : Nat) : mF := fun _ _ _ lo st h => match lo[i]? with
  | some (some (.int x)) => some (nx, lo.set i (some (.int (x + Int32.ofInt n))), st, h)
  | _ => none
theorem mi_istore_n_ok {k : Fin 4} {i : Nat} (d : decode cc pc = .ok (.istore_n k, 1)) (hk : (k : Nat) = i) (hi : i < nL) (hn : pc + 1 = nx) : mi_Ok own cc nL ini pc (mi_ist i nx) := by
  intro al LS xs lo st h x hf
  subst hn
  unfold mi_ist at hf
  split at hf
  · next x0 r =>
    split at hf
    · next lo1 h1 =>
      cases hf
      refine ⟨⟨Nat.le_refl _, Nat.le_refl _⟩, fun b bs cI cL D p l e R s m args below meth c Q n0 z0 X hal _ _ _ _ hW H locs ls hR hh hS => ?_⟩
      exact lv_istore_n X.1 X.2.1 d hk (mi_has_lv hh) hi rfl (fun ls1 hl1 => hW H locs ls1 hR (mi_st_has hh h1 hl1) hS)
    · cases hf
  · cases hf
theorem mi_istore_ok {i : Nat} (d : decode cc pc = .ok (.istore i, 2)) (hi : i < nL) (hn : pc + 2 = nx) : mi_Ok own cc nL ini pc (mi_ist i nx) := by
  intro al LS xs lo st h x hf
  subst hn
  unfold mi_ist at hf
  split at hf
  · next x0 r =>
    split at hf
    · next lo1 h1 =>
      cases hf
      refine ⟨⟨Nat.le_refl _, Nat.le_refl _⟩, fun b bs cI cL D p l e R s m args below meth c Q n0 z0 X hal _ _ _ _ hW H locs ls hR hh hS => ?_⟩
      exact lv_istore X.1 X.2.1 d (mi_has_lv hh) hi rfl (fun ls1 hl1 => hW H locs ls1 hR (mi_st_has hh h1 hl1) hS)
    · cases hf
  · cases hf
theorem mi_astore_n_ok {k : Fin 4} {i : Nat} (d : decode cc pc = .ok (.astore_n k, 1)) (hk : (k : Nat) = i) (hi : i < nL) (hn : pc + 1 = nx) : mi_Ok own cc nL ini pc (mi_ast i nx) := by
  intro al LS xs lo st h x hf
  subst hn
  unfold mi_ast at hf
  split at hf
  · next x0 r =>
    split at hf
    · next lo1 h1 =>
      cases hf
      refine ⟨⟨Nat.le_refl _, Nat.le_refl _⟩, fun b bs cI cL D p l e R s m args below meth c Q n0 z0 X hal _ _ _ _ hW H locs ls hR hh hS => ?_⟩
      exact lv_astore_n X.1 X.2.1 d hk (mi_has_lv hh) hi rfl (fun ls1 hl1 => hW H locs ls1 hR (mi_st_has hh h1 hl1) hS)
    · cases hf
  · cases hf
theorem mi_astore_ok {i : Nat} (d : decode cc pc = .ok (.astore i, 2)) (hi : i < nL) (hn : pc + 2 = nx) : mi_Ok own cc nL ini pc (mi_ast i nx) := by
  intro al LS xs lo st h x hf
  subst hn
  unfold mi_ast at hf
  split at hf
  · next x0 r =>
    split at hf
    · next lo1 h1 =>
      cases hf
      refine ⟨⟨Nat.le_refl _, Nat.le_refl _⟩, fun b bs cI cL D p l e R s m args below meth c Q n0 z0 X hal _ _ _ _ hW H locs ls hR hh hS => ?_⟩
      exact lv_astore X.1 X.2.1 d (mi_has_lv hh) hi rfl (fun ls1 hl1 => hW H locs ls1 hR (mi_st_has hh h1 hl1) hS)
    · cases hf
  · cases hf
theorem mi_inc_ok {i : Nat} {n : Int} (d : decode cc pc = .ok (.iinc i n, 3)) (hi : i < nL) (hn : pc + 3 = nx) : mi_Ok own cc nL ini pc (mi_inc i n nx) := by
  intro al LS xs lo st h x hf
  subst hn
  unfold mi_inc at hf
  split at hf
  · next x0 h0 =>
    cases hf
    refine ⟨⟨Nat.le_refl _, Nat.le_refl _⟩, fun b bs cI cL D p l e R s m args below meth c Q n0 z0 X hal _ _ _ _ hW H locs ls hR hh hS => ?_⟩
    obtain ⟨k, hk⟩ := List.getElem?_of_mem (mi_lv_mem.mpr ⟨_, h0, rfl⟩ : (i, mi_v b bs (.int x0)) ∈ mi_lv b bs lo)
    refine lv_iinc X.1 X.2.1 d (mi_has_lv hh) (k := k) hk rfl hi rfl (fun ls1 hl1 => hW H locs ls1 hR (mi_st_has (i := i) (v := .int (x0 + Int32.ofInt n)) hh ?_ hl1) hS)
    unfold mi_st
    rw [h0]
  · cases hf
def mi_i2 (op : Int32 → Int32 → Int32) (nx : Nat) : mF := fun _ _ _ lo st h => match st with
  | .int y :: .int x :: r => some (nx, lo, .int (op x y) :: r, h)
  | _ => none
def mi_d2 (op : Int32 → Int32 → Int32) (nx : Nat) : mF := fun _ _ _ lo st h => match st with
  | .int y :: .int x :: r => if y = 0 then none else some (nx, lo, .int (op x y) :: r, h)
  | _ => none
def mi_l2 (op : Int64 → Int64 → Int64) (nx : Nat) : mF := fun _ _ _ lo st h => match st with
  | .long y :: .long x :: r => some (nx, lo, .long (op x y) :: r, h)
  | _ => none
def mi_ls (op : Int64 → Int32 → Int64) (nx : Nat) : mF := fun _ _ _ lo st h => match st with
  | .int y :: .long x :: r => some (nx, lo, .long (op x y) :: r, h)
  | _ => none
def mi_lc (nx : Nat) : mF := fun _ _ _ lo st h => match st with
  | .long y :: .long x :: r => some (nx, lo, .int (lg_cmp x y) :: r, h)
  | _ => none
def mi_i1 (op : Int32 → Int32) (nx : Nat) : mF := fun _ _ _ lo st h => match st with
  | .int x :: r => some (nx, lo, .int (op x) :: r, h)
  | _ => none
def mi_il (nx : Nat) : mF := fun _ _ _ lo st h => match st with
  | .int x :: r => some (nx, lo, .long x.toInt64 :: r, h)
  | _ => none
def mi_li (nx : Nat) : mF := fun _ _ _ lo st h => match st with
  | .long x :: r => some (nx, lo, .int x.toInt32 :: r, h)
  | _ => none
abbrev mi_ushr (x : Int64) (y : Int32) : Int64 := (x.toUInt64 >>> (y.toInt64.toUInt64 &&& Int64.toUInt64 63)).toInt64
abbrev mi_sshr (x : Int64) (y : Int32) : Int64 := x >>> (y.toInt64 &&& 63)
abbrev mi_sshl (x : Int64) (y : Int32) : Int64 := x <<< (y.toInt64 &&& 63)
abbrev mi_irem (x y : Int32) : Int32 := x - x / y * y
theorem mi_iadd_ok (d : decode cc pc = .ok (.iadd, 1)) (hn : pc + 1 = nx) : mi_Ok own cc nL ini pc (mi_i2 (fun x y => x + y) nx) := by
  intro al LS xs lo st h x hf
  subst hn
  unfold mi_i2 at hf
  split at hf
  · next y0 x0 r =>
    cases hf
    refine ⟨⟨Nat.le_refl _, Nat.le_refl _⟩, fun b bs cI cL D p l e R s m args below meth c Q n0 z0 X hal _ _ _ _ hW H locs ls hR hh hS => ?_⟩
    exact lv_iadd X.1 X.2.1 d (hW H locs ls hR hh hS)
  · cases hf
theorem mi_isub_ok (d : decode cc pc = .ok (.isub, 1)) (hn : pc + 1 = nx) : mi_Ok own cc nL ini pc (mi_i2 (fun x y => x - y) nx) := by
  intro al LS xs lo st h x hf
  subst hn
  unfold mi_i2 at hf
  split at hf
  · next y0 x0 r =>
    cases hf
    refine ⟨⟨Nat.le_refl _, Nat.le_refl _⟩, fun b bs cI cL D p l e R s m args below meth c Q n0 z0 X hal _ _ _ _ hW H locs ls hR hh hS => ?_⟩
    exact lv_isub X.1 X.2.1 d (hW H locs ls hR hh hS)
  · cases hf
theorem mi_imul_ok (d : decode cc pc = .ok (.imul, 1)) (hn : pc + 1 = nx) : mi_Ok own cc nL ini pc (mi_i2 (fun x y => x * y) nx) := by
  intro al LS xs lo st h x hf
  subst hn
  unfold mi_i2 at hf
  split at hf
  · next y0 x0 r =>
    cases hf
    refine ⟨⟨Nat.le_refl _, Nat.le_refl _⟩, fun b bs cI cL D p l e R s m args below meth c Q n0 z0 X hal _ _ _ _ hW H locs ls hR hh hS => ?_⟩
    exact lv_imul X.1 X.2.1 d (hW H locs ls hR hh hS)
  · cases hf
theorem mi_iand_ok (d : decode cc pc = .ok (.iand, 1)) (hn : pc + 1 = nx) : mi_Ok own cc nL ini pc (mi_i2 (fun x y => x &&& y) nx) := by
  intro al LS xs lo st h x hf
  subst hn
  unfold mi_i2 at hf
  split at hf
  · next y0 x0 r =>
    cases hf
    refine ⟨⟨Nat.le_refl _, Nat.le_refl _⟩, fun b bs cI cL D p l e R s m args below meth c Q n0 z0 X hal _ _ _ _ hW H locs ls hR hh hS => ?_⟩
    exact lv_iand X.1 X.2.1 d (hW H locs ls hR hh hS)
  · cases hf
theorem mi_land_ok (d : decode cc pc = .ok (.land, 1)) (hn : pc + 1 = nx) : mi_Ok own cc nL ini pc (mi_l2 (fun x y => x &&& y) nx) := by
  intro al LS xs lo st h x hf
  subst hn
  unfold mi_l2 at hf
  split at hf
  · next y0 x0 r =>
    cases hf
    refine ⟨⟨Nat.le_refl _, Nat.le_refl _⟩, fun b bs cI cL D p l e R s m args below meth c Q n0 z0 X hal _ _ _ _ hW H locs ls hR hh hS => ?_⟩
    exact lv_land X.1 X.2.1 d (hW H locs ls hR hh hS)
  · cases hf
theorem mi_lor_ok (d : decode cc pc = .ok (.lor, 1)) (hn : pc + 1 = nx) : mi_Ok own cc nL ini pc (mi_l2 (fun x y => x ||| y) nx) := by
  intro al LS xs lo st h x hf
  subst hn
  unfold mi_l2 at hf
  split at hf
  · next y0 x0 r =>
    cases hf
    refine ⟨⟨Nat.le_refl _, Nat.le_refl _⟩, fun b bs cI cL D p l e R s m args below meth c Q n0 z0 X hal _ _ _ _ hW H locs ls hR hh hS => ?_⟩
    exact lv_lor X.1 X.2.1 d (hW H locs ls hR hh hS)
  · cases hf
theorem mi_lushr_ok (d : decode cc pc = .ok (.lushr, 1)) (hn : pc + 1 = nx) : mi_Ok own cc nL ini pc (mi_ls mi_ushr nx) := by
  intro al LS xs lo st h x hf
  subst hn
  unfold mi_ls at hf
  split at hf
  · next y0 x0 r =>
    cases hf
    refine ⟨⟨Nat.le_refl _, Nat.le_refl _⟩, fun b bs cI cL D p l e R s m args below meth c Q n0 z0 X hal _ _ _ _ hW H locs ls hR hh hS => ?_⟩
    exact lv_lushr X.1 X.2.1 d rfl (hW H locs ls hR hh hS)
  · cases hf
theorem mi_lshr_ok (d : decode cc pc = .ok (.lshr, 1)) (hn : pc + 1 = nx) : mi_Ok own cc nL ini pc (mi_ls mi_sshr nx) := by
  intro al LS xs lo st h x hf
  subst hn
  unfold mi_ls at hf
  split at hf
  · next y0 x0 r =>
    cases hf
    refine ⟨⟨Nat.le_refl _, Nat.le_refl _⟩, fun b bs cI cL D p l e R s m args below meth c Q n0 z0 X hal _ _ _ _ hW H locs ls hR hh hS => ?_⟩
    exact lv_lshr X.1 X.2.1 d rfl (hW H locs ls hR hh hS)
  · cases hf
theorem mi_lshl_ok (d : decode cc pc = .ok (.lshl, 1)) (hn : pc + 1 = nx) : mi_Ok own cc nL ini pc (mi_ls mi_sshl nx) := by
  intro al LS xs lo st h x hf
  subst hn
  unfold mi_ls at hf
  split at hf
  · next y0 x0 r =>
    cases hf
    refine ⟨⟨Nat.le_refl _, Nat.le_refl _⟩, fun b bs cI cL D p l e R s m args below meth c Q n0 z0 X hal _ _ _ _ hW H locs ls hR hh hS => ?_⟩
    exact lv_lshl X.1 X.2.1 d rfl (hW H locs ls hR hh hS)
  · cases hf
theorem mi_ineg_ok (d : decode cc pc = .ok (.ineg, 1)) (hn : pc + 1 = nx) : mi_Ok own cc nL ini pc (mi_i1 (fun x => -x) nx) := by
  intro al LS xs lo st h x hf
  subst hn
  unfold mi_i1 at hf
  split at hf
  · next x0 r =>
    cases hf
    refine ⟨⟨Nat.le_refl _, Nat.le_refl _⟩, fun b bs cI cL D p l e R s m args below meth c Q n0 z0 X hal _ _ _ _ hW H locs ls hR hh hS => ?_⟩
    exact lv_ineg X.1 X.2.1 d (hW H locs ls hR hh hS)
  · cases hf
theorem mi_i2l_ok (d : decode cc pc = .ok (.i2l, 1)) (hn : pc + 1 = nx) : mi_Ok own cc nL ini pc (mi_il nx) := by
  intro al LS xs lo st h x hf
  subst hn
  unfold mi_il at hf
  split at hf
  · next x0 r =>
    cases hf
    refine ⟨⟨Nat.le_refl _, Nat.le_refl _⟩, fun b bs cI cL D p l e R s m args below meth c Q n0 z0 X hal _ _ _ _ hW H locs ls hR hh hS => ?_⟩
    exact lv_i2l X.1 X.2.1 d rfl (hW H locs ls hR hh hS)
  · cases hf
theorem mi_l2i_ok (d : decode cc pc = .ok (.l2i, 1)) (hn : pc + 1 = nx) : mi_Ok own cc nL ini pc (mi_li nx) := by
  intro al LS xs lo st h x hf
  subst hn
  unfold mi_li at hf
  split at hf
  · next x0 r =>
    cases hf
    refine ⟨⟨Nat.le_refl _, Nat.le_refl _⟩, fun b bs cI cL D p l e R s m args below meth c Q n0 z0 X hal _ _ _ _ hW H locs ls hR hh hS => ?_⟩
    exact lv_l2i X.1 X.2.1 d rfl (hW H locs ls hR hh hS)
  · cases hf
theorem mi_lcmp_ok (d : decode cc pc = .ok (.lcmp, 1)) (hn : pc + 1 = nx) : mi_Ok own cc nL ini pc (mi_lc nx) := by
  intro al LS xs lo st h x hf
  subst hn
  unfold mi_lc at hf
  split at hf
  · next y0 x0 r =>
    cases hf
    refine ⟨⟨Nat.le_refl _, Nat.le_refl _⟩, fun b bs cI cL D p l e R s m args below meth c Q n0 z0 X hal _ _ _ _ hW H locs ls hR hh hS => ?_⟩
    exact W.lcmp X.1 X.2.1 d (hW H locs ls hR hh hS)
  · cases hf
theorem mi_idiv_ok (d : decode cc pc = .ok (.idiv, 1)) (hn : pc + 1 = nx) : mi_Ok own cc nL ini pc (mi_d2 (fun x y => x / y) nx) := by
  intro al LS xs lo st h x hf
  subst hn
  unfold mi_d2 at hf
  split at hf
  · next y0 x0 r =>
    split at hf
    · cases hf
    · next hy =>
      cases hf
      refine ⟨⟨Nat.le_refl _, Nat.le_refl _⟩, fun b bs cI cL D p l e R s m args below meth c Q n0 z0 X hal _ _ _ _ hW H locs ls hR hh hS => ?_⟩
      exact lv_idiv X.1 X.2.1 d hy (hW H locs ls hR hh hS)
  · cases hf
theorem mi_irem_ok (d : decode cc pc = .ok (.irem, 1)) (hn : pc + 1 = nx) : mi_Ok own cc nL ini pc (mi_d2 mi_irem nx) := by
  intro al LS xs lo st h x hf
  subst hn
  unfold mi_d2 at hf
  split at hf
  · next y0 x0 r =>
    split at hf
    · cases hf
    · next hy =>
      cases hf
      refine ⟨⟨Nat.le_refl _, Nat.le_refl _⟩, fun b bs cI cL D p l e R s m args below meth c Q n0 z0 X hal _ _ _ _ hW H locs ls hR hh hS => ?_⟩
      exact lv_irem X.1 X.2.1 d hy (hW H locs ls hR hh hS)
  · cases hf
def mi_dup (nx : Nat) : mF := fun _ _ _ lo st h => match st with
  | v :: r => if v.category = 1 then some (nx, lo, v :: v :: r, h) else none
  | _ => none
def mi_dup2 (nx : Nat) : mF := fun _ _ _ lo st h => match st with
  | v :: u :: r => if v.category = 1 ∧ u.category = 1 then some (nx, lo, v :: u :: v :: u :: r, h) else none
  | _ => none
def mi_pop (nx : Nat) : mF := fun _ _ _ lo st h => match st with
  | v :: r => if v.category = 1 then some (nx, lo, r, h) else none
  | _ => none
theorem mi_dup_ok (d : decode cc pc = .ok (.dup, 1)) (hn : pc + 1 = nx) : mi_Ok own cc nL ini pc (mi_dup nx) := by
  intro al LS xs lo st h x hf
  subst hn
  unfold mi_dup at hf
  split at hf
  · next v r =>
    split at hf
    · next hc =>
      cases hf
      refine ⟨⟨Nat.le_refl _, Nat.le_refl _⟩, fun b bs cI cL D p l e R s m args below meth c Q n0 z0 X hal _ _ _ _ hW H locs ls hR hh hS => ?_⟩
      exact lv_dup X.1 X.2.1 d (by rw [mi_v_cat]; exact hc) (hW H locs ls hR hh hS)
    · cases hf
  · cases hf
theorem mi_pop_ok (d : decode cc pc = .ok (.pop, 1)) (hn : pc + 1 = nx) : mi_Ok own cc nL ini pc (mi_pop nx) := by
  intro al LS xs lo st h x hf
  subst hn
  unfold mi_pop at hf
  split at hf
  · next v r =>
    split at hf
    · next hc =>
      cases hf
      refine ⟨⟨Nat.le_refl _, Nat.le_refl _⟩, fun b bs cI cL D p l e R s m args below meth c Q n0 z0 X hal _ _ _ _ hW H locs ls hR hh hS => ?_⟩
      exact lv_pop X.1 X.2.1 d (by rw [mi_v_cat]; exact hc) (hW H locs ls hR hh hS)
    · cases hf
  · cases hf
theorem mi_dup2_ok (d : decode cc pc = .ok (.dup2, 1)) (hn : pc + 1 = nx) : mi_Ok own cc nL ini pc (mi_dup2 nx) := by
  intro al LS xs lo st h x hf
  subst hn
  unfold mi_dup2 at hf
  split at hf
  · next v u r =>
    split at hf
    · next hc =>
      cases hf
      refine ⟨⟨Nat.le_refl _, Nat.le_refl _⟩, fun b bs cI cL D p l e R s m args below meth c Q n0 z0 X hal _ _ _ _ hW H locs ls hR hh hS => ?_⟩
      exact lv_dup2_11 X.1 X.2.1 d (by rw [mi_v_cat]; exact hc.1) (by rw [mi_v_cat]; exact hc.2) (hW H locs ls hR hh hS)
    · cases hf
  · cases hf
def mi_b1 (t : Int32 → Bool) (tgt nx : Nat) : mF := fun _ _ _ lo st h => match st with
  | .int x :: r => some (if t x = true then tgt else nx, lo, r, h)
  | _ => none
def mi_b2 (t : Int32 → Int32 → Bool) (tgt nx : Nat) : mF := fun _ _ _ lo st h => match st with
  | .int y :: .int x :: r => some (if t x y = true then tgt else nx, lo, r, h)
  | _ => none
def mi_go (tgt : Nat) : mF := fun _ _ _ lo st h => some (tgt, lo, st, h)
theorem mi_if_eq_ok {off : Int} (d : decode cc pc = .ok (.ifCond .eq off, 3)) (ht : (pc : Int) + off = (tgt : Int)) (hn : pc + 3 = nx) : mi_Ok own cc nL ini pc (mi_b1 (fun x => decide (x = 0)) tgt nx) := by
  intro al LS xs lo st h x hf
  subst hn
  unfold mi_b1 at hf
  split at hf
  · next x0 r =>
    cases hf
    refine ⟨⟨Nat.le_refl _, Nat.le_refl _⟩, fun b bs cI cL D p l e R s m args below meth c Q n0 z0 X hal _ _ _ _ hW H locs ls hR hh hS => ?_⟩
    have hW1 := hW H locs ls hR hh hS
    dsimp only at hW1
    refine lv_if_eq X.1 X.2.1 d ht (fun hc0 => ?_) (fun hc0 => ?_)
    · rw [if_pos (by simp [hc0])] at hW1; exact hW1
    · rw [if_neg (by simp [hc0])] at hW1; exact hW1
  · cases hf
theorem mi_icmp_eq_ok {off : Int} (d : decode cc pc = .ok (.if_icmp .eq off, 3)) (ht : (pc : Int) + off = (tgt : Int)) (hn : pc + 3 = nx) : mi_Ok own cc nL ini pc (mi_b2 (fun x y => decide (x = y)) tgt nx) := by
  intro al LS xs lo st h x hf
  subst hn
  unfold mi_b2 at hf
  split at hf
  · next y0 x0 r =>
    cases hf
    refine ⟨⟨Nat.le_refl _, Nat.le_refl _⟩, fun b bs cI cL D p l e R s m args below meth c Q n0 z0 X hal _ _ _ _ hW H locs ls hR hh hS => ?_⟩
    have hW1 := hW H locs ls hR hh hS
    dsimp only at hW1
    refine lv_icmp_eq X.1 X.2.1 d ht (fun hc0 => ?_) (fun hc0 => ?_)
    · rw [if_pos (by simp [hc0])] at hW1; exact hW1
    · rw [if_neg (by simp [hc0])] at hW1; exact hW1
  · cases hf
theorem mi_if_ne_ok {off : Int} (d : decode cc pc = .ok (.ifCond .ne off, 3)) (ht : (pc : Int) + off = (tgt : Int)) (hn : pc + 3 = nx) : mi_Ok own cc nL ini pc (mi_b1 (fun x => decide (¬ x = 0)) tgt nx) := by
  intro al LS xs lo st h x hf
  subst hn
  unfold mi_b1 at hf
  split at hf
  · next x0 r =>
    cases hf
    refine ⟨⟨Nat.le_refl _, Nat.le_refl _⟩, fun b bs cI cL D p l e R s m args below meth c Q n0 z0 X hal _ _ _ _ hW H locs ls hR hh hS => ?_⟩
    have hW1 := hW H locs ls hR hh hS
    dsimp only at hW1
    refine lv_if_ne X.1 X.2.1 d ht (fun hc0 => ?_) (fun hc0 => ?_)
    · rw [if_pos (by simp [hc0])] at hW1; exact hW1
    · rw [if_neg (by simp [hc0])] at hW1; exact hW1
  · cases hf
theorem mi_icmp_ne_ok {off : Int} (d : decode cc pc = .ok (.if_icmp .ne off, 3)) (ht : (pc : Int) + off = (tgt : Int)) (hn : pc + 3 = nx) : mi_Ok own cc nL ini pc (mi_b2 (fun x y => decide (¬ x = y)) tgt nx) := by
  intro al LS xs lo st h x hf
  subst hn
  unfold mi_b2 at hf
  split at hf
  · next y0 x0 r =>
    cases hf
    refine ⟨⟨Nat.le_refl _, Nat.le_refl _⟩, fun b bs cI cL D p l e R s m args below meth c Q n0 z0 X hal _ _ _ _ hW H locs ls hR hh hS => ?_⟩
    have hW1 := hW H locs ls hR hh hS
    dsimp only at hW1
    refine lv_icmp_ne X.1 X.2.1 d ht (fun hc0 => ?_) (fun hc0 => ?_)
    · rw [if_pos (by simp [hc0])] at hW1; exact hW1
    · rw [if_neg (by simp [hc0])] at hW1; exact hW1
  · cases hf
theorem mi_if_lt_ok {off : Int} (d : decode cc pc = .ok (.ifCond .lt off, 3)) (ht : (pc : Int) + off = (tgt : Int)) (hn : pc + 3 = nx) : mi_Ok own cc nL ini pc (mi_b1 (fun x => decide (x < 0)) tgt nx) := by
  intro al LS xs lo st h x hf
  subst hn
  unfold mi_b1 at hf
  split at hf
  · next x0 r =>
    cases hf
    refine ⟨⟨Nat.le_refl _, Nat.le_refl _⟩, fun b bs cI cL D p l e R s m args below meth c Q n0 z0 X hal _ _ _ _ hW H locs ls hR hh hS => ?_⟩
    have hW1 := hW H locs ls hR hh hS
    dsimp only at hW1
    refine lv_if_lt X.1 X.2.1 d ht (fun hc0 => ?_) (fun hc0 => ?_)
    · rw [if_pos (by simp [hc0])] at hW1; exact hW1
    · rw [if_neg (by simp [hc0])] at hW1; exact hW1
  · cases hf
theorem mi_icmp_lt_ok {off : Int} (d : decode cc pc = .ok (.if_icmp .lt off, 3)) (ht : (pc : Int) + off = (tgt : Int)) (hn : pc + 3 = nx) : mi_Ok own cc nL ini pc (mi_b2 (fun x y => decide (x < y)) tgt nx) := by
  intro al LS xs lo st h x hf
  subst hn
  unfold mi_b2 at hf
  split at hf
  · next y0 x0 r =>
    cases hf
    refine ⟨⟨Nat.le_refl _, Nat.le_refl _⟩, fun b bs cI cL D p l e R s m args below meth c Q n0 z0 X hal _ _ _ _ hW H locs ls hR hh hS => ?_⟩
    have hW1 := hW H locs ls hR hh hS
    dsimp only at hW1
    refine lv_icmp_lt X.1 X.2.1 d ht (fun hc0 => ?_) (fun hc0 => ?_)
    · rw [if_pos (by simp [hc0])] at hW1; exact hW1
    · rw [if_neg (by simp [hc0])] at hW1; exact hW1
  · cases hf
theorem mi_if_ge_ok {off : Int} (d : decode cc pc = .ok (.ifCond .ge off, 3)) (ht : (pc : Int) + off = (tgt : Int)) (hn : pc + 3 = nx) : mi_Ok own cc nL ini pc (mi_b1 (fun x => decide (0 ≤ x)) tgt nx) := by
  intro al LS xs lo st h x hf
  subst hn
  unfold mi_b1 at hf
  split at hf
  · next x0 r =>
    cases hf
    refine ⟨⟨Nat.le_refl _, Nat.le_refl _⟩, fun b bs cI cL D p l e R s m args below meth c Q n0 z0 X hal _ _ _ _ hW H locs ls hR hh hS => ?_⟩
    have hW1 := hW H locs ls hR hh hS
    dsimp only at hW1
    refine lv_if_ge X.1 X.2.1 d ht (fun hc0 => ?_) (fun hc0 => ?_)
    · rw [if_pos (by simp [hc0])] at hW1; exact hW1
    · rw [if_neg (by simp [hc0])] at hW1; exact hW1
  · cases hf
theorem mi_icmp_ge_ok {off : Int} (d : decode cc pc = .ok (.if_icmp .ge off, 3)) (ht : (pc : Int) + off = (tgt : Int)) (hn : pc + 3 = nx) : mi_Ok own cc nL ini pc (mi_b2 (fun x y => decide (y ≤ x)) tgt nx) := by
  intro al LS xs lo st h x hf
  subst hn
  unfold mi_b2 at hf
  split at hf
  · next y0 x0 r =>
    cases hf
    refine ⟨⟨Nat.le_refl _, Nat.le_refl _⟩, fun b bs cI cL D p l e R s m args below meth c Q n0 z0 X hal _ _ _ _ hW H locs ls hR hh hS => ?_⟩
    have hW1 := hW H locs ls hR hh hS
    dsimp only at hW1
    refine lv_icmp_ge X.1 X.2.1 d ht (fun hc0 => ?_) (fun hc0 => ?_)
    · rw [if_pos (by simp [hc0])] at hW1; exact hW1
    · rw [if_neg (by simp [hc0])] at hW1; exact hW1
  · cases hf
theorem mi_if_gt_ok {off : Int} (d : decode cc pc = .ok (.ifCond .gt off, 3)) (ht : (pc : Int) + off = (tgt : Int)) (hn : pc + 3 = nx) : mi_Ok own cc nL ini pc (mi_b1 (fun x => decide (0 < x)) tgt nx) := by
  intro al LS xs lo st h x hf
  subst hn
  unfold mi_b1 at hf
  split at hf
  · next x0 r =>
    cases hf
    refine ⟨⟨Nat.le_refl _, Nat.le_refl _⟩, fun b bs cI cL D p l e R s m args below meth c Q n0 z0 X hal _ _ _ _ hW H locs ls hR hh hS => ?_⟩
    have hW1 := hW H locs ls hR hh hS
    dsimp only at hW1
    refine lv_if_gt X.1 X.2.1 d ht (fun hc0 => ?_) (fun hc0 => ?_)
    · rw [if_pos (by simp [hc0])] at hW1; exact hW1
    · rw [if_neg (by simp [hc0])] at hW1; exact hW1
  · cases hf
theorem mi_icmp_gt_ok {off : Int} (d : decode cc pc = .ok (.if_icmp .gt off, 3)) (ht : (pc : Int) + off = (tgt : Int)) (hn : pc + 3 = nx) : mi_Ok own cc nL ini pc (mi_b2 (fun x y => decide (y < x)) tgt nx) := by
  intro al LS xs lo st h x hf
  subst hn
  unfold mi_b2 at hf
  split at hf
  · next y0 x0 r =>
    cases hf
    refine ⟨⟨Nat.le_refl _, Nat.le_refl _⟩, fun b bs cI cL D p l e R s m args below meth c Q n0 z0 X hal _ _ _ _ hW H locs ls hR hh hS => ?_⟩
    have hW1 := hW H locs ls hR hh hS
    dsimp only at hW1
    refine lv_icmp_gt X.1 X.2.1 d ht (fun hc0 => ?_) (fun hc0 => ?_)
    · rw [if_pos (by simp [hc0])] at hW1; exact hW1
    · rw [if_neg (by simp [hc0])] at hW1; exact hW1
  · cases hf
theorem mi_if_le_ok {off : Int} (d : decode cc pc = .ok (.ifCond .le off, 3)) (ht : (pc : Int) + off = (tgt : Int)) (hn : pc + 3 = nx) : mi_Ok own cc nL ini pc (mi_b1 (fun x => decide (x ≤ 0)) tgt nx) := by
  intro al LS xs lo st h x hf
  subst hn
  unfold mi_b1 at hf
  split at hf
  · next x0 r =>
    cases hf
    refine ⟨⟨Nat.le_refl _, Nat.le_refl _⟩, fun b bs cI cL D p l e R s m args below meth c Q n0 z0 X hal _ _ _ _ hW H locs ls hR hh hS => ?_⟩
    have hW1 := hW H locs ls hR hh hS
    dsimp only at hW1
    refine lv_if_le X.1 X.2.1 d ht (fun hc0 => ?_) (fun hc0 => ?_)
    · rw [if_pos (by simp [hc0])] at hW1; exact hW1
    · rw [if_neg (by simp [hc0])] at hW1; exact hW1
  · cases hf
theorem mi_icmp_le_ok {off : Int} (d : decode cc pc = .ok (.if_icmp .le off, 3)) (ht : (pc : Int) + off = (tgt : Int)) (hn : pc + 3 = nx) : mi_Ok own cc nL ini pc (mi_b2 (fun x y => decide (x ≤ y)) tgt nx) := by
  intro al LS xs lo st h x hf
  subst hn
  unfold mi_b2 at hf
  split at hf
  · next y0 x0 r =>
    cases hf
    refine ⟨⟨Nat.le_refl _, Nat.le_refl _⟩, fun b bs cI cL D p l e R s m args below meth c Q n0 z0 X hal _ _ _ _ hW H locs ls hR hh hS => ?_⟩
    have hW1 := hW H locs ls hR hh hS
    dsimp only at hW1
    refine lv_icmp_le X.1 X.2.1 d ht (fun hc0 => ?_) (fun hc0 => ?_)
    · rw [if_pos (by simp [hc0])] at hW1; exact hW1
    · rw [if_neg (by simp [hc0])] at hW1; exact hW1
  · cases hf
theorem mi_goto_ok {off : Int} (d : decode cc pc = .ok (.goto off, 3)) (ht : (pc : Int) + off = (tgt : Int)) : mi_Ok own cc nL ini pc (mi_go tgt) := by
  intro al LS xs lo st h x hf
  cases hf
  refine ⟨⟨Nat.le_refl _, Nat.le_refl _⟩, fun b bs cI cL D p l e R s m args below meth c Q n0 z0 X hal _ _ _ _ hW H locs ls hR hh hS => ?_⟩
  exact lv_goto X.1 X.2.1 d ht (hW H locs ls hR hh hS)
end MI2
end
section
/-! STEPS ON THE HEAP. -/
section MI3
variable {own : String} {cc : ByteArray} {nL : Nat} {ini : Bool} {pc nx tgt : Nat}
def mi_okT (ty : FieldType) : Bool := match ty with
  | .int => true
  | .boolean => true
  | .long => true
  | .object _ => true
  | .array _ => true
  | _ => false
theorem mi_fit {b bs : Nat} {ty : FieldType} {v : Value} (hT : mi_okT ty = true) (h : fits ty v = true) : fits ty (mi_v b bs v) = true ∧ narrow ty (mi_v b bs v) = mi_v b bs v := by
  cases ty <;> first | (cases hT; done) | skip
  case boolean =>
    cases v <;> first | (simp [fits] at h; done) | skip
    next x =>
      simp only [fits, Bool.or_eq_true, beq_iff_eq] at h
      rcases h with rfl | rfl
      · show fits .boolean (.int 0) = true ∧ narrow .boolean (.int 0) = .int 0
        decide
      · show fits .boolean (.int 1) = true ∧ narrow .boolean (.int 1) = .int 1
        decide
  all_goals cases v <;> first | (simp [fits] at h; done) | exact ⟨rfl, rfl⟩
theorem mi_at {b bs : Nat} {cI cL : ClassId} {h : mH} {a : Nat} {c : mC} (ha : h[a]? = some c) : (mi_w b bs cI cL 0 h)[a]? = some (b + a, mi_e b bs cI cL c) := by
  rw [mi_w_get, ha]
  simp
theorem mi_set {b bs : Nat} {cI cL : ClassId} (h : mH) (a : Nat) (c : mC) : (mi_w b bs cI cL 0 h).set a (b + a, mi_e b bs cI cL c) = mi_w b bs cI cL 0 (h.set a c) := by
  have := mi_w_set (b := b) (bs := bs) (cI := cI) (cL := cL) h 0 a c
  rwa [Nat.zero_add] at this
def mi_get (ci k nx : Nat) : mF := fun _ _ _ lo st h => match st with
  | .ref a :: r => (match h[a]? with
    | some (.inl (c, fs)) => if c = ci then (match fs[k]? with
      | some v => some (nx, lo, v :: r, h)
      | none => none) else none
    | _ => none)
  | _ => none
def mi_put (ci k : Nat) (ty : FieldType) (nx : Nat) : mF := fun _ _ _ lo st h => match st with
  | v :: .ref a :: r => (match h[a]? with
    | some (.inl (c, fs)) => if c = ci ∧ fits ty v = true ∧ k < fs.length then some (nx, lo, r, h.set a (.inl (c, fs.set k v))) else none
    | _ => none)
  | _ => none
theorem mi_get_ok {index ci k : Nat} {fty : FieldType} {fin : Bool} (d : decode cc pc = .ok (.getfield index, 3)) (hF : mi_FL own index ci k fty fin) (hn : pc + 3 = nx) : mi_Ok own cc nL ini pc (mi_get ci k nx) := by
  intro al LS xs lo st h x hf
  subst hn
  unfold mi_get at hf
  split at hf
  · next a r =>
    split at hf
    · next c1 fs ha =>
      split at hf
      · next hc =>
        subst hc
        split at hf
        · next v hv =>
          cases hf
          refine ⟨⟨Nat.le_refl _, Nat.le_refl _⟩, fun b bs cI cL D p l e R s m args below meth c Q n0 z0 X hal _ _ _ _ hW H locs ls hR hh hS => ?_⟩
          obtain ⟨C, T, N, ty, ⟨hcl, hin, hty, hnm⟩, hk, -, -, -, hlk⟩ := hF
          have hv1 : (fs.map (mi_v b bs))[k]? = some (mi_v b bs v) := by rw [List.getElem?_map, hv]; rfl
          rcases hlk with hlk | ⟨host, hlk⟩
          · exact va_get (D := D) X.1 X.2.1 X.2.2.2.2.1 hin X.2.2.2.1 X.2.2.2.2.2.1.1 hR a (mi_at ha) hcl k hk (X.2.2.2.2.1 _ hlk) (fun _ h9 => h9) hv1 d (hW H locs ls hR hh hS)
          · exact va_getN (D := D) X.1 X.2.1 X.2.2.2.2.1 hin X.2.2.2.1 X.2.2.2.2.2.1.1 hR a (mi_at ha) hcl k hk (va_Nw.use rfl (X.2.2.2.2.2.1.2.1 _ hlk)) (fun _ h9 => h9) hv1 d (hW H locs ls hR hh hS)
        · cases hf
      · cases hf
    · cases hf
  · cases hf
theorem mi_put_ok {index ci k : Nat} {fty : FieldType} (d : decode cc pc = .ok (.putfield index, 3)) (hF : mi_FL own index ci k fty false) (hT : mi_okT fty = true) (hn : pc + 3 = nx) : mi_Ok own cc nL ini pc (mi_put ci k fty nx) := by
  intro al LS xs lo st h x hf
  subst hn
  unfold mi_put at hf
  split at hf
  · next v a r =>
    split at hf
    · next c1 fs ha =>
      split at hf
      · next hc =>
        obtain ⟨hc, hfv, hkl⟩ := hc
        subst hc
        cases hf
        have hz : mi_z (h.set a (.inl (c1, fs.set k v))) = mi_z h := mi_z_set h a _ _ ha (by simp [mi_zc])
        have hl : (h.set a (.inl (c1, fs.set k v) : mC)).length = h.length := List.length_set
        refine ⟨⟨by dsimp only; rw [hl]; exact Nat.le_refl _, by dsimp only; rw [hz]; exact Nat.le_refl _⟩, fun b bs cI cL D p l e R s m args below meth c Q n0 z0 X hal _ _ _ _ hW H locs ls hR hh hS => ?_⟩
        obtain ⟨C, T, N, ty, ⟨hcl, hin, hty, hnm⟩, hk, hft, hfi, hdc, hlk⟩ := hF
        have hfit := mi_fit (b := b) (bs := bs) hT hfv
        have hd : parseFieldDescriptor (T k).2.2.1 = some fty := by rw [hty k hk, hft]
        have hkk : ∀ (H1 : Heap) (locs1 : List Loc), va_P D mi_cl ((mi_w b bs cI cL 0 h).set a (b + a, .inr (c1, (fs.map (mi_v b bs)).set k (mi_v b bs v)))) H1 → va_S (fun q => b ≤ q) s.heap H1 locs1 → W p l e R s m args below meth c H1 locs1 (h.length - n0) (mi_z h - z0) Q (F0 m (pc + 3) ls (r.map (mi_v b bs))) := by
          intro H1 locs1 hP1 hS1
          have e1 : (mi_w b bs cI cL 0 h).set a (b + a, .inr (c1, (fs.map (mi_v b bs)).set k (mi_v b bs v))) = mi_w b bs cI cL 0 (h.set a (.inl (c1, fs.set k v))) := by
            rw [← mi_set]
            simp [mi_e, List.map_set]
          rw [e1] at hP1
          have := hW H1 locs1 ls hP1 hh hS1
          dsimp only at this
          rw [hl, hz] at this
          exact this
        have hkl1 : k < (fs.map (mi_v b bs)).length := by simpa using hkl
        rcases hlk with hlk | ⟨host, hlk⟩
        · exact va_put (D := D) X.1 X.2.1 X.2.2.2.2.1 hin ty hty hnm X.2.2.2.1 X.2.2.2.2.2.1.1 hR (mi_w_D h) hS a (mi_at ha) hcl k hk (X.2.2.2.2.1 _ hlk) (fun _ h9 => h9) hfi hd hfit.2 hfit.1 hkl1 d (fun H1 locs1 hP1 _ hS1 => hkk H1 locs1 hP1 hS1)
        · exact va_putN (D := D) X.1 X.2.1 X.2.2.2.2.1 hin ty hty hnm X.2.2.2.1 X.2.2.2.2.2.1.1 hR (mi_w_D h) hS a (mi_at ha) hcl k hk (va_Nw.use rfl (X.2.2.2.2.2.1.2.1 _ hlk)) (fun _ h9 => h9) hfi hd hfit.2 hfit.1 hkl1 d (fun H1 locs1 hP1 _ hS1 => hkk H1 locs1 hP1 hS1)
      · cases hf
    · cases hf
  · cases hf
theorem mi_putF_ok {index ci k : Nat} {fty : FieldType} (d : decode cc pc = .ok (.putfield index, 3)) (hF : mi_FL own index ci k fty true) (hT : mi_okT fty = true) (hi : ini = true) (ho : ∀ C T N, mi_cl[ci]? = some (C, T, N) → C = own) (hg : ∀ C T N, mi_cl[ci]? = some (C, T, N) → Cond.fieldLink own index (T k).1 (T k).2.1 (T k).2.2.1 ∈ mi_good) (hn : pc + 3 = nx) : mi_Ok own cc nL ini pc (mi_put ci k fty nx) := by
  intro al LS xs lo st h x hf
  subst hn
  unfold mi_put at hf
  split at hf
  · next v a r =>
    split at hf
    · next c1 fs ha =>
      split at hf
      · next hc =>
        obtain ⟨hc, hfv, hkl⟩ := hc
        subst hc
        cases hf
        have hz : mi_z (h.set a (.inl (c1, fs.set k v))) = mi_z h := mi_z_set h a _ _ ha (by simp [mi_zc])
        have hl : (h.set a (.inl (c1, fs.set k v) : mC)).length = h.length := List.length_set
        refine ⟨⟨by dsimp only; rw [hl]; exact Nat.le_refl _, by dsimp only; rw [hz]; exact Nat.le_refl _⟩, fun b bs cI cL D p l e R s m args below meth c Q n0 z0 X hal _ _ _ _ hW H locs ls hR hh hS => ?_⟩
        obtain ⟨C, T, N, ty, ⟨hcl, hin, hty, hnm⟩, hk, hft, hfi, hdc, hlk⟩ := hF
        have hfit := mi_fit (b := b) (bs := bs) hT hfv
        have hd : parseFieldDescriptor (T k).2.2.1 = some fty := by rw [hty k hk, hft]
        have hkk : ∀ (H1 : Heap) (locs1 : List Loc), va_P D mi_cl ((mi_w b bs cI cL 0 h).set a (b + a, .inr (c1, (fs.map (mi_v b bs)).set k (mi_v b bs v)))) H1 → va_S (fun q => b ≤ q) s.heap H1 locs1 → W p l e R s m args below meth c H1 locs1 (h.length - n0) (mi_z h - z0) Q (F0 m (pc + 3) ls (r.map (mi_v b bs))) := by
          intro H1 locs1 hP1 hS1
          have e1 : (mi_w b bs cI cL 0 h).set a (b + a, .inr (c1, (fs.map (mi_v b bs)).set k (mi_v b bs v))) = mi_w b bs cI cL 0 (h.set a (.inl (c1, fs.set k v))) := by
            rw [← mi_set]
            simp [mi_e, List.map_set]
          rw [e1] at hP1
          have := hW H1 locs1 ls hP1 hh hS1
          dsimp only at this
          rw [hl, hz] at this
          exact this
        have hkl1 : k < (fs.map (mi_v b bs)).length := by simpa using hkl
        exact va_putF (D := D) X.1 X.2.1 X.2.2.2.2.1 hin ty hty hnm X.2.2.2.1 X.2.2.2.2.2.1.1 hR (mi_w_D h) hS a (mi_at ha) hcl k hk (X.2.2.2.2.1 _ (hg C T N hcl)) (fun _ h9 => h9) hfi (X.2.2.2.2.2.2.2.1 hi) (by rw [hdc]; exact ho C T N hcl) hd hfit.2 hfit.1 hkl1 d (fun H1 locs1 hP1 _ hS1 => hkk H1 locs1 hP1 hS1)
      · cases hf
    · cases hf
  · cases hf
def mi_in (i : Int32) (n : Nat) : Bool := decide (0 ≤ i) && decide (i.toNatClampNeg < n)
theorem mi_in_vp {i : Int32} {n : Nat} (h : mi_in i n = true) : vp_in i n := by
  unfold mi_in at h
  simp only [Bool.and_eq_true, decide_eq_true_eq] at h
  intro q
  rcases q with q | q
  · exact absurd h.1 (Int32.not_le.mpr q)
  · omega
def mi_iald (nx : Nat) : mF := fun _ LS xs lo st h => match st with
  | .int i :: .ref a :: r => (match h[a]? with
    | some (.inr (.inl ys)) => if mi_in i ys.length = true then some (nx, lo, .int (ys.getD i.toNatClampNeg 0) :: r, h) else none
    | _ => none)
  | .int i :: .float _ :: r => if mi_in i LS = true then some (nx, lo, .int (xs i.toNatClampNeg) :: r, h) else none
  | _ => none
def mi_lald (nx : Nat) : mF := fun _ _ _ lo st h => match st with
  | .int i :: .ref a :: r => (match h[a]? with
    | some (.inr (.inr ys)) => if mi_in i ys.length = true then some (nx, lo, .long (ys.getD i.toNatClampNeg 0) :: r, h) else none
    | _ => none)
  | _ => none
def mi_iast (nx : Nat) : mF := fun _ _ _ lo st h => match st with
  | .int x :: .int i :: .ref a :: r => (match h[a]? with
    | some (.inr (.inl ys)) => if mi_in i ys.length = true then some (nx, lo, r, h.set a (.inr (.inl (ys.set i.toNatClampNeg x)))) else none
    | _ => none)
  | _ => none
def mi_last (nx : Nat) : mF := fun _ _ _ lo st h => match st with
  | .long x :: .int i :: .ref a :: r => (match h[a]? with
    | some (.inr (.inr ys)) => if mi_in i ys.length = true then some (nx, lo, r, h.set a (.inr (.inr (ys.set i.toNatClampNeg x)))) else none
    | _ => none)
  | _ => none
def mi_alen (nx : Nat) : mF := fun _ LS _ lo st h => match st with
  | .ref a :: r => (match h[a]? with
    | some (.inr (.inl ys)) => some (nx, lo, .int (Int32.ofNat ys.length) :: r, h)
    | _ => none)
  | .float _ :: r => some (nx, lo, .int (Int32.ofNat LS) :: r, h)
  | _ => none
theorem mi_iald_ok (d : decode cc pc = .ok (.iaload, 1)) (hn : pc + 1 = nx) : mi_Ok own cc nL ini pc (mi_iald nx) := by
  intro al LS xs lo st h x hf
  subst hn
  unfold mi_iald at hf
  split at hf
  · next i a r =>
    split at hf
    · next ys ha =>
      split at hf
      · next hi =>
        cases hf
        refine ⟨⟨Nat.le_refl _, Nat.le_refl _⟩, fun b bs cI cL D p l e R s m args below meth c Q n0 z0 X hal _ _ _ _ hW H locs ls hR hh hS => ?_⟩
        exact va_iald (D := D) X.1 X.2.1 X.2.2.2.2.2.1.1 hR a 0 (mi_at ha) rfl (mi_in_vp hi) d (hW H locs ls hR hh hS)
      · cases hf
    · cases hf
  · next i u r =>
    split at hf
    · next hi =>
      cases hf
      refine ⟨⟨Nat.le_refl _, Nat.le_refl _⟩, fun b bs cI cL D p l e R s m args below meth c Q n0 z0 X hal _ _ _ _ hW H locs ls hR hh hS => ?_⟩
      exact va_sld X.1 X.2.1 X.2.2.2.2.2.1.2.2.1 X.2.2.2.2.2.1.2.2.2.2.1 (Nat.not_le.mpr X.2.2.2.2.2.1.2.2.2.1) hS (mi_in_vp hi) d (hW H locs ls hR hh hS)
    · cases hf
  · cases hf
theorem mi_lald_ok (d : decode cc pc = .ok (.laload, 1)) (hn : pc + 1 = nx) : mi_Ok own cc nL ini pc (mi_lald nx) := by
  intro al LS xs lo st h x hf
  subst hn
  unfold mi_lald at hf
  split at hf
  · next i a r =>
    split at hf
    · next ys ha =>
      split at hf
      · next hi =>
        cases hf
        refine ⟨⟨Nat.le_refl _, Nat.le_refl _⟩, fun b bs cI cL D p l e R s m args below meth c Q n0 z0 X hal _ _ _ _ hW H locs ls hR hh hS => ?_⟩
        exact va_lald (D := D) X.1 X.2.1 X.2.2.2.2.2.1.1 hR a 1 (mi_at ha) rfl (mi_in_vp hi) d (hW H locs ls hR hh hS)
      · cases hf
    · cases hf
  · cases hf
theorem mi_alen_ok (d : decode cc pc = .ok (.arraylength, 1)) (hn : pc + 1 = nx) : mi_Ok own cc nL ini pc (mi_alen nx) := by
  intro al LS xs lo st h x hf
  subst hn
  unfold mi_alen at hf
  split at hf
  · next a r =>
    split at hf
    · next ys ha =>
      cases hf
      refine ⟨⟨Nat.le_refl _, Nat.le_refl _⟩, fun b bs cI cL D p l e R s m args below meth c Q n0 z0 X hal _ _ _ _ hW H locs ls hR hh hS => ?_⟩
      exact va_alen (D := D) X.1 X.2.1 X.2.2.2.2.2.1.1 hR a 0 (mi_at ha) rfl rfl d (hW H locs ls hR hh hS)
    · cases hf
  · next u r =>
    cases hf
    refine ⟨⟨Nat.le_refl _, Nat.le_refl _⟩, fun b bs cI cL D p l e R s m args below meth c Q n0 z0 X hal _ _ _ _ hW H locs ls hR hh hS => ?_⟩
    exact va_slen X.1 X.2.1 X.2.2.2.2.2.1.2.2.1 X.2.2.2.2.2.1.2.2.2.2.1 (Nat.not_le.mpr X.2.2.2.2.2.1.2.2.2.1) hS d (hW H locs ls hR hh hS)
  · cases hf
theorem mi_iast_ok (d : decode cc pc = .ok (.iastore, 1)) (hn : pc + 1 = nx) : mi_Ok own cc nL ini pc (mi_iast nx) := by
  intro al LS xs lo st h x hf
  subst hn
  unfold mi_iast at hf
  split at hf
  · next x0 i a r =>
    split at hf
    · next ys ha =>
      split at hf
      · next hi =>
        cases hf
        have hz : mi_z (h.set a (.inr (.inl (ys.set i.toNatClampNeg x0)))) = mi_z h := mi_z_set h a _ _ ha (by simp [mi_zc])
        have hl : (h.set a (.inr (.inl (ys.set i.toNatClampNeg x0)) : mC)).length = h.length := List.length_set
        refine ⟨⟨by dsimp only; rw [hl]; exact Nat.le_refl _, by dsimp only; rw [hz]; exact Nat.le_refl _⟩, fun b bs cI cL D p l e R s m args below meth c Q n0 z0 X hal _ _ _ _ hW H locs ls hR hh hS => ?_⟩
        refine va_iast (D := D) X.1 X.2.1 X.2.2.2.2.2.1.1 hR (mi_w_D h) hS a 0 (mi_at ha) rfl (mi_in_vp hi) d (fun H1 locs1 hP1 _ hS1 => ?_)
        have e1 : (mi_w b bs cI cL 0 h).set a (b + a, .inl (cI, ys.length, .inl (upd (fun j => ys.getD j 0) i.toNatClampNeg x0))) = mi_w b bs cI cL 0 (h.set a (.inr (.inl (ys.set i.toNatClampNeg x0)))) := by
          rw [← mi_set]
          have hlt : i.toNatClampNeg < ys.length := by
            unfold mi_in at hi
            simp only [Bool.and_eq_true, decide_eq_true_eq] at hi
            exact hi.2
          have hfn : (fun j => (ys.set i.toNatClampNeg x0).getD j 0) = upd (fun j => ys.getD j 0) i.toNatClampNeg x0 := by
            funext j
            unfold upd
            by_cases hj : j = i.toNatClampNeg
            · subst hj
              simp [List.getD, hlt]
            · rw [if_neg hj]
              simp [List.getD, List.getElem?_set_ne (Ne.symm hj)]
          simp only [mi_e, List.length_set, hfn]
        rw [e1] at hP1
        have := hW H1 locs1 ls hP1 hh hS1
        dsimp only at this
        rw [hl, hz] at this
        exact this
      · cases hf
    · cases hf
  · cases hf
theorem mi_last_ok (d : decode cc pc = .ok (.lastore, 1)) (hn : pc + 1 = nx) : mi_Ok own cc nL ini pc (mi_last nx) := by
  intro al LS xs lo st h x hf
  subst hn
  unfold mi_last at hf
  split at hf
  · next x0 i a r =>
    split at hf
    · next ys ha =>
      split at hf
      · next hi =>
        cases hf
        have hz : mi_z (h.set a (.inr (.inr (ys.set i.toNatClampNeg x0)))) = mi_z h := mi_z_set h a _ _ ha (by simp [mi_zc])
        have hl : (h.set a (.inr (.inr (ys.set i.toNatClampNeg x0)) : mC)).length = h.length := List.length_set
        refine ⟨⟨by dsimp only; rw [hl]; exact Nat.le_refl _, by dsimp only; rw [hz]; exact Nat.le_refl _⟩, fun b bs cI cL D p l e R s m args below meth c Q n0 z0 X hal _ _ _ _ hW H locs ls hR hh hS => ?_⟩
        refine va_last (D := D) X.1 X.2.1 X.2.2.2.2.2.1.1 hR (mi_w_D h) hS a 1 (mi_at ha) rfl (mi_in_vp hi) d (fun H1 locs1 hP1 _ hS1 => ?_)
        have e1 : (mi_w b bs cI cL 0 h).set a (b + a, .inl (cL, ys.length, .inr (.inl (vp_updL (fun j => ys.getD j 0) i.toNatClampNeg x0)))) = mi_w b bs cI cL 0 (h.set a (.inr (.inr (ys.set i.toNatClampNeg x0)))) := by
          rw [← mi_set]
          have hlt : i.toNatClampNeg < ys.length := by
            unfold mi_in at hi
            simp only [Bool.and_eq_true, decide_eq_true_eq] at hi
            exact hi.2
          have hfn : (fun j => (ys.set i.toNatClampNeg x0).getD j 0) = vp_updL (fun j => ys.getD j 0) i.toNatClampNeg x0 := by
            funext j
            unfold vp_updL
            by_cases hj : j = i.toNatClampNeg
            · subst hj
              simp [List.getD, hlt]
            · rw [if_neg hj]
              simp [List.getD, List.getElem?_set_ne (Ne.symm hj)]
          simp only [mi_e, List.length_set, hfn]
        rw [e1] at hP1
        have := hW H1 locs1 ls hP1 hh hS1
        dsimp only at this
        rw [hl, hz] at this
        exact this
      · cases hf
    · cases hf
  · cases hf
end MI3
end
section
/-! NEW CELLS; SWITCHES; the few JDK methods that are steps. -/
section MI4
variable {own : String} {cc : ByteArray} {nL : Nat} {ini : Bool} {pc nx tgt : Nat}
/-- where cells may still be made, the heap ends with the small one -/
theorem mi_exact {al : Bool} {b bs : Nat} {cI cL : ClassId} {D : va_G} {p : Program} {l : Launch} {e : Env} {R : Room} {s : State} {m : MethodId} {args : Array Value} {below : List Frame} {meth : Method} {c : Code} {T : State} {locs : List Loc} {h : mH} {n0 k z : Nat}
    (X : Stand p l e R s m args below meth c T locs k z) (hk : k = h.length - n0) (hn : n0 ≤ h.length) (ha : al = true) (hal : al = true → s.heap.size = b + n0) (hR : mi_R b bs cI cL D h T.heap) (hS : s.heap.size ≤ T.heap.size) : T.heap.size = b + h.length := by
  have h1 := X.heapSize
  have h2 := hR.size (by rw [hal ha] at hS; omega)
  rw [hal ha] at h1
  omega
def mi_new (ci : Nat) (fs : List Value) (nx : Nat) : mF := fun al _ _ lo st h => if al = true then some (nx, lo, .ref h.length :: st, h ++ [.inl (ci, fs)]) else none
def mi_defs (N : Nat) (ty : Nat → FieldType) (fs : List Value) : Bool := decide (fs.length = N) && (List.range N).all (fun j => decide (fs[j]? = some (defaultValue (ty j))))
theorem mi_dv (b bs : Nat) (ty : FieldType) (h : mi_okT ty = true) : mi_v b bs (defaultValue ty) = defaultValue ty := by
  cases ty <;> first | (cases h; done) | rfl
theorem mi_new_ok {index ci : Nat} {C : String} {T : u_T} {N : Nat} {ty : Nat → FieldType} {fs : List Value} (d : decode cc pc = .ok (.new index, 3)) (hC : mi_CF ci C T N ty) (hcl : Cond.classLink own index C ∈ mi_good) (hin : Cond.instantiable C N ∈ mi_good) (hini : Cond.initialized C ∈ mi_good)
    (hfs : mi_defs N ty fs = true) (hT : (List.range N).all (fun j => mi_okT (ty j)) = true) (hn : pc + 3 = nx) : mi_Ok own cc nL ini pc (mi_new ci fs nx) := by
  intro al LS xs lo st h x hf
  subst hn
  unfold mi_new at hf
  split at hf
  · next ha =>
    cases hf
    have hlen : fs.length = N := by
      unfold mi_defs at hfs
      simp only [Bool.and_eq_true, decide_eq_true_eq] at hfs
      exact hfs.1
    have hz : mi_z (h ++ [.inl (ci, fs)]) = mi_z h + N := by rw [mi_z_push]; simp [mi_zc, hlen]
    have hl : (h ++ [(.inl (ci, fs) : mC)]).length = h.length + 1 := by simp
    refine ⟨⟨by dsimp only; rw [hl]; omega, by dsimp only; rw [hz]; omega⟩, fun b bs cI cL D p l e R s m args below meth c Q n0 z0 X hal hn0 hz0 hc hs hW H locs ls hR hh hS => ?_⟩
    dsimp only at hc hs
    rw [hl] at hc
    rw [hz] at hs
    obtain ⟨hcl0, hws, hty, hnm⟩ := hC
    have hKn := X.2.2.2.2.2.1.1.1 ci _ hcl0
    intro T0 hT0 X0
    have hex : H.size = b + h.length := by
      rw [← hT0]
      exact mi_exact (D := D) X0 rfl hn0 ha hal (by rw [hT0]; exact hR) (by rw [hT0]; exact hS.1)
    refine (?_ : W p l e R s m args below meth c H locs (h.length - n0) (mi_z h - z0) Q (F0 m pc ls (st.map (mi_v b bs)))) T0 hT0 X0
    refine W.newcK (n := N) (g := F0 m pc ls (st.map (mi_v b bs))) X.1 X.2.1 X.2.2.2.1 (X.2.2.2.2.1 _ hcl) (X.2.2.2.2.1 _ hin) (X.2.2.2.2.1 _ hini) rfl d (by omega) (by omega) hKn.2.1 hex (fun H1 kC hkC e1 z1 o1 => ?_)
    have hP1 : mi_R b bs cI cL D (h ++ [.inl (ci, fs)]) H1 := by
      unfold mi_R
      rw [mi_w_push]
      have hk : ∀ (k : Nat) (x : Nat × va_E), (mi_w b bs cI cL 0 h)[k]? = some x → H1[x.1]? = H[x.1]? := fun k x hx => o1 x.1 (by have := (hR k x hx).lt; omega)
      refine (va_P.kept hR hk).app (fun k x hx => ?_)
      have hz : k < 1 := (List.getElem?_eq_some_iff.mp hx).1
      rw [show k = 0 by omega] at hx
      cases hx
      refine ⟨_, hcl0, ?_⟩
      have e0 : b + (0 + h.length) = b + h.length := by omega
      show t_OB (b + (0 + h.length)) _ _ _ _ _
      rw [e0]
      refine (u_born ty X.2.2.2.2.1 hws hKn hkC e1 hty).to (fun j hj => ?_)
      unfold mi_defs at hfs
      simp only [Bool.and_eq_true, decide_eq_true_eq, List.all_eq_true, List.mem_range] at hfs hT
      have h1 := hfs.2 j hj
      show defaultValue (ty j) = (fs.map (mi_v b bs)).getD j .null
      have h2 : (fs.map (mi_v b bs))[j]? = some (defaultValue (ty j)) := by
        rw [List.getElem?_map, h1]
        simp only [Option.map_some]
        rw [mi_dv b bs (ty j) (hT j hj)]
      rw [List.getD, h2]
      rfl
    have hS1 : va_S (fun q => b ≤ q) s.heap H1 locs := ⟨by have := hS.1; omega, fun q h1 h2 => (o1 q (by have := hS.1; omega)).trans (hS.2.1 q h1 h2), hS.2.2⟩
    have := hW H1 locs ls hP1 hh hS1
    dsimp only at this
    rw [hl, hz] at this
    have e1 : h.length + 1 - n0 = h.length - n0 + 1 := by omega
    have e2 : mi_z h + N - z0 = mi_z h - z0 + N := by omega
    rw [e1, e2] at this
    exact this
  · cases hf
def mi_newI (nx : Nat) : mF := fun al _ _ lo st h => match st with
  | .int n :: r => if al = true ∧ 0 ≤ n ∧ n.toNatClampNeg ≤ 1000000 then some (nx, lo, .ref h.length :: r, h ++ [.inr (.inl (List.replicate n.toNatClampNeg 0))]) else none
  | _ => none
theorem mi_newI_ok (d : decode cc pc = .ok (.newarray .int, 2)) (hA : Cond.arrayClass .int ∈ mi_good) (hn : pc + 2 = nx) : mi_Ok own cc nL ini pc (mi_newI nx) := by
  intro al LS xs lo st h x hf
  subst hn
  unfold mi_newI at hf
  split at hf
  · next n r =>
    split at hf
    · next hc0 =>
      obtain ⟨ha, hn0', hbig⟩ := hc0
      cases hf
      have hz : mi_z (h ++ [.inr (.inl (List.replicate n.toNatClampNeg 0))]) = mi_z h + n.toNatClampNeg := by rw [mi_z_push]; simp [mi_zc]
      have hl : (h ++ [(.inr (.inl (List.replicate n.toNatClampNeg 0)) : mC)]).length = h.length + 1 := by simp
      refine ⟨⟨by dsimp only; rw [hl]; omega, by dsimp only; rw [hz]; omega⟩, fun b bs cI cL D p l e R s m args below meth c Q n0 z0 X hal hn0 hz0 hc hs hW H locs ls hR hh hS => ?_⟩
      dsimp only at hc hs
      rw [hl] at hc
      rw [hz] at hs
      intro T0 hT0 X0
      have hex : H.size = b + h.length := by
        rw [← hT0]
        exact mi_exact (D := D) X0 rfl hn0 ha hal (by rw [hT0]; exact hR) (by rw [hT0]; exact hS.1)
      refine (?_ : W p l e R s m args below meth c H locs (h.length - n0) (mi_z h - z0) Q (F0 m pc ls (.int n :: r.map (mi_v b bs)))) T0 hT0 X0
      refine va_newaK (atype := .int) (N := n.toNatClampNeg) (g := F0 m pc ls (.int n :: r.map (mi_v b bs))) (rest := r.map (mi_v b bs)) X.1 X.2.1 (X.2.2.2.2.1 _ hA) rfl d rfl (Int32.not_lt.mpr hn0') rfl (by show n.toNatClampNeg * _ ≤ _; simp only [newarray.typeOf, componentBytes]; omega) (by omega) (by omega) hex (fun H1 cA e1 z1 o1 hAr hNm => ?_)
      have hcA : cA = cI := by
        have h1 := (X.2.2.2.2.2.1.1.2 0 _ rfl).2
        have h2 : s.vm.findClass ("[" ++ (.int : FieldType).toString) = some cI := h1
        exact Option.some.inj (hNm.symm.trans h2)
      rw [hcA] at e1
      have hP1 : mi_R b bs cI cL D (h ++ [.inr (.inl (List.replicate n.toNatClampNeg 0))]) H1 := by
        unfold mi_R
        rw [mi_w_push]
        have hk : ∀ (k : Nat) (x : Nat × va_E), (mi_w b bs cI cL 0 h)[k]? = some x → H1[x.1]? = H[x.1]? := fun k x hx => o1 x.1 (by have := (hR k x hx).lt; omega)
        refine (va_P.kept hR hk).app (fun k x hx => ?_)
        have hz : k < 1 := (List.getElem?_eq_some_iff.mp hx).1
        rw [show k = 0 by omega] at hx
        cases hx
        have e0 : b + (0 + h.length) = b + h.length := by omega
        show H1[b + (0 + h.length)]? = some (vp_cell _ _)
        rw [e0, e1]
        congr 1
        simp only [List.length_replicate, vp_cell]
        congr 1
        funext j
        have : (List.replicate n.toNatClampNeg (0 : Int32)).getD j 0 = 0 := by
          simp only [List.getD, List.getElem?_replicate]
          split <;> rfl
        rw [this]
        rfl
      have hS1 : va_S (fun q => b ≤ q) s.heap H1 locs := ⟨by have := hS.1; omega, fun q h1 h2 => (o1 q (by have := hS.1; omega)).trans (hS.2.1 q h1 h2), hS.2.2⟩
      have := hW H1 locs ls hP1 hh hS1
      dsimp only at this
      rw [hl, hz] at this
      have e1 : h.length + 1 - n0 = h.length - n0 + 1 := by omega
      have e2 : mi_z h + n.toNatClampNeg - z0 = mi_z h - z0 + n.toNatClampNeg := by omega
      rw [e1, e2] at this
      exact this
    · cases hf
  · cases hf
def mi_newL (nx : Nat) : mF := fun al _ _ lo st h => match st with
  | .int n :: r => if al = true ∧ 0 ≤ n ∧ n.toNatClampNeg ≤ 1000000 then some (nx, lo, .ref h.length :: r, h ++ [.inr (.inr (List.replicate n.toNatClampNeg 0))]) else none
  | _ => none
theorem mi_newL_ok (d : decode cc pc = .ok (.newarray .long, 2)) (hA : Cond.arrayClass .long ∈ mi_good) (hn : pc + 2 = nx) : mi_Ok own cc nL ini pc (mi_newL nx) := by
  intro al LS xs lo st h x hf
  subst hn
  unfold mi_newL at hf
  split at hf
  · next n r =>
    split at hf
    · next hc0 =>
      obtain ⟨ha, hn0', hbig⟩ := hc0
      cases hf
      have hz : mi_z (h ++ [.inr (.inr (List.replicate n.toNatClampNeg 0))]) = mi_z h + n.toNatClampNeg := by rw [mi_z_push]; simp [mi_zc]
      have hl : (h ++ [(.inr (.inr (List.replicate n.toNatClampNeg 0)) : mC)]).length = h.length + 1 := by simp
      refine ⟨⟨by dsimp only; rw [hl]; omega, by dsimp only; rw [hz]; omega⟩, fun b bs cI cL D p l e R s m args below meth c Q n0 z0 X hal hn0 hz0 hc hs hW H locs ls hR hh hS => ?_⟩
      dsimp only at hc hs
      rw [hl] at hc
      rw [hz] at hs
      intro T0 hT0 X0
      have hex : H.size = b + h.length := by
        rw [← hT0]
        exact mi_exact (D := D) X0 rfl hn0 ha hal (by rw [hT0]; exact hR) (by rw [hT0]; exact hS.1)
      refine (?_ : W p l e R s m args below meth c H locs (h.length - n0) (mi_z h - z0) Q (F0 m pc ls (.int n :: r.map (mi_v b bs)))) T0 hT0 X0
      refine va_newaK (atype := .long) (N := n.toNatClampNeg) (g := F0 m pc ls (.int n :: r.map (mi_v b bs))) (rest := r.map (mi_v b bs)) X.1 X.2.1 (X.2.2.2.2.1 _ hA) rfl d rfl (Int32.not_lt.mpr hn0') rfl (by show n.toNatClampNeg * _ ≤ _; simp only [newarray.typeOf, componentBytes]; omega) (by omega) (by omega) hex (fun H1 cA e1 z1 o1 hAr hNm => ?_)
      have hcA : cA = cL := by
        have h1 := (X.2.2.2.2.2.1.1.2 1 _ rfl).2
        have h2 : s.vm.findClass ("[" ++ (.long : FieldType).toString) = some cL := h1
        exact Option.some.inj (hNm.symm.trans h2)
      rw [hcA] at e1
      have hP1 : mi_R b bs cI cL D (h ++ [.inr (.inr (List.replicate n.toNatClampNeg 0))]) H1 := by
        unfold mi_R
        rw [mi_w_push]
        have hk : ∀ (k : Nat) (x : Nat × va_E), (mi_w b bs cI cL 0 h)[k]? = some x → H1[x.1]? = H[x.1]? := fun k x hx => o1 x.1 (by have := (hR k x hx).lt; omega)
        refine (va_P.kept hR hk).app (fun k x hx => ?_)
        have hz : k < 1 := (List.getElem?_eq_some_iff.mp hx).1
        rw [show k = 0 by omega] at hx
        cases hx
        have e0 : b + (0 + h.length) = b + h.length := by omega
        show H1[b + (0 + h.length)]? = some (vp_cell _ _)
        rw [e0, e1]
        congr 1
        simp only [List.length_replicate, vp_cell]
        congr 1
        funext j
        have : (List.replicate n.toNatClampNeg (0 : Int64)).getD j 0 = 0 := by
          simp only [List.getD, List.getElem?_replicate]
          split <;> rfl
        rw [this]
        rfl
      have hS1 : va_S (fun q => b ≤ q) s.heap H1 locs := ⟨by have := hS.1; omega, fun q h1 h2 => (o1 q (by have := hS.1; omega)).trans (hS.2.1 q h1 h2), hS.2.2⟩
      have := hW H1 locs ls hP1 hh hS1
      dsimp only at this
      rw [hl, hz] at this
      have e1 : h.length + 1 - n0 = h.length - n0 + 1 := by omega
      have e2 : mi_z h + n.toNatClampNeg - z0 = mi_z h - z0 + n.toNatClampNeg := by omega
      rw [e1, e2] at this
      exact this
    · cases hf
  · cases hf
def mi_sw (t : Int32 → Nat) : mF := fun _ _ _ lo st h => match st with
  | .int x :: r => some (t x, lo, r, h)
  | _ => none
def mi_tab (lo hi : Int) (ts : List Nat) (d : Nat) (x : Int32) : Nat := if x.toInt < lo ∨ hi < x.toInt then d else ts.getD (x.toInt - lo).toNat d
def mi_look (ps : List (Int × Nat)) (d : Nat) (x : Int32) : Nat := match ps with
  | [] => d
  | q :: t => if x.toInt = q.1 then q.2 else mi_look t d x
theorem mi_tab_ok {dflt lo0 hi0 : Int} {offs : Array Int} {len : Nat} {ts : List Nat} {dt : Nat} (d : decode cc pc = .ok (.tableswitch dflt lo0 hi0 offs, len)) (hd : (pc : Int) + dflt = (dt : Int)) (hlen : (ts.length : Int) = hi0 - lo0 + 1) (hts : offs.toList.map (fun o => (pc : Int) + o) = ts.map (fun (t : Nat) => (t : Int))) : mi_Ok own cc nL ini pc (mi_sw (mi_tab lo0 hi0 ts dt)) := by
  intro al LS xs lo st h x hf
  unfold mi_sw at hf
  split at hf
  · next x0 r =>
    cases hf
    refine ⟨⟨Nat.le_refl _, Nat.le_refl _⟩, fun b bs cI cL D p l e R s m args below meth c Q n0 z0 X hal _ _ _ _ hW H locs ls hR hh hS => ?_⟩
    have hW1 := hW H locs ls hR hh hS
    dsimp only at hW1
    by_cases hc : x0.toInt < lo0 ∨ hi0 < x0.toInt
    · refine lv_tableOut X.1 X.2.1 d hc hd ?_
      rw [show mi_tab lo0 hi0 ts dt x0 = dt from if_pos hc] at hW1
      exact hW1
    · have h1 : ¬ x0.toInt < lo0 := fun q => hc (Or.inl q)
      have h2 : ¬ hi0 < x0.toInt := fun q => hc (Or.inr q)
      have hj : (x0.toInt - lo0).toNat < ts.length := by omega
      have hk := congrArg (fun z => z[(x0.toInt - lo0).toNat]?) hts
      simp only [List.getElem?_map, List.getElem?_eq_getElem hj, Option.map_some] at hk
      cases ho : offs.toList[(x0.toInt - lo0).toNat]? with
      | none => rw [ho] at hk; cases hk
      | some off =>
        rw [ho] at hk
        have hk1 : (pc : Int) + off = ((ts[(x0.toInt - lo0).toNat] : Nat) : Int) := Option.some.inj hk
        refine lv_tableIn (off := off) X.1 X.2.1 d h1 h2 (by rw [← Array.getElem?_toList]; exact ho) hk1 ?_
        have e1 : mi_tab lo0 hi0 ts dt x0 = ts[(x0.toInt - lo0).toNat] := by
          unfold mi_tab
          rw [if_neg hc, List.getD, List.getElem?_eq_getElem hj]
          rfl
        rw [e1] at hW1
        exact hW1
  · cases hf
theorem mi_look_ok {dflt : Int} {ps : Array (Int × Int)} {len : Nat} {ts : List (Int × Nat)} {dt : Nat} (d : decode cc pc = .ok (.lookupswitch dflt ps, len)) (hp : (ps.toList.zip (ps.toList.drop 1)).all (fun (a, next) => a.1 < next.1) = true)
    (ho : ∀ x : Int32, (pc : Int) + Op.lookupswitch.offset ps.toList dflt x.toInt = (mi_look ts dt x : Int)) : mi_Ok own cc nL ini pc (mi_sw (mi_look ts dt)) := by
  intro al LS xs lo st h x hf
  unfold mi_sw at hf
  split at hf
  · next x0 r =>
    cases hf
    refine ⟨⟨Nat.le_refl _, Nat.le_refl _⟩, fun b bs cI cL D p l e R s m args below meth c Q n0 z0 X hal _ _ _ _ hW H locs ls hR hh hS => ?_⟩
    exact lv_lookup X.1 X.2.1 d hp rfl (ho x0) (hW H locs ls hR hh hS)
  · cases hf
def mi_obj (nx : Nat) : mF := fun _ _ _ lo st h => match st with
  | .ref _ :: r => if (r.map (fun v => v.category)).sum ≤ 20 then some (nx, lo, r, h) else none
  | _ => none
theorem mi_sum (b bs : Nat) (r : List Value) : ((r.map (mi_v b bs)).map (fun v => v.category)).sum = (r.map (fun v => v.category)).sum := by
  rw [List.map_map]
  congr 1
  exact List.map_congr_left (fun v _ => mi_v_cat b bs v)
theorem mi_obj_ok {index : Nat} (d : decode cc pc = .ok (.invokespecial index, 3)) (hl : Cond.methodLink own index objectInit ∈ mi_good) (hi : Cond.instanceMethod objectInit ∈ mi_good) (hc : Cond.code objectInit ⟨#[0xb1]⟩ 1 none ∈ mi_good) (hn : pc + 3 = nx) : mi_Ok own cc nL ini pc (mi_obj nx) := by
  intro al LS xs lo st h x hf
  subst hn
  unfold mi_obj at hf
  split at hf
  · next a r =>
    split at hf
    · next hr =>
      cases hf
      refine ⟨⟨Nat.le_refl _, Nat.le_refl _⟩, fun b bs cI cL D p l e R s m args below meth c Q n0 z0 X hal _ _ _ _ hW H locs ls hR hh hS => ?_⟩
      refine W.objInit (a := b + a) (rest := r.map (mi_v b bs)) X.1 X.2.1 X.2.2.2.1 (X.2.2.2.2.1 _ hl) (X.2.2.2.2.1 _ hi) (X.2.2.2.2.1 _ hc) rfl (by show ls.size = _; rw [hh.1, X.2.2.1]) rfl d X.2.2.2.2.2.2.2.2.2.1 (by
        show 2 * 0 + _ + 12 ≤ _
        rw [mi_sum]
        have := X.2.2.2.2.2.2.2.2.2.2.1
        omega) ?_
      exact hW H locs ls hR hh hS
    · cases hf
  · cases hf
def mi_mx (op : Int32 → Int32 → Int32) (nx : Nat) : mF := fun _ _ _ lo st h => match st with
  | .int y :: .int x :: r => if (r.map (fun v => v.category)).sum ≤ 20 then some (nx, lo, .int (op x y) :: r, h) else none
  | _ => none
theorem mi_mmax_ok {index : Nat} (d : decode cc pc = .ok (.invokestatic index, 3)) (hl : Cond.methodLink own index Lib.Math.max.name ∈ mi_good) (hs : Cond.static Lib.Math.max.name ∈ mi_good) (hi : Cond.initialized "java/lang/Math" ∈ mi_good) (hc : Cond.code Lib.Math.max.name Lib.Math.max.code 2 (some .int) ∈ mi_good) (hn : pc + 3 = nx) : mi_Ok own cc nL ini pc (mi_mx (fun x y => if x < y then y else x) nx) := by
  intro al LS xs lo st h x hf
  subst hn
  unfold mi_mx at hf
  split at hf
  · next y0 x0 r =>
    split at hf
    · next hr =>
      cases hf
      refine ⟨⟨Nat.le_refl _, Nat.le_refl _⟩, fun b bs cI cL D p l e R s m args below meth c Q n0 z0 X hal _ _ hcc hss hW H locs ls hR hh hS => ?_⟩
      refine va_mmax X.1 X.2.1 (by rw [X.2.2.1, hh.1]) X.2.2.2.1 (X.2.2.2.2.1 _ hl) (X.2.2.2.2.1 _ hs) (X.2.2.2.2.1 _ hi) (X.2.2.2.2.1 _ hc) X.2.2.2.2.2.2.2.2.2.1 (by
        rw [mi_sum]
        have := X.2.2.2.2.2.2.2.2.2.2.1
        omega) hcc hss d ?_
      exact hW H locs ls hR hh hS
    · cases hf
  · cases hf
theorem mi_mmin_ok {index : Nat} (d : decode cc pc = .ok (.invokestatic index, 3)) (hl : Cond.methodLink own index Lib.Math.min.name ∈ mi_good) (hs : Cond.static Lib.Math.min.name ∈ mi_good) (hi : Cond.initialized "java/lang/Math" ∈ mi_good) (hc : Cond.code Lib.Math.min.name Lib.Math.min.code 2 (some .int) ∈ mi_good) (hn : pc + 3 = nx) : mi_Ok own cc nL ini pc (mi_mx (fun x y => if y < x then y else x) nx) := by
  intro al LS xs lo st h x hf
  subst hn
  unfold mi_mx at hf
  split at hf
  · next y0 x0 r =>
    split at hf
    · next hr =>
      cases hf
      refine ⟨⟨Nat.le_refl _, Nat.le_refl _⟩, fun b bs cI cL D p l e R s m args below meth c Q n0 z0 X hal _ _ hcc hss hW H locs ls hR hh hS => ?_⟩
      refine va_mmin X.1 X.2.1 (by rw [X.2.2.1, hh.1]) X.2.2.2.1 (X.2.2.2.2.1 _ hl) (X.2.2.2.2.1 _ hs) (X.2.2.2.2.1 _ hi) (X.2.2.2.2.1 _ hc) X.2.2.2.2.2.2.2.2.2.1 (by
        rw [mi_sum]
        have := X.2.2.2.2.2.2.2.2.2.2.1
        omega) hcc hss d ?_
      exact hW H locs ls hR hh hS
    · cases hf
  · cases hf
end MI4
end
section
/-! RUNS of the small machine; methods; that a run is the machine's. -/
section MI5
/-- a call: the method's number, how many values, the receiver's kind, what a thrown exception answers -/
abbrev mA : Type := Nat × Nat × Option Nat × List (String × Int32)
abbrev mE : Type := mF ⊕ (Nat ⊕ (mA ⊕ String))
abbrev mT : Type := List (Nat × mE)
/-- a method: name, bytes, locals, answer's type, table of handlers, code -/
abbrev mD : Type := MethodName × ByteArray × Nat × Option FieldType × List (Nat × Nat × Nat × Nat) × mT
abbrev mQ : Type := Nat → List Value → mH → mR × mH → Prop
def mi_fnd : mT → Nat → Option mE
  | [], _ => none
  | q :: t, pc => if q.1 = pc then some q.2 else mi_fnd t pc
theorem mi_fnd_mem : ∀ (t : mT) (pc : Nat) (i : mE), mi_fnd t pc = some i → (pc, i) ∈ t
  | [], pc, i, h => by simp [mi_fnd] at h
  | q :: t, pc, i, h => by
    unfold mi_fnd at h
    split at h
    · next hq =>
      cases h
      subst hq
      exact List.mem_cons_self
    · exact List.mem_cons_of_mem _ (mi_fnd_mem t pc i h)
def mi_ret (k : Nat) (st : List Value) : Option (Option Value) := match k, st with
  | 0, [] => some none
  | 1, [.int x] => some (some (.int x))
  | 2, [.int x] => if x = 0 ∨ x = 1 then some (some (.int x)) else none
  | 3, [.ref a] => some (some (.ref a))
  | _, _ => none
/-- the receiver is an object of that kind -/
def mi_rcv (rk : Option Nat) (As : List Value) (h : mH) : Prop := match rk with
  | none => True
  | some ci => ∃ a fs, As.head? = some (.ref a) ∧ h[a]? = some (.inl (ci, fs))
def mi_aft (hs : List (String × Int32)) (x r : mR × mH) (K : Option Value → Prop) : Prop := match x.1 with
  | .inl v => K v
  | .inr E => match hs.lookup E with
    | some n => r = (.inl (some (.int n)), x.2)
    | none => hs = [] ∧ r = (.inr E, x.2)
def mi_run (t : mT) (al : Bool) (LS : Nat) (xs : Nat → Int32) (Call : mQ) : Nat → mS → mR × mH → Prop
  | 0, _, _ => False
  | n + 1, x, r => match mi_fnd t x.1 with
    | none => False
    | some (.inl f) => ∃ y, f al LS xs x.2.1 x.2.2.1 x.2.2.2 = some y ∧ mi_run t al LS xs Call n y r
    | some (.inr (.inl k)) => ∃ v, mi_ret k x.2.2.1 = some v ∧ r = (.inl v, x.2.2.2)
    | some (.inr (.inr (.inl c))) => ∃ As rest x1, x.2.2.1 = As.reverse ++ rest ∧ As.length = c.2.1 ∧ (rest.map (fun v => v.category)).sum ≤ 8 ∧ mi_rcv c.2.2.1 As x.2.2.2 ∧ Call c.1 As x.2.2.2 x1 ∧ mi_aft c.2.2.2 x1 r (fun v => mi_run t al LS xs Call n (x.1 + 3, x.2.1, v.toList ++ rest, x1.2) r)
    | some (.inr (.inr (.inr E))) => al = false ∧ r = (.inr E, x.2.2.2)
def mi_sl : List Value → mL
  | [] => []
  | v :: l => (if v.category = 2 then [some v, none] else [some v]) ++ mi_sl l
def mi_ent (nL : Nat) (As : List Value) : mL := mi_sl As ++ List.replicate (nL - (mi_sl As).length) none
def mi_call (Ms : List mD) (al : Bool) (LS : Nat) (xs : Nat → Int32) : Nat → mQ
  | 0, _, _, _, _ => False
  | d + 1, y, As, h, r => match Ms[y]? with
    | none => False
    | some M => (mi_sl As).length ≤ M.2.2.1 ∧ ∃ n, mi_run M.2.2.2.2.2 al LS xs (mi_call Ms al LS xs d) n (0, mi_ent M.2.2.1 As, [], h) r
theorem mi_sl_len {b bs : Nat} : ∀ (vs : List Value), (lg_sl (vs.map (mi_v b bs))).length = (mi_sl vs).length
  | [] => rfl
  | v :: l => by
    have h1 := mi_sl_len (b := b) (bs := bs) l
    unfold lg_sl at h1 ⊢
    simp only [List.map_cons, List.flatMap_cons, List.length_append, mi_sl, mi_v_cat, h1]
    by_cases hc : v.category = 2
    · simp [hc]
    · simp [hc]
theorem mi_sl_get {b bs : Nat} : ∀ (vs : List Value) (i : Nat) (v : Value), (mi_sl vs)[i]? = some (some v) → (lg_sl (vs.map (mi_v b bs)))[i]? = some (.val (mi_v b bs v))
  | [], i, v, h => by simp [mi_sl] at h
  | w :: l, i, v, h => by
    have ih := mi_sl_get (b := b) (bs := bs) l
    unfold lg_sl at ih ⊢
    simp only [List.map_cons, List.flatMap_cons, mi_sl, mi_v_cat] at h ⊢
    by_cases hc : w.category = 2
    · simp only [hc, if_true] at h ⊢
      match i, h with
      | 0, h => simp at h; subst h; simp
      | 1, h => simp at h
      | i + 2, h => simpa using ih i v (by simpa using h)
    · simp only [hc, if_false] at h ⊢
      match i, h with
      | 0, h => simp at h; subst h; simp
      | i + 1, h => simpa using ih i v (by simpa using h)
theorem mi_ent_has {b bs nL : Nat} {As : List Value} (h : (mi_sl As).length ≤ nL) : mi_has b bs ((lg_sl (As.map (mi_v b bs)) ++ List.replicate (nL - (lg_sl (As.map (mi_v b bs))).length) Slot.unset).toArray) nL (mi_ent nL As) := by
  have hl := lv_entry (As.map (mi_v b bs)) (n := nL) (by rw [mi_sl_len]; exact h)
  refine ⟨hl.1, hl.2.1, fun i v hi => ?_⟩
  unfold mi_ent at hi
  by_cases hc : i < (mi_sl As).length
  · rw [List.getElem?_append_left hc] at hi
    have := mi_sl_get (b := b) (bs := bs) As i v hi
    rw [List.getElem?_toArray, List.getElem?_append_left (by rw [mi_sl_len]; exact hc)]
    exact this
  · rw [List.getElem?_append_right (by omega), List.getElem?_replicate] at hi
    split at hi
    · cases hi
    · cases hi
/-- how a method starts and ends -/
def mi_Pc (al : Bool) (b bs : Nat) (cI cL : ClassId) (D : va_G) (LS : Nat) (xs : Nat → Int32) (As : List Value) (h : mH) : Array Value → State → Prop := fun a U =>
  a = (As.map (mi_v b bs)).toArray ∧ mi_R b bs cI cL D h U.heap ∧ mi_K b bs cI cL D LS xs U ∧ b ≤ U.heap.size ∧ (al = true → U.heap.size = b + h.length)
def mi_Qc (b bs : Nat) (cI cL : ClassId) (D : va_G) (v : Option Value) (h : mH) : Array Value → State → Outcome → State → Prop := fun _ st oc t =>
  (oc = .returned (v.map (mi_v b bs)) ∧ mi_R b bs cI cL D h t.heap) ∧ va_F (fun q => b ≤ q) st t
theorem mi_Pc.blind {al : Bool} {b bs : Nat} {cI cL : ClassId} {D : va_G} {LS : Nat} {xs : Nat → Int32} {As : List Value} {h : mH} : FrameBlind (mi_Pc al b bs cI cL D LS xs As h) := by
  intro a U g mk q
  obtain ⟨q1, q2, q3, q4, q5⟩ := q
  exact ⟨q1, q2, q3.calling g mk a, q4, q5⟩
def mi_rm (d mc ms : Nat) : Room := { frames := d + 6, cells := mc, slots := ms, locals := 40 * d + 200 }
def mi_ws (M : mD) : List Cond := .code M.1 M.2.1 M.2.2.1 M.2.2.2.1 :: mi_good
/-- a method of the list: its words -/
def mi_OkM (M : mD) : Prop := plainName M.1.cls = true ∧ Cond.code M.1 M.2.1 M.2.2.1 M.2.2.2.1 ∈ mi_good ∧ Cond.initialized M.1.cls ∈ mi_good ∧ M.2.2.1 ≤ 20 ∧ M.1.cls ≠ "java/lang/invoke/MethodHandle" ∧ M.1.cls ≠ "java/lang/invoke/VarHandle"
/-- a call's site -/
def mi_OkC (Ms : List mD) (own : String) (cc : ByteArray) (pc : Nat) (c : mA) : Prop := ∃ M : mD, Ms[c.1]? = some M ∧ mi_OkM M ∧ ∃ index n : Nat, (parseMethodDescriptor M.1.desc).map (fun d => d.parameters.length) = some n ∧
  ((decode cc pc = .ok (.invokevirtual index, 3) ∧ c.2.1 = n + 1 ∧ Cond.methodLink own index M.1 ∈ mi_good ∧ Cond.instanceMethod M.1 ∈ mi_good ∧ Cond.selects M.1.cls M.1 M.1 ∈ mi_good ∧ ∃ ci T N, c.2.2.1 = some ci ∧ mi_cl[ci]? = some (M.1.cls, T, N)) ∨
   (decode cc pc = .ok (.invokespecial index, 3) ∧ c.2.1 = n + 1 ∧ Cond.methodLink own index M.1 ∈ mi_good ∧ Cond.instanceMethod M.1 ∈ mi_good ∧ M.1.name = "<init>" ∧ M.2.2.2.1 = none ∧ ∃ ci, c.2.2.1 = some ci) ∨
   (decode cc pc = .ok (.invokestatic index, 3) ∧ c.2.1 = n ∧ Cond.static M.1 ∈ mi_good ∧ (Cond.methodLink own index M.1 ∈ mi_good ∨ ∃ host, Cond.methodLinkNest own index M.1 host ∈ mi_nw)))
def mi_OkR (ret : Option FieldType) (cc : ByteArray) (pc k : Nat) : Prop :=
  (k = 0 ∧ decode cc pc = .ok (.return_, 1) ∧ ret = none) ∨ (k = 1 ∧ decode cc pc = .ok (.ireturn, 1) ∧ ret = some .int) ∨ (k = 2 ∧ decode cc pc = .ok (.ireturn, 1) ∧ ret = some .boolean) ∨ (k = 3 ∧ decode cc pc = .ok (.areturn, 1) ∧ ∃ n, ret = some (.object n))
end MI5
end
section
section MI6
variable {p : Program} {l : Launch} {e : Env} {R : Room} {s : State} {m : MethodId} {args : Array Value} {below : List Frame} {meth : Method} {c : Code} {H : Heap} {locs : List Loc} {cells slots : Nat} {Q : State → Prop}
variable {al : Bool} {b bs : Nat} {cI cL : ClassId} {D : va_G} {LS : Nat} {xs : Nat → Int32} {own : String} {cc : ByteArray} {nL : Nat} {ini : Bool}
/-- behind a call that returned -/
theorem mi_callk {mc ms pc : Nat} {ls : Array Slot} {st0 rest : List Value} {v : Option Value} {h1 : mH} {a : Array Value} (hr : va_Run p l e R s m args below meth c H locs cells slots mc ms (F0 m pc ls st0) rest (mi_Qc b bs cI cL D v h1 a) (fun q => b ≤ q)) (hS : va_S (fun q => b ≤ q) s.heap H locs)
    (kk : ∀ (H1 : Heap) (locs1 : List Loc), mi_R b bs cI cL D h1 H1 → va_S (fun q => b ≤ q) s.heap H1 locs1 → W p l e R s m args below meth c H1 locs1 (cells + mc) (slots + ms) Q (F0 m (pc + 3) ls ((v.map (mi_v b bs)).toList ++ rest))) : W p l e R s m args below meth c H locs cells slots Q (F0 m pc ls st0) := by
  intro T hT X
  obtain ⟨v0, st₀, t, T', L, h0, X', hL, e1, e2, ⟨⟨hv, hb⟩, hz, hk⟩, st⟩ := hr T hT X
  cases hv
  rw [h0] at hz hk
  obtain ⟨t2, a1, b1⟩ := kk T'.heap (locs ++ L) (by rw [e1]; exact hb)
    ⟨Nat.le_trans hS.1 (by rw [e1]; exact hz), fun q h1 h2 => by rw [e1, hk q (Nat.lt_of_lt_of_le h1 hS.1) h2]; exact hS.2.1 q h1 h2, fun q hq => by
      rcases List.mem_append.mp hq with h | h
      · exact hS.2.2 q h
      · exact hL q h⟩ T' rfl X'
  exact ⟨t2, st t2 a1, b1⟩
theorem mi_goodIn {M : mD} (hM : mi_OkM M) : GoodIn mi_good (mi_ws M) := by
  intro w hw
  rcases List.mem_cons.mp hw with rfl | hw
  · exact ⟨hM.2.1, good_of_word (mi_good_ok hM.2.1)⟩
  · exact ⟨hw, good_of_word (mi_good_ok hw)⟩
/-- a call at its site, of a method with a contract, returning -/
theorem mi_callW {Ms : List mD} {pc d : Nat} {ca : mA} {M : mD} {As rest : List Value} {h h1 : mH} {v : Option Value} {n0 z0 : Nat} {lo : mL}
    (X : mi_X b bs cI cL D LS xs own cc nL ini p l R s m args meth c) (hal : al = true → s.heap.size = b + n0) (hC : mi_OkC Ms own cc pc ca) (hMs : Ms[ca.1]? = some M)
    (hM : Met l M.1 (mi_ws M) (mi_rm d (h1.length - h.length) (mi_z h1 - mi_z h)) (mi_Pc al b bs cI cL D LS xs As h) (mi_Qc b bs cI cL D v h1) (h1.length - h.length) (mi_z h1 - mi_z h) (fun q => b ≤ q))
    (hA : As.length = ca.2.1) (hr : (rest.map (fun v => v.category)).sum ≤ 8) (hrc : mi_rcv ca.2.2.1 As h) (hf : d + 7 ≤ R.frames) (hlo : 40 * (d + 1) + 200 ≤ R.locals)
    (hn0 : n0 ≤ h.length) (hz0 : z0 ≤ mi_z h) (hl1 : h.length ≤ h1.length) (hz1 : mi_z h ≤ mi_z h1) (hcl : h1.length - n0 ≤ R.cells) (hsl : mi_z h1 - z0 ≤ R.slots)
    (kk : mi_W b bs cI cL D nL p l e R s m args below meth c Q n0 z0 (pc + 3, lo, v.toList ++ rest, h1)) : mi_W b bs cI cL D nL p l e R s m args below meth c Q n0 z0 (pc, lo, As.reverse ++ rest, h) := by
  intro H locs ls hR hh hS T0 hT0 X0
  obtain ⟨M', hM', hMok, index, n, hpar, hcase⟩ := hC
  cases hMs.symm.trans hM'
  obtain ⟨hx, hb, hml, hown, hts, hK, hbs, hnm, hlk, hfr1, hlo1, hst⟩ := X
  have hex : al = true → H.size = b + h.length := fun ha => by
    rw [← hT0]
    exact mi_exact (D := D) X0 rfl hn0 ha hal (by rw [hT0]; exact hR) (by rw [hT0]; exact hS.1)
  have hPc : ∀ U : State, U.heap = H → s.WarmedH U.vm → mi_Pc al b bs cI cL D LS xs As h (As.map (mi_v b bs)).toArray U := fun U hU hW => ⟨rfl, by rw [hU]; exact hR, hK.warm hS hU hW, by rw [hU]; exact Nat.le_trans hbs hS.1, fun ha => by rw [hU]; exact hex ha⟩
  have hG := mi_goodIn hMok
  have hR2 : (mi_rm d (h1.length - h.length) (mi_z h1 - mi_z h)).frames + 1 ≤ R.frames ∧ 8 + (M.2.2.1 + 11) + (mi_rm d (h1.length - h.length) (mi_z h1 - mi_z h)).locals ≤ R.locals := by
    have := hMok.2.2.2.1
    exact ⟨by show d + 6 + 1 ≤ _; omega, by show 8 + (M.2.2.1 + 11) + (40 * d + 200) ≤ _; omega⟩
  have hfx : CallFix p m c cc nL s args mi_good own := ⟨hx, hb, hml, hown, hts⟩
  have hroom : (h.length - n0) + (h1.length - h.length) ≤ R.cells ∧ (mi_z h - z0) + (mi_z h1 - mi_z h) ≤ R.slots := ⟨by omega, by omega⟩
  have hgo : ∀ (H1 : Heap) (locs1 : List Loc), mi_R b bs cI cL D h1 H1 → va_S (fun q => b ≤ q) s.heap H1 locs1 → W p l e R s m args below meth c H1 locs1 ((h.length - n0) + (h1.length - h.length)) ((mi_z h - z0) + (mi_z h1 - mi_z h)) Q (F0 m (pc + 3) ls ((v.map (mi_v b bs)).toList ++ rest.map (mi_v b bs))) := by
    intro H1 locs1 hR1 hS1
    have h9 := kk H1 locs1 ls hR1 hh hS1
    dsimp only at h9
    have e1 : (h.length - n0) + (h1.length - h.length) = h1.length - n0 := by omega
    have e2 : (mi_z h - z0) + (mi_z h1 - mi_z h) = mi_z h1 - z0 := by omega
    have e3 : (v.toList ++ rest).map (mi_v b bs) = (v.map (mi_v b bs)).toList ++ rest.map (mi_v b bs) := by cases v <;> simp
    rw [e1, e2, ← e3]
    exact h9
  have hd : M.1.cls ≠ "java/lang/invoke/MethodHandle" ∧ M.1.cls ≠ "java/lang/invoke/VarHandle" ∧ (parseMethodDescriptor M.1.desc).map (fun d => d.parameters.length) = some n := ⟨hMok.2.2.2.2.1, hMok.2.2.2.2.2, hpar⟩
  have hsum : ((rest.map (mi_v b bs)).map (fun v => v.category)).sum ≤ 8 := by rw [mi_sum]; exact hr
  refine (?_ : W p l e R s m args below meth c H locs (h.length - n0) (mi_z h - z0) Q (F0 m pc ls ((As.reverse ++ rest).map (mi_v b bs)))) T0 hT0 X0
  rcases hcase with ⟨dg, hcn, hl, hin, hsel, ci, T, N, hci, hcl0⟩ | ⟨dg, hcn, hl, hin, hyn, hret, ci, hci⟩ | ⟨dg, hcn, hstt, hl⟩
  · rw [hci] at hrc
    obtain ⟨a, fs, ha, hfs⟩ := hrc
    cases As with
    | nil => cases ha
    | cons w As2 =>
      simp only [List.head?_cons, Option.some.injEq] at ha
      subst ha
      have hlen : (As2.map (mi_v b bs)).length = n := by simp at hA ⊢; omega
      refine mi_callk (va_runV (As := As2.map (mi_v b bs)) (rest := rest.map (mi_v b bs)) (b := b + a) hfx hM ⟨callB_of n hts hG rfl rfl rfl (hts _ hMok.2.2.1) (hts _ hl) hd hR2, hts _ hin, hts _ hsel⟩ ⟨mi_Pc.blind, va_recv hK.1 hR hcl0 (mi_at hfs), hPc⟩ rfl hlen (by rw [hh.1]) ?_ (by show 2 * 0 + _ ≤ 8; omega) dg hroom) hS hgo
      show List.map (mi_v b bs) ((Value.ref a :: As2).reverse ++ rest) = _
      simp [mi_v]
  · rw [hci] at hrc
    obtain ⟨a, fs, ha, hfs⟩ := hrc
    cases As with
    | nil => cases ha
    | cons w As2 =>
      simp only [List.head?_cons, Option.some.injEq] at ha
      subst ha
      have hlen : (As2.map (mi_v b bs)).length = n := by simp at hA ⊢; omega
      refine mi_callk (va_runI (As := As2.map (mi_v b bs)) (rest := rest.map (mi_v b bs)) (b := b + a) (maxL := M.2.2.1) (bytes := M.2.1) hfx hM ⟨callB_of (ret := none) n hts hG (by unfold mi_ws; rw [hret]) rfl rfl (hts _ hMok.2.2.1) (hts _ hl) hd hR2, hyn, hts _ hin⟩ ⟨mi_Pc.blind, hPc⟩ rfl hlen (by rw [hh.1]) ?_ (by show 2 * 0 + _ ≤ 8; omega) dg hroom) hS hgo
      show List.map (mi_v b bs) ((Value.ref a :: As2).reverse ++ rest) = _
      simp [mi_v]
  · have hlen : (As.map (mi_v b bs)).length = n := by simp at hA ⊢; omega
    rcases hl with hl | ⟨host, hl⟩
    · refine mi_callk (va_runS (As := As.map (mi_v b bs)) (rest := rest.map (mi_v b bs)) hfx hM ⟨callB_of n hts hG rfl rfl rfl (hts _ hMok.2.2.1) (hts _ hl) hd hR2, hts _ hstt⟩ ⟨mi_Pc.blind, hPc⟩ rfl hlen (by rw [hh.1]) ?_ (by show 2 * 0 + _ ≤ 8; omega) dg hroom) hS hgo
      show List.map (mi_v b bs) (As.reverse ++ rest) = _
      simp
    · refine mi_callk (va_runSN (As := As.map (mi_v b bs)) (rest := rest.map (mi_v b bs)) hfx hM ⟨va_cnB n hts hG rfl rfl rfl (hK.2.1 _ hl) (hts _ hMok.2.2.1) hd hR2, hts _ hstt, trivial⟩ ⟨mi_Pc.blind, hPc⟩ rfl hlen (by rw [hh.1]) ?_ (by show 2 * 0 + _ ≤ 8; omega) dg hroom) hS hgo
      show List.map (mi_v b bs) (As.reverse ++ rest) = _
      simp
end MI6
end
section
section MI7
def mi_OkE (Ms : List mD) (own : String) (cc : ByteArray) (nL : Nat) (ini : Bool) (ret : Option FieldType) (q : Nat × mE) : Prop := match q.2 with
  | .inl f => mi_Ok own cc nL ini q.1 f
  | .inr (.inl k) => mi_OkR ret cc q.1 k
  | .inr (.inr (.inl ca)) => mi_OkC Ms own cc q.1 ca
  | .inr (.inr (.inr _)) => True
/-- a method's code -/
def mi_OkB (Ms : List mD) (M : mD) : Prop := ∃ ini : Bool, (ini = true → M.1.name = "<init>") ∧ (∀ q ∈ M.2.2.2.2.2, mi_OkE Ms M.1.cls M.2.1 M.2.2.1 ini M.2.2.2.1 q) ∧ ∀ pc ca, (pc, .inr (.inr (.inl ca))) ∈ M.2.2.2.2.2 → ca.2.2.2 = []
def mi_Sd (Ms : List mD) (d : Nat) : Prop := ∀ (al : Bool) (LS : Nat) (xs : Nat → Int32) (y : Nat) (M : mD) (As : List Value) (h h1 : mH) (v : Option Value), Ms[y]? = some M → mi_OkM M → mi_call Ms al LS xs d y As h (.inl v, h1) →
  (h.length ≤ h1.length ∧ mi_z h ≤ mi_z h1) ∧ ∀ (b bs : Nat) (cI cL : ClassId) (D : va_G) (l : Launch), l.stackTraces = false →
    Met l M.1 (mi_ws M) (mi_rm d (h1.length - h.length) (mi_z h1 - mi_z h)) (mi_Pc al b bs cI cL D LS xs As h) (mi_Qc b bs cI cL D v h1) (h1.length - h.length) (mi_z h1 - mi_z h) (fun q => b ≤ q)
/-- what a run that returns says: nothing of the heap is lost, and the machine goes the same way -/
theorem mi_simR {Ms : List mD} {d : Nat} (hS : mi_Sd Ms d) {t : mT} {own : String} {cc : ByteArray} {nL : Nat} {ini : Bool} {ret : Option FieldType} (hok : ∀ q ∈ t, mi_OkE Ms own cc nL ini ret q) (hno : ∀ pc ca, (pc, .inr (.inr (.inl ca))) ∈ t → ca.2.2.2 = [])
    {al : Bool} {LS : Nat} {xs : Nat → Int32} {v : Option Value} {h1 : mH} : ∀ (n : Nat) (x : mS), mi_run t al LS xs (mi_call Ms al LS xs d) n x (.inl v, h1) →
    (x.2.2.2.length ≤ h1.length ∧ mi_z x.2.2.2 ≤ mi_z h1) ∧
    ∀ (b bs : Nat) (cI cL : ClassId) (D : va_G) (p : Program) (l : Launch) (e : Env) (R : Room) (s : State) (m : MethodId) (args : Array Value) (below : List Frame) (meth : Method) (c : Code) (Q : State → Prop) (n0 z0 : Nat),
      mi_X b bs cI cL D LS xs own cc nL ini p l R s m args meth c → (al = true → s.heap.size = b + n0) → d + 7 ≤ R.frames → 40 * (d + 1) + 200 ≤ R.locals → n0 ≤ x.2.2.2.length → z0 ≤ mi_z x.2.2.2 → h1.length - n0 ≤ R.cells → mi_z h1 - z0 ≤ R.slots →
      (∀ (pc k : Nat) (lo : mL) (st : List Value), (pc, .inr (.inl k)) ∈ t → mi_ret k st = some v → mi_W b bs cI cL D nL p l e R s m args below meth c Q n0 z0 (pc, lo, st, h1)) →
      mi_W b bs cI cL D nL p l e R s m args below meth c Q n0 z0 x := by
  intro n
  induction n with
  | zero => intro x hx; exact absurd hx (by simp [mi_run])
  | succ n ih =>
    intro x hx
    obtain ⟨pc, lo, st, h⟩ := x
    unfold mi_run at hx
    split at hx
    · exact absurd hx id
    · next f hf =>
      obtain ⟨y, hy, hrun⟩ := hx
      have hq := hok _ (mi_fnd_mem t _ _ hf)
      have hm := hq al LS xs _ _ _ _ hy
      have hi := ih y hrun
      refine ⟨⟨Nat.le_trans hm.1.1 hi.1.1, Nat.le_trans hm.1.2 hi.1.2⟩, ?_⟩
      intro b bs cI cL D p l e R s m args below meth c Q n0 z0 X hal hfr hlo hn0 hz0 hcl hsl hret
      have m1 := hm.1.1
      have m2 := hm.1.2
      have m3 := hi.1.1
      have m4 := hi.1.2
      refine hm.2 b bs cI cL D p l e R s m args below meth c Q n0 z0 X hal hn0 hz0 (by omega) (by omega) ?_
      exact hi.2 b bs cI cL D p l e R s m args below meth c Q n0 z0 X hal hfr hlo (by dsimp only at hn0 m1; omega) (by dsimp only at hz0 m2; omega) hcl hsl hret
    · next k hf =>
      obtain ⟨w, hw, hr⟩ := hx
      simp only [Prod.mk.injEq, Sum.inl.injEq] at hr
      obtain ⟨rfl, rfl⟩ := hr
      refine ⟨⟨Nat.le_refl _, Nat.le_refl _⟩, ?_⟩
      intro b bs cI cL D p l e R s m args below meth c Q n0 z0 X hal hfr hlo hn0 hz0 hcl hsl hret
      exact hret pc k lo st (mi_fnd_mem t _ _ hf) hw
    · next ca hf =>
      obtain ⟨As, rest, x1, hst, hA, hsum, hrc, hcall, haft⟩ := hx
      have hmem := mi_fnd_mem t _ _ hf
      have hq : mi_OkC Ms own cc pc ca := hok _ hmem
      have hnil := hno _ _ hmem
      obtain ⟨r1, h2⟩ := x1
      unfold mi_aft at haft
      cases r1 with
      | inr E =>
        dsimp only at haft
        rw [hnil] at haft
        simp at haft
      | inl w =>
        dsimp only at haft
        obtain ⟨M, hMs, hMok, hrest⟩ := id hq
        have hc := hS al LS xs ca.1 M As h h2 w hMs hMok hcall
        have hi := ih _ haft
        have m1 := hc.1.1
        have m2 := hc.1.2
        have m3 := hi.1.1
        have m4 := hi.1.2
        dsimp only at m3 m4
        refine ⟨⟨Nat.le_trans m1 m3, Nat.le_trans m2 m4⟩, ?_⟩
        intro b bs cI cL D p l e R s m args below meth c Q n0 z0 X hal hfr hlo hn0 hz0 hcl hsl hret
        dsimp only at hst hn0 hz0
        subst hst
        refine mi_callW X hal hq hMs (hc.2 b bs cI cL D l X.2.2.2.2.2.2.2.2.2.2.2) hA hsum hrc hfr hlo hn0 hz0 m1 m2 (by omega) (by omega) ?_
        exact hi.2 b bs cI cL D p l e R s m args below meth c Q n0 z0 X hal hfr hlo (by dsimp only; omega) (by dsimp only; omega) hcl hsl hret
    · next E hf =>
      obtain ⟨-, hr⟩ := hx
      simp at hr
/-- a method's return -/
theorem mi_retW {ret : Option FieldType} {cc : ByteArray} {pc k : Nat} (hq : mi_OkR ret cc pc k) {st : List Value} {v : Option Value} (hv : mi_ret k st = some v) {b bs : Nat} {cI cL : ClassId} {D : va_G} {nL : Nat} {p : Program} {l : Launch} {e : Env} {R : Room} {s : State} {m : MethodId} {args : Array Value} {below : List Frame} {meth : Method} {c : Code} {n0 z0 : Nat} {lo : mL} {h1 : mH}
    (hx : p.tables.exec = Jvm.exec) (hb : c.code = cc) (hr : meth.sig.returnType = ret) (hlk : meth.locks = false) :
    mi_W b bs cI cL D nL p l e R s m args below meth c (MQ below (mi_Qc b bs cI cL D v h1) args s (h1.length - n0) (mi_z h1 - z0) (fun q => b ≤ q)) n0 z0 (pc, lo, st, h1) := by
  intro H locs ls hR hh hS
  have hQ : ∀ t : State, t.heap = H → s.WarmedH t.vm → mi_Qc b bs cI cL D v h1 args s (.returned (v.map (mi_v b bs))) t := fun t ht _ => ⟨⟨rfl, by rw [ht]; exact hR⟩, hS.F ht⟩
  rcases hq with ⟨rfl, d, rfl⟩ | ⟨rfl, d, rfl⟩ | ⟨rfl, d, rfl⟩ | ⟨rfl, d, nn, rfl⟩
  · unfold mi_ret at hv
    split at hv <;> first | (cases hv; done) | skip
    all_goals first | (rename_i hk; cases hk; done) | skip
    all_goals (cases hv; exact W.vret hx hb hr hQ hS.2.2 d hlk)
  · unfold mi_ret at hv
    split at hv <;> first | (cases hv; done) | skip
    all_goals first | (rename_i hk; cases hk; done) | skip
    all_goals (cases hv; exact W.iret hx hb hr hQ hS.2.2 d hlk)
  · unfold mi_ret at hv
    split at hv <;> first | (cases hv; done) | skip
    all_goals first | (rename_i hk; cases hk; done) | skip
    all_goals
      split at hv
      · next hc =>
        cases hv
        refine W.zret hx hb hr ?_ hQ hS.2.2 d hlk
        rcases hc with rfl | rfl <;> decide
      · cases hv
  · unfold mi_ret at hv
    split at hv <;> first | (cases hv; done) | skip
    all_goals first | (rename_i hk; cases hk; done) | skip
    all_goals (cases hv; exact W.aret hx hb hr (Or.inl ⟨_, rfl⟩) (Or.inr ⟨_, rfl⟩) hQ hS.2.2 d hlk)
/-- THE SMALL MACHINE IS SOUND, for methods that return -/
theorem mi_sound {Ms : List mD} (hAll : ∀ (y : Nat) (M : mD), Ms[y]? = some M → mi_OkM M → mi_OkB Ms M) : ∀ d, mi_Sd Ms d := by
  intro d
  induction d with
  | zero => intro al LS xs y M As h h1 v _ _ hc; exact absurd hc (by simp [mi_call])
  | succ d ih =>
    intro al LS xs y M As h h1 v hMs hMok hc
    unfold mi_call at hc
    rw [hMs] at hc
    obtain ⟨hlen, n, hrun⟩ := hc
    obtain ⟨ini, hini, hok, hno⟩ := hAll y M hMs hMok
    have hsim := mi_simR ih hok hno n _ hrun
    refine ⟨hsim.1, ?_⟩
    intro b bs cI cL D l htr
    refine Met.ofW (cc := M.2.1) (maxL := M.2.2.1) (ret := M.2.2.2.1) hMok.1 rfl ?_
    intro p e s m args below meth c s₁ B hml hv
    obtain ⟨rfl, hR, hK, hbs, hex⟩ := hv
    have hts := atoms_spec (ws := mi_ws M) B.pre
    have hown : s.vm.findClass M.1.cls = some m.cls := findClass_of_methodNamed B.named
    have hx : mi_X b bs cI cL D LS xs M.1.cls M.2.1 M.2.2.1 ini p l (mi_rm (d + 1) (h1.length - h.length) (mi_z h1 - mi_z h)) s m (As.map (mi_v b bs)).toArray meth c := by
      refine ⟨B.exec, B.bytes, hml, hown, fun w hw => hts w (List.mem_cons_of_mem _ hw), hK, hbs, fun hi => ?_, B.notSynchronized, ?_, ?_, htr⟩
      · rw [← hini hi]
        exact (name_of_methodNamed B.named B.method).1
      · show 1 ≤ d + 1 + 6; omega
      · show 40 ≤ 40 * (d + 1) + 200; omega
    have hgo := hsim.2 b bs cI cL D p l e (mi_rm (d + 1) (h1.length - h.length) (mi_z h1 - mi_z h)) s m (As.map (mi_v b bs)).toArray below meth c (MQ below (mi_Qc b bs cI cL D v h1) (As.map (mi_v b bs)).toArray s (h1.length - h.length) (mi_z h1 - mi_z h) (fun q => b ≤ q)) h.length (mi_z h) hx hex (by show d + 7 ≤ d + 1 + 6; omega) (by show 40 * (d + 1) + 200 ≤ 40 * (d + 1) + 200; omega) (Nat.le_refl _) (Nat.le_refl _) (Nat.le_refl _) (Nat.le_refl _)
      (fun pc k lo st hm hr => mi_retW (hok _ hm) hr B.exec B.bytes B.returns B.notSynchronized)
    rw [lg_entry_eq]
    have h9 := hgo s.heap [] _ hR (mi_ent_has hlen) va_S.rf
    dsimp only at h9
    rw [Nat.sub_self, Nat.sub_self] at h9
    exact h9
end MI7
end
section
section MI8
def t_X0_init : mT := [(0, .inl (mi_ald 0 1)), (1, .inl (mi_obj 4)), (4, .inl (mi_ald 0 5)), (5, .inl (mi_ald 1 6)), (6, .inl (mi_put 0 0 (.object "GraphTexts$Row") 9)), (9, .inl (mi_ald 0 10)), (10, .inl (mi_push (.int 0) 11)), (11, .inl (mi_put 0 1 .int 14)), (14, .inl (mi_ald 0 15)), (15, .inl (mi_push (.int (-1)) 16)), (16, .inl (mi_put 0 2 .int 19)), (19, .inl (mi_ald 0 20)), (20, .inl (mi_push (.int 0) 21)), (21, .inl (mi_put 0 3 .int 24)), (24, .inl (mi_ald 0 25)), (25, .inl (mi_push (.int 0) 26)), (26, .inl (mi_put 0 4 .int 29)), (29, .inl (mi_ald 0 30)), (30, .inl (mi_push (.int 0) 31)), (31, .inl (mi_put 0 5 .int 34)), (34, .inl (mi_ald 0 35)), (35, .inl (mi_push (.int 0) 36)), (36, .inl (mi_put 0 6 .int 39)), (39, .inl (mi_ald 0 40)), (40, .inl (mi_push (.int 0) 41)), (41, .inl (mi_put 0 7 .int 44)), (44, .inr (.inl 0))]
def m_X0_init : mD := (yX0_init, cX0_init, 2, none, [], t_X0_init)
def t_X0_start : mT := [(0, .inl (mi_ald 0 1)), (1, .inl (mi_ald 1 2)), (2, .inl (mi_put 0 0 (.object "GraphTexts$Row") 5)), (5, .inl (mi_ald 0 6)), (6, .inl (mi_push (.int (-1)) 7)), (7, .inl (mi_put 0 1 .int 10)), (10, .inl (mi_ald 0 11)), (11, .inl (mi_push (.int 0) 12)), (12, .inl (mi_put 0 3 .int 15)), (15, .inl (mi_ald 0 16)), (16, .inl (mi_push (.int 0) 17)), (17, .inl (mi_put 0 5 .int 20)), (20, .inl (mi_ald 0 21)), (21, .inr (.inr (.inl (3, 1, some 0, [])))), (24, .inr (.inl 0))]
def m_X0_start : mD := (yX0_start, cX0_start, 2, none, [], t_X0_start)
def t_X0_hasLine : mT := [(0, .inl (mi_ald 0 1)), (1, .inl (mi_get 0 1 4)), (4, .inl (mi_ald 0 5)), (5, .inl (mi_get 0 0 8)), (8, .inl (mi_get 3 1 11)), (11, .inl (mi_b2 (fun x y => decide (y ≤ x)) 18 14)), (14, .inl (mi_push (.int 1) 15)), (15, .inl (mi_go 19)), (18, .inl (mi_push (.int 0) 19)), (19, .inr (.inl 2))]
def m_X0_hasLine : mD := (yX0_hasLine, cX0_hasLine, 1, (some .boolean), [], t_X0_hasLine)
def t_X0_nextLine : mT := [(0, .inl (mi_ald 0 1)), (1, .inr (.inr (.inl (4, 1, some 0, [])))), (4, .inl (mi_ald 0 5)), (5, .inl (mi_dup 6)), (6, .inl (mi_get 0 3 9)), (9, .inl (mi_push (.int 1) 10)), (10, .inl (mi_i2 (fun x y => x + y) 11)), (11, .inl (mi_put 0 3 .int 14)), (14, .inl (mi_ald 0 15)), (15, .inl (mi_ald 0 16)), (16, .inl (mi_get 0 1 19)), (19, .inl (mi_put 0 4 .int 22)), (22, .inr (.inl 0))]
def m_X0_nextLine : mD := (yX0_nextLine, cX0_nextLine, 1, none, [], t_X0_nextLine)
def t_X0_step : mT := [(0, .inl (mi_ald 0 1)), (1, .inl (mi_dup 2)), (2, .inl (mi_get 0 1 5)), (5, .inl (mi_push (.int 1) 6)), (6, .inl (mi_i2 (fun x y => x + y) 7)), (7, .inl (mi_put 0 1 .int 10)), (10, .inl (mi_ald 0 11)), (11, .inl (mi_get 0 1 14)), (14, .inl (mi_b1 (fun x => decide (x < 0)) 50 17)), (17, .inl (mi_ald 0 18)), (18, .inl (mi_get 0 1 21)), (21, .inl (mi_ald 0 22)), (22, .inl (mi_get 0 0 25)), (25, .inl (mi_get 3 1 28)), (28, .inl (mi_b2 (fun x y => decide (y ≤ x)) 50 31)), (31, .inl (mi_ald 0 32)), (32, .inl (mi_get 0 1 35)), (35, .inl (mi_ald 0 36)), (36, .inl (mi_get 0 0 39)), (39, .inl (mi_get 3 0 42)), (42, .inl (mi_alen 43)), (43, .inl (mi_b2 (fun x y => decide (y ≤ x)) 50 46)), (46, .inl (mi_push (.int 1) 47)), (47, .inl (mi_go 51)), (50, .inl (mi_push (.int 0) 51)), (51, .inl (mi_ist 1 52)), (52, .inl (mi_ald 0 53)), (53, .inl (mi_ild 1 54)), (54, .inl (mi_b1 (fun x => decide (x = 0)) 89 57)), (57, .inl (mi_ald 0 58)), (58, .inl (mi_get 0 0 61)), (61, .inl (mi_get 3 0 64)), (64, .inl (mi_ald 0 65)), (65, .inl (mi_get 0 1 68)), (68, .inl (mi_iald 69)), (69, .inl (mi_push (.int 10) 71)), (71, .inl (mi_b2 (fun x y => decide (x = y)) 89 74)), (74, .inl (mi_ald 0 75)), (75, .inl (mi_get 0 0 78)), (78, .inl (mi_get 3 0 81)), (81, .inl (mi_ald 0 82)), (82, .inl (mi_get 0 1 85)), (85, .inl (mi_iald 86)), (86, .inl (mi_go 90)), (89, .inl (mi_push (.int (-1)) 90)), (90, .inl (mi_put 0 2 .int 93)), (93, .inr (.inl 0))]
def m_X0_step : mD := (yX0_step, cX0_step, 2, none, [], t_X0_step)
def t_X0_skipBlanks : mT := [(0, .inl (mi_push (.int 0) 1)), (1, .inl (mi_ist 1 2)), (2, .inl (mi_ild 1 3)), (3, .inl (mi_push (.int 600) 6)), (6, .inl (mi_b2 (fun x y => decide (y ≤ x)) 28 9)), (9, .inl (mi_ald 0 10)), (10, .inl (mi_get 0 2 13)), (13, .inl (mi_push (.int 32) 15)), (15, .inl (mi_b2 (fun x y => decide (¬ x = y)) 28 18)), (18, .inl (mi_ald 0 19)), (19, .inr (.inr (.inl (4, 1, some 0, [])))), (22, .inl (mi_inc 1 1 25)), (25, .inl (mi_go 2)), (28, .inr (.inl 0))]
def m_X0_skipBlanks : mD := (yX0_skipBlanks, cX0_skipBlanks, 2, none, [], t_X0_skipBlanks)
def t_X0_isWordEnd : mT := [(0, .inl (mi_ald 0 1)), (1, .inl (mi_get 0 2 4)), (4, .inl (mi_push (.int 32) 6)), (6, .inl (mi_b2 (fun x y => decide (x = y)) 17 9)), (9, .inl (mi_ald 0 10)), (10, .inl (mi_get 0 2 13)), (13, .inl (mi_push (.int (-1)) 14)), (14, .inl (mi_b2 (fun x y => decide (¬ x = y)) 21 17)), (17, .inl (mi_push (.int 1) 18)), (18, .inl (mi_go 22)), (21, .inl (mi_push (.int 0) 22)), (22, .inr (.inl 2))]
def m_X0_isWordEnd : mD := (yX0_isWordEnd, cX0_isWordEnd, 1, (some .boolean), [], t_X0_isWordEnd)
def t_X0_placeOf : mT := [(0, .inl (mi_ild 1 1)), (1, .inl (mi_ald 0 2)), (2, .inl (mi_get 0 4 5)), (5, .inl (mi_i2 (fun x y => x - y) 6)), (6, .inl (mi_push (.int 1) 7)), (7, .inl (mi_i2 (fun x y => x + y) 8)), (8, .inr (.inl 1))]
def m_X0_placeOf : mD := (yX0_placeOf, cX0_placeOf, 2, (some .int), [], t_X0_placeOf)
def t_X0_wrong : mT := [(0, .inl (mi_ald 0 1)), (1, .inl (mi_ild 1 2)), (2, .inl (mi_put 0 5 .int 5)), (5, .inl (mi_ald 0 6)), (6, .inl (mi_ald 0 7)), (7, .inl (mi_get 0 3 10)), (10, .inl (mi_put 0 6 .int 13)), (13, .inl (mi_ald 0 14)), (14, .inl (mi_ild 2 15)), (15, .inl (mi_ald 0 16)), (16, .inl (mi_get 0 4 19)), (19, .inl (mi_i2 (fun x y => x - y) 20)), (20, .inl (mi_push (.int 1) 21)), (21, .inl (mi_i2 (fun x y => x + y) 22)), (22, .inl (mi_put 0 7 .int 25)), (25, .inl (mi_push (.int 0) 26)), (26, .inr (.inl 2))]
def m_X0_wrong : mD := (yX0_wrong, cX0_wrong, 3, (some .boolean), [], t_X0_wrong)
def t_X0_wrongElsewhere : mT := [(0, .inl (mi_ald 0 1)), (1, .inl (mi_ild 1 2)), (2, .inl (mi_put 0 5 .int 5)), (5, .inl (mi_ald 0 6)), (6, .inl (mi_ild 2 7)), (7, .inl (mi_put 0 6 .int 10)), (10, .inl (mi_ald 0 11)), (11, .inl (mi_ild 3 12)), (12, .inl (mi_put 0 7 .int 15)), (15, .inl (mi_push (.int 0) 16)), (16, .inr (.inl 2))]
def m_X0_wrongElsewhere : mD := (yX0_wrongElsewhere, cX0_wrongElsewhere, 4, (some .boolean), [], t_X0_wrongElsewhere)
def t_X1_init : mT := [(0, .inl (mi_ald 0 1)), (1, .inl (mi_obj 4)), (4, .inl (mi_ald 0 5)), (5, .inl (mi_new 3 [.null, .int 0] 8)), (8, .inl (mi_dup 9)), (9, .inl (mi_push (.int 600) 12)), (12, .inr (.inr (.inl (46, 2, some 3, [])))), (15, .inl (mi_put 1 0 (.object "GraphTexts$Row") 18)), (18, .inl (mi_ald 0 19)), (19, .inl (mi_new 4 [.null, .null, .null, .int 0] 22)), (22, .inl (mi_dup 23)), (23, .inl (mi_ald 0 24)), (24, .inl (mi_get 1 0 27)), (27, .inl (mi_push (.int 30) 29)), (29, .inr (.inr (.inl (53, 3, some 4, [])))), (32, .inl (mi_put 1 1 (.object "GraphTexts$Spans") 35)), (35, .inl (mi_ald 0 36)), (36, .inl (mi_new 4 [.null, .null, .null, .int 0] 39)), (39, .inl (mi_dup 40)), (40, .inl (mi_ald 0 41)), (41, .inl (mi_get 1 0 44)), (44, .inl (mi_push (.int 3) 45)), (45, .inr (.inr (.inl (53, 3, some 4, [])))), (48, .inl (mi_put 1 2 (.object "GraphTexts$Spans") 51)), (51, .inl (mi_ald 0 52)), (52, .inl (mi_new 4 [.null, .null, .null, .int 0] 55)), (55, .inl (mi_dup 56)), (56, .inl (mi_ald 0 57)), (57, .inl (mi_get 1 0 60)), (60, .inl (mi_push (.int 300) 63)), (63, .inr (.inr (.inl (53, 3, some 4, [])))), (66, .inl (mi_put 1 3 (.object "GraphTexts$Spans") 69)), (69, .inl (mi_ald 0 70)), (70, .inl (mi_new 3 [.null, .int 0] 73)), (73, .inl (mi_dup 74)), (74, .inl (mi_push (.int 3) 75)), (75, .inr (.inr (.inl (46, 2, some 3, [])))), (78, .inl (mi_put 1 4 (.object "GraphTexts$Row") 81)), (81, .inl (mi_ald 0 82)), (82, .inl (mi_new 3 [.null, .int 0] 85)), (85, .inl (mi_dup 86)), (86, .inl (mi_push (.int 40) 88)), (88, .inr (.inr (.inl (46, 2, some 3, [])))), (91, .inl (mi_put 1 5 (.object "GraphTexts$Row") 94)), (94, .inl (mi_ald 0 95)), (95, .inl (mi_new 3 [.null, .int 0] 98)), (98, .inl (mi_dup 99)), (99, .inl (mi_push (.int 40) 101)), (101, .inr (.inr (.inl (46, 2, some 3, [])))), (104, .inl (mi_put 1 6 (.object "GraphTexts$Row") 107)), (107, .inl (mi_ald 0 108)), (108, .inl (mi_new 3 [.null, .int 0] 111)), (111, .inl (mi_dup 112)), (112, .inl (mi_push (.int 40) 114)), (114, .inr (.inr (.inl (46, 2, some 3, [])))), (117, .inl (mi_put 1 7 (.object "GraphTexts$Row") 120)), (120, .inl (mi_ald 0 121)), (121, .inl (mi_new 4 [.null, .null, .null, .int 0] 124)), (124, .inl (mi_dup 125)), (125, .inl (mi_ald 0 126)), (126, .inl (mi_get 1 0 129)), (129, .inl (mi_push (.int 123) 131)), (131, .inr (.inr (.inl (53, 3, some 4, [])))), (134, .inl (mi_put 1 8 (.object "GraphTexts$Spans") 137)), (137, .inl (mi_ald 0 138)), (138, .inl (mi_new 3 [.null, .int 0] 141)), (141, .inl (mi_dup 142)), (142, .inl (mi_push (.int 123) 144)), (144, .inr (.inr (.inl (46, 2, some 3, [])))), (147, .inl (mi_put 1 9 (.object "GraphTexts$Row") 150)), (150, .inl (mi_ald 0 151)), (151, .inl (mi_new 3 [.null, .int 0] 154)), (154, .inl (mi_dup 155)), (155, .inl (mi_push (.int 123) 157)), (157, .inr (.inr (.inl (46, 2, some 3, [])))), (160, .inl (mi_put 1 10 (.object "GraphTexts$Row") 163)), (163, .inl (mi_ald 0 164)), (164, .inl (mi_new 3 [.null, .int 0] 167)), (167, .inl (mi_dup 168)), (168, .inl (mi_push (.int 300) 171)), (171, .inr (.inr (.inl (46, 2, some 3, [])))), (174, .inl (mi_put 1 11 (.object "GraphTexts$Row") 177)), (177, .inl (mi_ald 0 178)), (178, .inl (mi_push (.int 0) 179)), (179, .inl (mi_put 1 12 .int 182)), (182, .inl (mi_ald 0 183)), (183, .inl (mi_push (.int 0) 184)), (184, .inl (mi_put 1 13 .int 187)), (187, .inl (mi_ald 0 188)), (188, .inl (mi_push (.int 0) 189)), (189, .inl (mi_put 1 14 .int 192)), (192, .inr (.inl 0))]
def m_X1_init : mD := (yX1_init, cX1_init, 1, none, [], t_X1_init)
def t_X1_clear : mT := [(0, .inl (mi_ald 0 1)), (1, .inl (mi_get 1 0 4)), (4, .inr (.inr (.inl (47, 1, some 3, [])))), (7, .inl (mi_ald 0 8)), (8, .inl (mi_get 1 1 11)), (11, .inr (.inr (.inl (54, 1, some 4, [])))), (14, .inl (mi_ald 0 15)), (15, .inl (mi_get 1 2 18)), (18, .inr (.inr (.inl (54, 1, some 4, [])))), (21, .inl (mi_ald 0 22)), (22, .inl (mi_get 1 3 25)), (25, .inr (.inr (.inl (54, 1, some 4, [])))), (28, .inl (mi_ald 0 29)), (29, .inl (mi_get 1 4 32)), (32, .inr (.inr (.inl (47, 1, some 3, [])))), (35, .inl (mi_ald 0 36)), (36, .inl (mi_get 1 5 39)), (39, .inr (.inr (.inl (47, 1, some 3, [])))), (42, .inl (mi_ald 0 43)), (43, .inl (mi_get 1 6 46)), (46, .inr (.inr (.inl (47, 1, some 3, [])))), (49, .inl (mi_ald 0 50)), (50, .inl (mi_get 1 7 53)), (53, .inr (.inr (.inl (47, 1, some 3, [])))), (56, .inl (mi_ald 0 57)), (57, .inl (mi_get 1 8 60)), (60, .inr (.inr (.inl (54, 1, some 4, [])))), (63, .inl (mi_ald 0 64)), (64, .inl (mi_get 1 9 67)), (67, .inr (.inr (.inl (47, 1, some 3, [])))), (70, .inl (mi_ald 0 71)), (71, .inl (mi_get 1 10 74)), (74, .inr (.inr (.inl (47, 1, some 3, [])))), (77, .inl (mi_ald 0 78)), (78, .inl (mi_get 1 11 81)), (81, .inr (.inr (.inl (47, 1, some 3, [])))), (84, .inl (mi_ald 0 85)), (85, .inl (mi_push (.int 0) 86)), (86, .inl (mi_put 1 12 .int 89)), (89, .inl (mi_ald 0 90)), (90, .inl (mi_push (.int 0) 91)), (91, .inl (mi_put 1 13 .int 94)), (94, .inl (mi_ald 0 95)), (95, .inl (mi_push (.int 0) 96)), (96, .inl (mi_put 1 14 .int 99)), (99, .inr (.inl 0))]
def m_X1_clear : mD := (yX1_clear, cX1_clear, 1, none, [], t_X1_clear)
def t_X1_arcCount : mT := [(0, .inl (mi_ald 0 1)), (1, .inl (mi_get 1 5 4)), (4, .inl (mi_get 3 1 7)), (7, .inr (.inl 1))]
def m_X1_arcCount : mD := (yX1_arcCount, cX1_arcCount, 1, (some .int), [], t_X1_arcCount)
def t_X1_hasValue : mT := [(0, .inl (mi_ald 0 1)), (1, .inl (mi_get 1 5 4)), (4, .inl (mi_ild 1 5)), (5, .inr (.inr (.inl (51, 2, some 3, [])))), (8, .inl (mi_b1 (fun x => decide (x = 0)) 26 11)), (11, .inl (mi_ald 0 12)), (12, .inl (mi_get 1 2 15)), (15, .inl (mi_ild 2 16)), (16, .inr (.inr (.inl (57, 2, some 4, [])))), (19, .inl (mi_b1 (fun x => decide (x = 0)) 26 22)), (22, .inl (mi_push (.int 1) 23)), (23, .inl (mi_go 27)), (26, .inl (mi_push (.int 0) 27)), (27, .inr (.inl 2))]
def m_X1_hasValue : mD := (yX1_hasValue, cX1_hasValue, 3, (some .boolean), [], t_X1_hasValue)
def t_X1_roomOf : mT := [(0, .inl (mi_ild 1 1)), (1, .inl (mi_ald 0 2)), (2, .inl (mi_get 1 2 5)), (5, .inl (mi_get 4 3 8)), (8, .inl (mi_i2 (fun x y => x * y) 9)), (9, .inl (mi_ild 2 10)), (10, .inl (mi_i2 (fun x y => x + y) 11)), (11, .inr (.inl 1))]
def m_X1_roomOf : mD := (yX1_roomOf, cX1_roomOf, 3, (some .int), [], t_X1_roomOf)
def t_X1_missingOf : mT := [(0, .inl (mi_push (.int 0) 1)), (1, .inl (mi_ist 2 2)), (2, .inl (mi_push (.int 0) 3)), (3, .inl (mi_ist 3 4)), (4, .inl (mi_ild 3 5)), (5, .inl (mi_ald 0 6)), (6, .inl (mi_get 1 2 9)), (9, .inl (mi_get 4 3 12)), (12, .inl (mi_b2 (fun x y => decide (y ≤ x)) 40 15)), (15, .inl (mi_ald 0 16)), (16, .inl (mi_get 1 9 19)), (19, .inl (mi_ald 0 20)), (20, .inl (mi_ild 1 21)), (21, .inl (mi_ild 3 22)), (22, .inr (.inr (.inl (14, 3, some 1, [])))), (25, .inr (.inr (.inl (52, 2, some 3, [])))), (28, .inl (mi_b1 (fun x => decide (¬ x = 0)) 34 31)), (31, .inl (mi_inc 2 1 34)), (34, .inl (mi_inc 3 1 37)), (37, .inl (mi_go 4)), (40, .inl (mi_ild 2 41)), (41, .inr (.inl 1))]
def m_X1_missingOf : mD := (yX1_missingOf, cX1_missingOf, 4, (some .int), [], t_X1_missingOf)
def t_X1_hasArc : mT := [(0, .inl (mi_push (.int 0) 1)), (1, .inl (mi_ist 3 2)), (2, .inl (mi_ild 3 3)), (3, .inl (mi_ald 0 4)), (4, .inl (mi_get 1 5 7)), (7, .inl (mi_get 3 1 10)), (10, .inl (mi_b2 (fun x y => decide (y ≤ x)) 45 13)), (13, .inl (mi_ald 0 14)), (14, .inl (mi_get 1 5 17)), (17, .inl (mi_ild 3 18)), (18, .inr (.inr (.inl (52, 2, some 3, [])))), (21, .inl (mi_ild 1 22)), (22, .inl (mi_b2 (fun x y => decide (¬ x = y)) 39 25)), (25, .inl (mi_ald 0 26)), (26, .inl (mi_get 1 6 29)), (29, .inl (mi_ild 3 30)), (30, .inr (.inr (.inl (52, 2, some 3, [])))), (33, .inl (mi_ild 2 34)), (34, .inl (mi_b2 (fun x y => decide (¬ x = y)) 39 37)), (37, .inl (mi_push (.int 1) 38)), (38, .inr (.inl 2)), (39, .inl (mi_inc 3 1 42)), (42, .inl (mi_go 2)), (45, .inl (mi_push (.int 0) 46)), (46, .inr (.inl 2))]
def m_X1_hasArc : mD := (yX1_hasArc, cX1_hasArc, 4, (some .boolean), [], t_X1_hasArc)
def t_X1_addArc : mT := [(0, .inl (mi_ald 0 1)), (1, .inl (mi_get 1 5 4)), (4, .inl (mi_ild 1 5)), (5, .inr (.inr (.inl (49, 2, some 3, [])))), (8, .inl (mi_ald 0 9)), (9, .inl (mi_get 1 6 12)), (12, .inl (mi_ild 2 13)), (13, .inr (.inr (.inl (49, 2, some 3, [])))), (16, .inl (mi_ald 0 17)), (17, .inl (mi_get 1 7 20)), (20, .inl (mi_ild 3 21)), (21, .inr (.inr (.inl (49, 2, some 3, [])))), (24, .inl (mi_ald 0 25)), (25, .inl (mi_get 1 11 28)), (28, .inl (mi_push (.int 3) 29)), (29, .inr (.inr (.inl (49, 2, some 3, [])))), (32, .inr (.inl 0))]
def m_X1_addArc : mD := (yX1_addArc, cX1_addArc, 4, none, [], t_X1_addArc)
def t_X1_addValue : mT := [(0, .inl (mi_ald 0 1)), (1, .inl (mi_get 1 9 4)), (4, .inl (mi_ild 1 5)), (5, .inr (.inr (.inl (49, 2, some 3, [])))), (8, .inl (mi_ald 0 9)), (9, .inl (mi_get 1 10 12)), (12, .inl (mi_ild 2 13)), (13, .inr (.inr (.inl (49, 2, some 3, [])))), (16, .inl (mi_ald 0 17)), (17, .inl (mi_get 1 8 20)), (20, .inl (mi_ild 3 21)), (21, .inl (mi_ald 0 22)), (22, .inl (mi_get 1 0 25)), (25, .inl (mi_get 3 1 28)), (28, .inl (mi_ild 3 29)), (29, .inl (mi_i2 (fun x y => x - y) 30)), (30, .inr (.inr (.inl (56, 3, some 4, [])))), (33, .inr (.inl 0))]
def m_X1_addValue : mD := (yX1_addValue, cX1_addValue, 4, none, [], t_X1_addValue)
def t_X1_leaveArcOut : mT := [(0, .inl (mi_ald 0 1)), (1, .inl (mi_ald 0 2)), (2, .inl (mi_get 1 5 5)), (5, .inl (mi_get 3 1 8)), (8, .inl (mi_push (.int 0) 9)), (9, .inr (.inr (.inl (14, 3, some 1, [])))), (12, .inl (mi_ist 1 13)), (13, .inl (mi_ald 0 14)), (14, .inl (mi_get 1 9 17)), (17, .inl (mi_ild 1 18)), (18, .inr (.inr (.inl (48, 2, some 3, [])))), (21, .inl (mi_ald 0 22)), (22, .inl (mi_get 1 10 25)), (25, .inl (mi_ild 1 26)), (26, .inr (.inr (.inl (48, 2, some 3, [])))), (29, .inl (mi_ald 0 30)), (30, .inl (mi_get 1 8 33)), (33, .inl (mi_ild 1 34)), (34, .inr (.inr (.inl (55, 2, some 4, [])))), (37, .inl (mi_ald 0 38)), (38, .inl (mi_dup 39)), (39, .inl (mi_get 1 12 42)), (42, .inl (mi_push (.int 1) 43)), (43, .inl (mi_i2 (fun x y => x + y) 44)), (44, .inl (mi_put 1 12 .int 47)), (47, .inr (.inl 0))]
def m_X1_leaveArcOut : mD := (yX1_leaveArcOut, cX1_leaveArcOut, 2, none, [], t_X1_leaveArcOut)
def t_X1_settleKinds : mT := [(0, .inl (mi_push (.int 0) 1)), (1, .inl (mi_ist 1 2)), (2, .inl (mi_ild 1 3)), (3, .inl (mi_ald 0 4)), (4, .inl (mi_get 1 4 7)), (7, .inl (mi_get 3 1 10)), (10, .inl (mi_b2 (fun x y => decide (y ≤ x)) 44 13)), (13, .inl (mi_ald 0 14)), (14, .inl (mi_get 1 4 17)), (17, .inl (mi_ild 1 18)), (18, .inr (.inr (.inl (52, 2, some 3, [])))), (21, .inl (mi_push (.int 3) 22)), (22, .inl (mi_b2 (fun x y => decide (¬ x = y)) 38 25)), (25, .inl (mi_ald 0 26)), (26, .inl (mi_get 1 4 29)), (29, .inl (mi_ild 1 30)), (30, .inl (mi_ald 0 31)), (31, .inl (mi_ild 1 32)), (32, .inr (.inr (.inl (21, 2, some 1, [])))), (35, .inr (.inr (.inl (50, 3, some 3, [])))), (38, .inl (mi_inc 1 1 41)), (41, .inl (mi_go 2)), (44, .inr (.inl 0))]
def m_X1_settleKinds : mD := (yX1_settleKinds, cX1_settleKinds, 2, none, [], t_X1_settleKinds)
def t_X1_guessKind : mT := [(0, .inl (mi_push (.int 0) 1)), (1, .inl (mi_ist 2 2)), (2, .inl (mi_push (.int 0) 3)), (3, .inl (mi_ist 3 4)), (4, .inl (mi_ild 3 5)), (5, .inl (mi_ald 0 6)), (6, .inl (mi_get 1 5 9)), (9, .inl (mi_get 3 1 12)), (12, .inl (mi_b2 (fun x y => decide (y ≤ x)) 52 15)), (15, .inl (mi_ald 0 16)), (16, .inl (mi_get 1 9 19)), (19, .inl (mi_ald 0 20)), (20, .inl (mi_ild 3 21)), (21, .inl (mi_ild 1 22)), (22, .inr (.inr (.inl (14, 3, some 1, [])))), (25, .inr (.inr (.inl (52, 2, some 3, [])))), (28, .inl (mi_ist 4 30)), (30, .inl (mi_ild 4 32)), (32, .inl (mi_push (.int 3) 33)), (33, .inl (mi_b2 (fun x y => decide (¬ x = y)) 38 36)), (36, .inl (mi_push (.int 2) 37)), (37, .inr (.inl 1)), (38, .inl (mi_ild 4 40)), (40, .inl (mi_push (.int 2) 41)), (41, .inl (mi_b2 (fun x y => decide (¬ x = y)) 46 44)), (44, .inl (mi_push (.int 1) 45)), (45, .inl (mi_ist 2 46)), (46, .inl (mi_inc 3 1 49)), (49, .inl (mi_go 4)), (52, .inl (mi_ild 2 53)), (53, .inr (.inl 1))]
def m_X1_guessKind : mD := (yX1_guessKind, cX1_guessKind, 5, (some .int), [], t_X1_guessKind)
def t_X2_init : mT := [(0, .inl (mi_ald 0 1)), (1, .inl (mi_obj 4)), (4, .inl (mi_ald 0 5)), (5, .inl (mi_new 0 [.null, .int 0, .int 0, .int 0, .int 0, .int 0, .int 0, .int 0] 8)), (8, .inl (mi_dup 9)), (9, .inl (mi_ald 1 10)), (10, .inr (.inr (.inl (0, 2, some 0, [])))), (13, .inl (mi_put 2 0 (.object "GraphTexts$Cursor") 16)), (16, .inl (mi_ald 0 17)), (17, .inl (mi_ald 2 18)), (18, .inl (mi_put 2 1 (.object "GraphTexts$Graph") 21)), (21, .inr (.inl 0))]
def m_X2_init : mD := (yX2_init, cX2_init, 3, none, [], t_X2_init)
def t_X2_readText : mT := [(0, .inl (mi_ald 0 1)), (1, .inl (mi_get 2 0 4)), (4, .inl (mi_ald 1 5)), (5, .inr (.inr (.inl (1, 2, some 0, [])))), (8, .inl (mi_ald 0 9)), (9, .inl (mi_ald 2 10)), (10, .inl (mi_put 2 1 (.object "GraphTexts$Graph") 13)), (13, .inl (mi_ald 0 14)), (14, .inl (mi_get 2 1 17)), (17, .inr (.inr (.inl (11, 1, some 1, [])))), (20, .inl (mi_ald 0 21)), (21, .inl (mi_ild 3 22)), (22, .inl (mi_put 2 2 .int 25)), (25, .inl (mi_ald 0 26)), (26, .inl (mi_push (.int 0) 27)), (27, .inl (mi_put 2 3 .boolean 30)), (30, .inl (mi_ald 0 31)), (31, .inl (mi_push (.int 0) 32)), (32, .inl (mi_put 2 4 .int 35)), (35, .inl (mi_push (.int 0) 36)), (36, .inl (mi_ist 4 38)), (38, .inl (mi_ild 4 40)), (40, .inl (mi_push (.int 600) 43)), (43, .inl (mi_b2 (fun x y => decide (y ≤ x)) 78 46)), (46, .inl (mi_ald 0 47)), (47, .inl (mi_get 2 0 50)), (50, .inr (.inr (.inl (2, 1, some 0, [])))), (53, .inl (mi_b1 (fun x => decide (x = 0)) 78 56)), (56, .inl (mi_ald 0 57)), (57, .inr (.inr (.inl (25, 1, some 2, [])))), (60, .inl (mi_b1 (fun x => decide (¬ x = 0)) 65 63)), (63, .inl (mi_push (.int 0) 64)), (64, .inr (.inl 2)), (65, .inl (mi_ald 0 66)), (66, .inl (mi_get 2 0 69)), (69, .inr (.inr (.inl (3, 1, some 0, [])))), (72, .inl (mi_inc 4 1 75)), (75, .inl (mi_go 38)), (78, .inl (mi_ald 0 79)), (79, .inl (mi_get 2 1 82)), (82, .inr (.inr (.inl (20, 1, some 1, [])))), (85, .inl (mi_ald 0 86)), (86, .inr (.inr (.inl (24, 1, some 2, [])))), (89, .inr (.inl 2))]
def m_X2_readText : mD := (yX2_readText, cX2_readText, 5, (some .boolean), [], t_X2_readText)
def t_X2_countIsTrue : mT := [(0, .inl (mi_ald 0 1)), (1, .inl (mi_get 2 4 4)), (4, .inl (mi_b1 (fun x => decide (¬ x = 0)) 9 7)), (7, .inl (mi_push (.int 1) 8)), (8, .inr (.inl 2)), (9, .inl (mi_ald 0 10)), (10, .inl (mi_get 2 1 13)), (13, .inl (mi_get 1 13 16)), (16, .inl (mi_ald 0 17)), (17, .inl (mi_get 2 1 20)), (20, .inl (mi_get 1 1 23)), (23, .inl (mi_get 4 3 26)), (26, .inl (mi_b2 (fun x y => decide (x = y)) 47 29)), (29, .inl (mi_ald 0 30)), (30, .inl (mi_get 2 0 33)), (33, .inl (mi_push (.int 7) 35)), (35, .inl (mi_ald 0 36)), (36, .inl (mi_get 2 4 39)), (39, .inl (mi_ald 0 40)), (40, .inl (mi_get 2 5 43)), (43, .inr (.inr (.inl (9, 4, some 0, [])))), (46, .inr (.inl 2)), (47, .inl (mi_ald 0 48)), (48, .inl (mi_get 2 1 51)), (51, .inl (mi_get 1 14 54)), (54, .inl (mi_ald 0 55)), (55, .inl (mi_get 2 1 58)), (58, .inr (.inr (.inl (12, 1, some 1, [])))), (61, .inl (mi_b2 (fun x y => decide (x = y)) 82 64)), (64, .inl (mi_ald 0 65)), (65, .inl (mi_get 2 0 68)), (68, .inl (mi_push (.int 7) 70)), (70, .inl (mi_ald 0 71)), (71, .inl (mi_get 2 4 74)), (74, .inl (mi_ald 0 75)), (75, .inl (mi_get 2 6 78)), (78, .inr (.inr (.inl (9, 4, some 0, [])))), (81, .inr (.inl 2)), (82, .inl (mi_push (.int 1) 83)), (83, .inr (.inl 2))]
def m_X2_countIsTrue : mD := (yX2_countIsTrue, cX2_countIsTrue, 1, (some .boolean), [], t_X2_countIsTrue)
def t_X2_readLine : mT := [(0, .inl (mi_ald 0 1)), (1, .inl (mi_get 2 0 4)), (4, .inr (.inr (.inl (5, 1, some 0, [])))), (7, .inl (mi_ald 0 8)), (8, .inl (mi_get 2 0 11)), (11, .inl (mi_get 0 2 14)), (14, .inl (mi_sw (mi_look [(-1, 56), (33, 63), (35, 58), (37, 68)] 73))), (56, .inl (mi_push (.int 1) 57)), (57, .inr (.inl 2)), (58, .inl (mi_ald 0 59)), (59, .inr (.inr (.inl (26, 1, some 2, [])))), (62, .inr (.inl 2)), (63, .inl (mi_ald 0 64)), (64, .inr (.inr (.inl (27, 1, some 2, [])))), (67, .inr (.inl 2)), (68, .inl (mi_ald 0 69)), (69, .inr (.inr (.inl (29, 1, some 2, [])))), (72, .inr (.inl 2)), (73, .inl (mi_ald 0 74)), (74, .inr (.inr (.inl (31, 1, some 2, [])))), (77, .inl (mi_b1 (fun x => decide (x = 0)) 98 80)), (80, .inl (mi_ald 0 81)), (81, .inr (.inr (.inl (34, 1, some 2, [])))), (84, .inl (mi_b1 (fun x => decide (x = 0)) 98 87)), (87, .inl (mi_ald 0 88)), (88, .inr (.inr (.inl (32, 1, some 2, [])))), (91, .inl (mi_b1 (fun x => decide (x = 0)) 98 94)), (94, .inl (mi_push (.int 1) 95)), (95, .inl (mi_go 99)), (98, .inl (mi_push (.int 0) 99)), (99, .inr (.inl 2))]
def m_X2_readLine : mD := (yX2_readLine, cX2_readLine, 1, (some .boolean), [], t_X2_readLine)
def t_X2_readComment : mT := [(0, .inl (mi_ald 0 1)), (1, .inl (mi_get 2 0 4)), (4, .inr (.inr (.inl (4, 1, some 0, [])))), (7, .inl (mi_ald 0 8)), (8, .inl (mi_get 2 1 11)), (11, .inl (mi_get 1 0 14)), (14, .inl (mi_get 3 1 17)), (17, .inl (mi_ist 1 18)), (18, .inl (mi_push (.int 0) 19)), (19, .inl (mi_ist 2 20)), (20, .inl (mi_ild 2 21)), (21, .inl (mi_push (.int 20) 23)), (23, .inl (mi_b2 (fun x y => decide (y < x)) 118 26)), (26, .inl (mi_ald 0 27)), (27, .inl (mi_get 2 0 30)), (30, .inl (mi_get 0 2 33)), (33, .inl (mi_push (.int (-1)) 34)), (34, .inl (mi_b2 (fun x y => decide (x = y)) 118 37)), (37, .inl (mi_ald 0 38)), (38, .inl (mi_get 2 0 41)), (41, .inl (mi_get 0 2 44)), (44, .inr (.inr (.inl (93, 1, none, [])))), (47, .inl (mi_b1 (fun x => decide (¬ x = 0)) 66 50)), (50, .inl (mi_ald 0 51)), (51, .inl (mi_get 2 0 54)), (54, .inl (mi_push (.int 1) 55)), (55, .inl (mi_ald 0 56)), (56, .inl (mi_get 2 0 59)), (59, .inl (mi_get 0 1 62)), (62, .inr (.inr (.inl (8, 3, some 0, [])))), (65, .inr (.inl 2)), (66, .inl (mi_ild 2 67)), (67, .inl (mi_push (.int 20) 69)), (69, .inl (mi_b2 (fun x y => decide (¬ x = y)) 88 72)), (72, .inl (mi_ald 0 73)), (73, .inl (mi_get 2 0 76)), (76, .inl (mi_push (.int 2) 77)), (77, .inl (mi_ald 0 78)), (78, .inl (mi_get 2 0 81)), (81, .inl (mi_get 0 1 84)), (84, .inr (.inr (.inl (8, 3, some 0, [])))), (87, .inr (.inl 2)), (88, .inl (mi_ald 0 89)), (89, .inl (mi_get 2 1 92)), (92, .inl (mi_get 1 0 95)), (95, .inl (mi_ald 0 96)), (96, .inl (mi_get 2 0 99)), (99, .inl (mi_get 0 2 102)), (102, .inr (.inr (.inl (49, 2, some 3, [])))), (105, .inl (mi_ald 0 106)), (106, .inl (mi_get 2 0 109)), (109, .inr (.inr (.inl (4, 1, some 0, [])))), (112, .inl (mi_inc 2 1 115)), (115, .inl (mi_go 20)), (118, .inl (mi_ald 0 119)), (119, .inl (mi_get 2 1 122)), (122, .inl (mi_get 1 3 125)), (125, .inl (mi_ild 1 126)), (126, .inl (mi_ald 0 127)), (127, .inl (mi_get 2 1 130)), (130, .inl (mi_get 1 0 133)), (133, .inl (mi_get 3 1 136)), (136, .inl (mi_ild 1 137)), (137, .inl (mi_i2 (fun x y => x - y) 138)), (138, .inr (.inr (.inl (56, 3, some 4, [])))), (141, .inl (mi_ald 0 142)), (142, .inl (mi_get 2 1 145)), (145, .inl (mi_get 1 11 148)), (148, .inl (mi_push (.int 0) 149)), (149, .inr (.inr (.inl (49, 2, some 3, [])))), (152, .inl (mi_push (.int 1) 153)), (153, .inr (.inl 2))]
def m_X2_readComment : mD := (yX2_readComment, cX2_readComment, 3, (some .boolean), [], t_X2_readComment)
def t_X2_readCount : mT := [(0, .inl (mi_ald 0 1)), (1, .inl (mi_get 2 4 4)), (4, .inl (mi_b1 (fun x => decide (x = 0)) 23 7)), (7, .inl (mi_ald 0 8)), (8, .inl (mi_get 2 0 11)), (11, .inl (mi_push (.int 4) 12)), (12, .inl (mi_ald 0 13)), (13, .inl (mi_get 2 0 16)), (16, .inl (mi_get 0 1 19)), (19, .inr (.inr (.inl (8, 3, some 0, [])))), (22, .inr (.inl 2)), (23, .inl (mi_ald 0 24)), (24, .inl (mi_ald 0 25)), (25, .inl (mi_get 2 0 28)), (28, .inl (mi_get 0 3 31)), (31, .inl (mi_put 2 4 .int 34)), (34, .inl (mi_ald 0 35)), (35, .inl (mi_get 2 0 38)), (38, .inr (.inr (.inl (4, 1, some 0, [])))), (41, .inl (mi_ald 0 42)), (42, .inr (.inr (.inl (44, 1, some 2, [])))), (45, .inl (mi_b1 (fun x => decide (¬ x = 0)) 50 48)), (48, .inl (mi_push (.int 0) 49)), (49, .inr (.inl 2)), (50, .inl (mi_ald 0 51)), (51, .inl (mi_ald 0 52)), (52, .inl (mi_get 2 0 55)), (55, .inl (mi_ald 0 56)), (56, .inl (mi_get 2 0 59)), (59, .inl (mi_get 0 1 62)), (62, .inr (.inr (.inl (7, 2, some 0, [])))), (65, .inl (mi_put 2 5 .int 68)), (68, .inl (mi_ald 0 69)), (69, .inr (.inr (.inl (28, 1, some 2, [])))), (72, .inl (mi_b1 (fun x => decide (¬ x = 0)) 77 75)), (75, .inl (mi_push (.int 0) 76)), (76, .inr (.inl 2)), (77, .inl (mi_ald 0 78)), (78, .inl (mi_get 2 1 81)), (81, .inl (mi_ald 0 82)), (82, .inl (mi_get 2 7 85)), (85, .inl (mi_put 1 13 .int 88)), (88, .inl (mi_ald 0 89)), (89, .inr (.inr (.inl (44, 1, some 2, [])))), (92, .inl (mi_b1 (fun x => decide (¬ x = 0)) 97 95)), (95, .inl (mi_push (.int 0) 96)), (96, .inr (.inl 2)), (97, .inl (mi_ald 0 98)), (98, .inl (mi_ald 0 99)), (99, .inl (mi_get 2 0 102)), (102, .inl (mi_ald 0 103)), (103, .inl (mi_get 2 0 106)), (106, .inl (mi_get 0 1 109)), (109, .inr (.inr (.inl (7, 2, some 0, [])))), (112, .inl (mi_put 2 6 .int 115)), (115, .inl (mi_ald 0 116)), (116, .inr (.inr (.inl (28, 1, some 2, [])))), (119, .inl (mi_b1 (fun x => decide (¬ x = 0)) 124 122)), (122, .inl (mi_push (.int 0) 123)), (123, .inr (.inl 2)), (124, .inl (mi_ald 0 125)), (125, .inl (mi_get 2 1 128)), (128, .inl (mi_ald 0 129)), (129, .inl (mi_get 2 7 132)), (132, .inl (mi_put 1 14 .int 135)), (135, .inl (mi_ald 0 136)), (136, .inl (mi_get 2 1 139)), (139, .inl (mi_get 1 11 142)), (142, .inl (mi_push (.int 1) 143)), (143, .inr (.inr (.inl (49, 2, some 3, [])))), (146, .inl (mi_ald 0 147)), (147, .inr (.inr (.inl (45, 1, some 2, [])))), (150, .inr (.inl 2))]
def m_X2_readCount : mD := (yX2_readCount, cX2_readCount, 1, (some .boolean), [], t_X2_readCount)
def t_X2_readNumber : mT := [(0, .inl (mi_ald 0 1)), (1, .inl (mi_get 2 0 4)), (4, .inl (mi_get 0 2 7)), (7, .inr (.inr (.inl (91, 1, none, [])))), (10, .inl (mi_b1 (fun x => decide (¬ x = 0)) 29 13)), (13, .inl (mi_ald 0 14)), (14, .inl (mi_get 2 0 17)), (17, .inl (mi_push (.int 1) 18)), (18, .inl (mi_ald 0 19)), (19, .inl (mi_get 2 0 22)), (22, .inl (mi_get 0 1 25)), (25, .inr (.inr (.inl (8, 3, some 0, [])))), (28, .inr (.inl 2)), (29, .inl (mi_ald 0 30)), (30, .inl (mi_push (.int 0) 31)), (31, .inl (mi_put 2 7 .int 34)), (34, .inl (mi_push (.int 0) 35)), (35, .inl (mi_ist 1 36)), (36, .inl (mi_ild 1 37)), (37, .inl (mi_push (.int 2) 38)), (38, .inl (mi_b2 (fun x y => decide (y < x)) 110 41)), (41, .inl (mi_ald 0 42)), (42, .inl (mi_get 2 0 45)), (45, .inl (mi_get 0 2 48)), (48, .inr (.inr (.inl (91, 1, none, [])))), (51, .inl (mi_b1 (fun x => decide (x = 0)) 110 54)), (54, .inl (mi_ild 1 55)), (55, .inl (mi_push (.int 2) 56)), (56, .inl (mi_b2 (fun x y => decide (¬ x = y)) 75 59)), (59, .inl (mi_ald 0 60)), (60, .inl (mi_get 2 0 63)), (63, .inl (mi_push (.int 2) 64)), (64, .inl (mi_ald 0 65)), (65, .inl (mi_get 2 0 68)), (68, .inl (mi_get 0 1 71)), (71, .inr (.inr (.inl (8, 3, some 0, [])))), (74, .inr (.inl 2)), (75, .inl (mi_ald 0 76)), (76, .inl (mi_ald 0 77)), (77, .inl (mi_get 2 7 80)), (80, .inl (mi_push (.int 10) 82)), (82, .inl (mi_i2 (fun x y => x * y) 83)), (83, .inl (mi_ald 0 84)), (84, .inl (mi_get 2 0 87)), (87, .inl (mi_get 0 2 90)), (90, .inl (mi_push (.int 48) 92)), (92, .inl (mi_i2 (fun x y => x - y) 93)), (93, .inl (mi_i2 (fun x y => x + y) 94)), (94, .inl (mi_put 2 7 .int 97)), (97, .inl (mi_ald 0 98)), (98, .inl (mi_get 2 0 101)), (101, .inr (.inr (.inl (4, 1, some 0, [])))), (104, .inl (mi_inc 1 1 107)), (107, .inl (mi_go 36)), (110, .inl (mi_push (.int 1) 111)), (111, .inr (.inl 2))]
def m_X2_readNumber : mD := (yX2_readNumber, cX2_readNumber, 2, (some .boolean), [], t_X2_readNumber)
def t_X2_readHead : mT := [(0, .inl (mi_ald 0 1)), (1, .inl (mi_get 2 3 4)), (4, .inl (mi_b1 (fun x => decide (¬ x = 0)) 21 7)), (7, .inl (mi_ald 0 8)), (8, .inl (mi_get 2 1 11)), (11, .inl (mi_get 1 2 14)), (14, .inl (mi_get 4 3 17)), (17, .inl (mi_push (.int 3) 18)), (18, .inl (mi_b2 (fun x y => decide (x < y)) 37 21)), (21, .inl (mi_ald 0 22)), (22, .inl (mi_get 2 0 25)), (25, .inl (mi_push (.int 4) 26)), (26, .inl (mi_ald 0 27)), (27, .inl (mi_get 2 0 30)), (30, .inl (mi_get 0 1 33)), (33, .inr (.inr (.inl (8, 3, some 0, [])))), (36, .inr (.inl 2)), (37, .inl (mi_ald 0 38)), (38, .inl (mi_get 2 0 41)), (41, .inr (.inr (.inl (4, 1, some 0, [])))), (44, .inl (mi_ald 0 45)), (45, .inr (.inr (.inl (44, 1, some 2, [])))), (48, .inl (mi_b1 (fun x => decide (x = 0)) 58 51)), (51, .inl (mi_ald 0 52)), (52, .inr (.inr (.inl (41, 1, some 2, [])))), (55, .inl (mi_b1 (fun x => decide (¬ x = 0)) 60 58)), (58, .inl (mi_push (.int 0) 59)), (59, .inr (.inl 2)), (60, .inl (mi_ald 0 61)), (61, .inl (mi_get 2 1 64)), (64, .inl (mi_get 1 0 67)), (67, .inl (mi_get 3 1 70)), (70, .inl (mi_ald 0 71)), (71, .inl (mi_get 2 9 74)), (74, .inl (mi_i2 (fun x y => x - y) 75)), (75, .inl (mi_ist 1 76)), (76, .inl (mi_ald 0 77)), (77, .inl (mi_get 2 1 80)), (80, .inl (mi_get 1 2 83)), (83, .inl (mi_ald 0 84)), (84, .inl (mi_get 2 1 87)), (87, .inl (mi_get 1 0 90)), (90, .inl (mi_ald 0 91)), (91, .inl (mi_get 2 9 94)), (94, .inl (mi_ild 1 95)), (95, .inr (.inr (.inl (60, 4, some 4, [])))), (98, .inl (mi_push (.int (-1)) 99)), (99, .inl (mi_b2 (fun x y => decide (x = y)) 115 102)), (102, .inl (mi_ald 0 103)), (103, .inl (mi_get 2 0 106)), (106, .inl (mi_push (.int 4) 107)), (107, .inl (mi_ald 0 108)), (108, .inl (mi_get 2 8 111)), (111, .inr (.inr (.inl (8, 3, some 0, [])))), (114, .inr (.inl 2)), (115, .inl (mi_ald 0 116)), (116, .inl (mi_get 2 1 119)), (119, .inl (mi_get 1 2 122)), (122, .inl (mi_ald 0 123)), (123, .inl (mi_get 2 9 126)), (126, .inl (mi_ild 1 127)), (127, .inr (.inr (.inl (56, 3, some 4, [])))), (130, .inl (mi_ald 0 131)), (131, .inr (.inr (.inl (44, 1, some 2, [])))), (134, .inl (mi_b1 (fun x => decide (¬ x = 0)) 139 137)), (137, .inl (mi_push (.int 0) 138)), (138, .inr (.inl 2)), (139, .inl (mi_ald 0 140)), (140, .inl (mi_get 2 0 143)), (143, .inl (mi_get 0 2 146)), (146, .inr (.inr (.inl (30, 1, none, [])))), (149, .inl (mi_ist 2 150)), (150, .inl (mi_ild 2 151)), (151, .inl (mi_push (.int (-1)) 152)), (152, .inl (mi_b2 (fun x y => decide (¬ x = y)) 171 155)), (155, .inl (mi_ald 0 156)), (156, .inl (mi_get 2 0 159)), (159, .inl (mi_push (.int 1) 160)), (160, .inl (mi_ald 0 161)), (161, .inl (mi_get 2 0 164)), (164, .inl (mi_get 0 1 167)), (167, .inr (.inr (.inl (8, 3, some 0, [])))), (170, .inr (.inl 2)), (171, .inl (mi_ald 0 172)), (172, .inl (mi_get 2 1 175)), (175, .inl (mi_get 1 4 178)), (178, .inl (mi_ild 2 179)), (179, .inr (.inr (.inl (49, 2, some 3, [])))), (182, .inl (mi_ald 0 183)), (183, .inl (mi_get 2 1 186)), (186, .inl (mi_get 1 11 189)), (189, .inl (mi_push (.int 2) 190)), (190, .inr (.inr (.inl (49, 2, some 3, [])))), (193, .inl (mi_ald 0 194)), (194, .inl (mi_get 2 0 197)), (197, .inr (.inr (.inl (4, 1, some 0, [])))), (200, .inl (mi_ald 0 201)), (201, .inr (.inr (.inl (45, 1, some 2, [])))), (204, .inr (.inl 2))]
def m_X2_readHead : mD := (yX2_readHead, cX2_readHead, 3, (some .boolean), [], t_X2_readHead)
def t_X2_kindOfLetter : mT := [(0, .inl (mi_ild 0 1)), (1, .inl (mi_sw (mi_look [(100, 46), (103, 50), (116, 48), (119, 44)] 52))), (44, .inl (mi_push (.int 0) 45)), (45, .inr (.inl 1)), (46, .inl (mi_push (.int 1) 47)), (47, .inr (.inl 1)), (48, .inl (mi_push (.int 2) 49)), (49, .inr (.inl 1)), (50, .inl (mi_push (.int 3) 51)), (51, .inr (.inl 1)), (52, .inl (mi_push (.int (-1)) 53)), (53, .inr (.inl 1))]
def m_X2_kindOfLetter : mD := (yX2_kindOfLetter, cX2_kindOfLetter, 1, (some .int), [], t_X2_kindOfLetter)
def t_X2_readEnds : mT := [(0, .inl (mi_ald 0 1)), (1, .inl (mi_ald 0 2)), (2, .inl (mi_get 2 0 5)), (5, .inl (mi_get 0 1 8)), (8, .inl (mi_put 2 12 .int 11)), (11, .inl (mi_ald 0 12)), (12, .inr (.inr (.inl (41, 1, some 2, [])))), (15, .inl (mi_b1 (fun x => decide (¬ x = 0)) 20 18)), (18, .inl (mi_push (.int 0) 19)), (19, .inr (.inl 2)), (20, .inl (mi_ald 0 21)), (21, .inl (mi_ald 0 22)), (22, .inr (.inr (.inl (33, 1, some 2, [])))), (25, .inl (mi_put 2 13 .int 28)), (28, .inl (mi_ald 0 29)), (29, .inl (mi_get 2 13 32)), (32, .inl (mi_push (.int (-1)) 33)), (33, .inl (mi_b2 (fun x y => decide (x = y)) 50 36)), (36, .inl (mi_ald 0 37)), (37, .inr (.inr (.inl (44, 1, some 2, [])))), (40, .inl (mi_b1 (fun x => decide (x = 0)) 50 43)), (43, .inl (mi_ald 0 44)), (44, .inr (.inr (.inl (41, 1, some 2, [])))), (47, .inl (mi_b1 (fun x => decide (¬ x = 0)) 52 50)), (50, .inl (mi_push (.int 0) 51)), (51, .inr (.inl 2)), (52, .inl (mi_ald 0 53)), (53, .inl (mi_ald 0 54)), (54, .inr (.inr (.inl (33, 1, some 2, [])))), (57, .inl (mi_put 2 14 .int 60)), (60, .inl (mi_ald 0 61)), (61, .inl (mi_get 2 14 64)), (64, .inl (mi_push (.int (-1)) 65)), (65, .inl (mi_b2 (fun x y => decide (¬ x = y)) 70 68)), (68, .inl (mi_push (.int 0) 69)), (69, .inr (.inl 2)), (70, .inl (mi_ald 0 71)), (71, .inl (mi_ald 0 72)), (72, .inl (mi_get 2 1 75)), (75, .inl (mi_ald 0 76)), (76, .inl (mi_get 2 13 79)), (79, .inl (mi_ald 0 80)), (80, .inl (mi_get 2 14 83)), (83, .inr (.inr (.inl (16, 3, some 1, [])))), (86, .inl (mi_put 2 15 .boolean 89)), (89, .inl (mi_ald 0 90)), (90, .inl (mi_get 2 15 93)), (93, .inl (mi_b1 (fun x => decide (x = 0)) 117 96)), (96, .inl (mi_ald 0 97)), (97, .inl (mi_get 2 2 100)), (100, .inl (mi_push (.int 2) 101)), (101, .inl (mi_b2 (fun x y => decide (¬ x = y)) 117 104)), (104, .inl (mi_ald 0 105)), (105, .inl (mi_get 2 0 108)), (108, .inl (mi_push (.int 5) 109)), (109, .inl (mi_ald 0 110)), (110, .inl (mi_get 2 8 113)), (113, .inr (.inr (.inl (8, 3, some 0, [])))), (116, .inr (.inl 2)), (117, .inl (mi_push (.int 1) 118)), (118, .inr (.inl 2))]
def m_X2_readEnds : mD := (yX2_readEnds, cX2_readEnds, 1, (some .boolean), [], t_X2_readEnds)
def t_X2_endArc : mT := [(0, .inl (mi_ald 0 1)), (1, .inr (.inr (.inl (45, 1, some 2, [])))), (4, .inl (mi_b1 (fun x => decide (¬ x = 0)) 9 7)), (7, .inl (mi_push (.int 0) 8)), (8, .inr (.inl 2)), (9, .inl (mi_ald 0 10)), (10, .inl (mi_push (.int 1) 11)), (11, .inl (mi_put 2 3 .boolean 14)), (14, .inl (mi_ald 0 15)), (15, .inl (mi_get 2 15 18)), (18, .inl (mi_b1 (fun x => decide (x = 0)) 38 21)), (21, .inl (mi_ald 0 22)), (22, .inl (mi_get 2 2 25)), (25, .inl (mi_push (.int 1) 26)), (26, .inl (mi_b2 (fun x y => decide (¬ x = y)) 38 29)), (29, .inl (mi_ald 0 30)), (30, .inl (mi_get 2 1 33)), (33, .inr (.inr (.inl (19, 1, some 1, [])))), (36, .inl (mi_push (.int 1) 37)), (37, .inr (.inl 2)), (38, .inl (mi_ald 0 39)), (39, .inl (mi_get 2 1 42)), (42, .inr (.inr (.inl (12, 1, some 1, [])))), (45, .inl (mi_push (.int 40) 47)), (47, .inl (mi_b2 (fun x y => decide (x < y)) 64 50)), (50, .inl (mi_ald 0 51)), (51, .inl (mi_get 2 0 54)), (54, .inl (mi_push (.int 6) 56)), (56, .inl (mi_ald 0 57)), (57, .inl (mi_get 2 12 60)), (60, .inr (.inr (.inl (8, 3, some 0, [])))), (63, .inr (.inl 2)), (64, .inl (mi_ald 0 65)), (65, .inl (mi_get 2 1 68)), (68, .inl (mi_ald 0 69)), (69, .inl (mi_get 2 13 72)), (72, .inl (mi_ald 0 73)), (73, .inl (mi_get 2 14 76)), (76, .inl (mi_ald 0 77)), (77, .inl (mi_get 2 0 80)), (80, .inl (mi_get 0 3 83)), (83, .inr (.inr (.inl (17, 4, some 1, [])))), (86, .inl (mi_push (.int 1) 87)), (87, .inr (.inl 2))]
def m_X2_endArc : mD := (yX2_endArc, cX2_endArc, 1, (some .boolean), [], t_X2_endArc)
def t_X2_takeNode : mT := [(0, .inl (mi_ald 0 1)), (1, .inl (mi_get 2 1 4)), (4, .inl (mi_get 1 0 7)), (7, .inl (mi_get 3 1 10)), (10, .inl (mi_ald 0 11)), (11, .inl (mi_get 2 9 14)), (14, .inl (mi_i2 (fun x y => x - y) 15)), (15, .inl (mi_ist 1 16)), (16, .inl (mi_ald 0 17)), (17, .inl (mi_get 2 1 20)), (20, .inl (mi_get 1 1 23)), (23, .inl (mi_ald 0 24)), (24, .inl (mi_get 2 1 27)), (27, .inl (mi_get 1 0 30)), (30, .inl (mi_ald 0 31)), (31, .inl (mi_get 2 9 34)), (34, .inl (mi_ild 1 35)), (35, .inr (.inr (.inl (60, 4, some 4, [])))), (38, .inl (mi_ist 2 39)), (39, .inl (mi_ild 2 40)), (40, .inl (mi_push (.int (-1)) 41)), (41, .inl (mi_b2 (fun x y => decide (x = y)) 46 44)), (44, .inl (mi_ild 2 45)), (45, .inr (.inl 1)), (46, .inl (mi_ald 0 47)), (47, .inl (mi_get 2 1 50)), (50, .inl (mi_get 1 1 53)), (53, .inl (mi_get 4 3 56)), (56, .inl (mi_push (.int 30) 58)), (58, .inl (mi_b2 (fun x y => decide (x < y)) 77 61)), (61, .inl (mi_ald 0 62)), (62, .inl (mi_get 2 0 65)), (65, .inl (mi_push (.int 6) 67)), (67, .inl (mi_ald 0 68)), (68, .inl (mi_get 2 8 71)), (71, .inr (.inr (.inl (8, 3, some 0, [])))), (74, .inl (mi_pop 75)), (75, .inl (mi_push (.int (-1)) 76)), (76, .inr (.inl 1)), (77, .inl (mi_ald 0 78)), (78, .inl (mi_get 2 1 81)), (81, .inl (mi_get 1 1 84)), (84, .inl (mi_ald 0 85)), (85, .inl (mi_get 2 9 88)), (88, .inl (mi_ild 1 89)), (89, .inr (.inr (.inl (56, 3, some 4, [])))), (92, .inl (mi_ald 0 93)), (93, .inl (mi_get 2 1 96)), (96, .inl (mi_get 1 1 99)), (99, .inl (mi_get 4 3 102)), (102, .inl (mi_push (.int 1) 103)), (103, .inl (mi_i2 (fun x y => x - y) 104)), (104, .inr (.inl 1))]
def m_X2_takeNode : mD := (yX2_takeNode, cX2_takeNode, 3, (some .int), [], t_X2_takeNode)
def t_X2_readValues : mT := [(0, .inl (mi_push (.int 0) 1)), (1, .inl (mi_ist 1 2)), (2, .inl (mi_ild 1 3)), (3, .inl (mi_ald 0 4)), (4, .inl (mi_get 2 1 7)), (7, .inl (mi_get 1 4 10)), (10, .inl (mi_get 3 1 13)), (13, .inl (mi_b2 (fun x y => decide (y ≤ x)) 90 16)), (16, .inl (mi_ald 0 17)), (17, .inr (.inr (.inl (44, 1, some 2, [])))), (20, .inl (mi_b1 (fun x => decide (x = 0)) 41 23)), (23, .inl (mi_ald 0 24)), (24, .inl (mi_ald 0 25)), (25, .inl (mi_get 2 1 28)), (28, .inl (mi_get 1 4 31)), (31, .inl (mi_ild 1 32)), (32, .inr (.inr (.inl (52, 2, some 3, [])))), (35, .inr (.inr (.inl (35, 2, some 2, [])))), (38, .inl (mi_b1 (fun x => decide (¬ x = 0)) 43 41)), (41, .inl (mi_push (.int 0) 42)), (42, .inr (.inl 2)), (43, .inl (mi_ald 0 44)), (44, .inl (mi_get 2 10 47)), (47, .inl (mi_push (.int 1) 48)), (48, .inl (mi_b2 (fun x y => decide (x = y)) 59 51)), (51, .inl (mi_ald 0 52)), (52, .inl (mi_get 2 10 55)), (55, .inl (mi_push (.int 2) 56)), (56, .inl (mi_b2 (fun x y => decide (¬ x = y)) 66 59)), (59, .inl (mi_ald 0 60)), (60, .inr (.inr (.inl (40, 1, some 2, [])))), (63, .inl (mi_go 67)), (66, .inl (mi_push (.int 0) 67)), (67, .inl (mi_ist 2 68)), (68, .inl (mi_ald 0 69)), (69, .inl (mi_get 2 1 72)), (72, .inl (mi_ald 0 73)), (73, .inl (mi_get 2 10 76)), (76, .inl (mi_ild 2 77)), (77, .inl (mi_ald 0 78)), (78, .inl (mi_get 2 11 81)), (81, .inr (.inr (.inl (18, 4, some 1, [])))), (84, .inl (mi_inc 1 1 87)), (87, .inl (mi_go 2)), (90, .inl (mi_push (.int 1) 91)), (91, .inr (.inl 2))]
def m_X2_readValues : mD := (yX2_readValues, cX2_readValues, 3, (some .boolean), [], t_X2_readValues)
def t_X2_readValue : mT := [(0, .inl (mi_ald 0 1)), (1, .inl (mi_ald 0 2)), (2, .inl (mi_get 2 1 5)), (5, .inl (mi_get 1 0 8)), (8, .inl (mi_get 3 1 11)), (11, .inl (mi_put 2 11 .int 14)), (14, .inl (mi_ald 0 15)), (15, .inl (mi_get 2 0 18)), (18, .inl (mi_get 0 2 21)), (21, .inl (mi_push (.int 45) 23)), (23, .inl (mi_b2 (fun x y => decide (¬ x = y)) 30 26)), (26, .inl (mi_push (.int 1) 27)), (27, .inl (mi_go 31)), (30, .inl (mi_push (.int 0) 31)), (31, .inl (mi_ist 2 32)), (32, .inl (mi_ild 2 33)), (33, .inl (mi_b1 (fun x => decide (x = 0)) 77 36)), (36, .inl (mi_ald 0 37)), (37, .inl (mi_get 2 1 40)), (40, .inl (mi_get 1 0 43)), (43, .inl (mi_ald 0 44)), (44, .inl (mi_get 2 0 47)), (47, .inl (mi_get 0 2 50)), (50, .inr (.inr (.inl (49, 2, some 3, [])))), (53, .inl (mi_ald 0 54)), (54, .inl (mi_get 2 0 57)), (57, .inr (.inr (.inl (4, 1, some 0, [])))), (60, .inl (mi_ald 0 61)), (61, .inl (mi_get 2 0 64)), (64, .inr (.inr (.inl (6, 1, some 0, [])))), (67, .inl (mi_b1 (fun x => decide (x = 0)) 77 70)), (70, .inl (mi_ald 0 71)), (71, .inl (mi_push (.int 0) 72)), (72, .inl (mi_put 2 10 .int 75)), (75, .inl (mi_push (.int 1) 76)), (76, .inr (.inl 2)), (77, .inl (mi_ild 2 78)), (78, .inl (mi_b1 (fun x => decide (¬ x = 0)) 113 81)), (81, .inl (mi_ild 1 82)), (82, .inl (mi_push (.int 2) 83)), (83, .inl (mi_b2 (fun x y => decide (x = y)) 103 86)), (86, .inl (mi_ild 1 87)), (87, .inl (mi_push (.int 3) 88)), (88, .inl (mi_b2 (fun x y => decide (¬ x = y)) 113 91)), (91, .inl (mi_ald 0 92)), (92, .inl (mi_get 2 0 95)), (95, .inl (mi_get 0 2 98)), (98, .inl (mi_push (.int 34) 100)), (100, .inl (mi_b2 (fun x y => decide (¬ x = y)) 113 103)), (103, .inl (mi_ald 0 104)), (104, .inl (mi_push (.int 3) 105)), (105, .inl (mi_put 2 10 .int 108)), (108, .inl (mi_ald 0 109)), (109, .inr (.inr (.inl (41, 1, some 2, [])))), (112, .inr (.inl 2)), (113, .inl (mi_ild 2 114)), (114, .inl (mi_b1 (fun x => decide (¬ x = 0)) 127 117)), (117, .inl (mi_ild 1 118)), (118, .inl (mi_push (.int 3) 119)), (119, .inl (mi_b2 (fun x y => decide (¬ x = y)) 127 122)), (122, .inl (mi_ald 0 123)), (123, .inr (.inr (.inl (38, 1, some 2, [])))), (126, .inr (.inl 2)), (127, .inl (mi_ild 2 128)), (128, .inl (mi_b1 (fun x => decide (¬ x = 0)) 185 131)), (131, .inl (mi_ald 0 132)), (132, .inl (mi_get 2 0 135)), (135, .inl (mi_get 0 2 138)), (138, .inl (mi_push (.int 34) 140)), (140, .inl (mi_b2 (fun x y => decide (x = y)) 169 143)), (143, .inl (mi_ald 0 144)), (144, .inl (mi_get 2 0 147)), (147, .inl (mi_get 0 2 150)), (150, .inr (.inr (.inl (92, 1, none, [])))), (153, .inl (mi_b1 (fun x => decide (x = 0)) 185 156)), (156, .inl (mi_ald 0 157)), (157, .inl (mi_get 2 0 160)), (160, .inl (mi_get 0 2 163)), (163, .inr (.inr (.inl (91, 1, none, [])))), (166, .inl (mi_b1 (fun x => decide (¬ x = 0)) 185 169)), (169, .inl (mi_ald 0 170)), (170, .inl (mi_get 2 0 173)), (173, .inl (mi_push (.int 3) 174)), (174, .inl (mi_ald 0 175)), (175, .inl (mi_get 2 0 178)), (178, .inl (mi_get 0 1 181)), (181, .inr (.inr (.inl (8, 3, some 0, [])))), (184, .inr (.inl 2)), (185, .inl (mi_ild 1 186)), (186, .inl (mi_push (.int 2) 187)), (187, .inl (mi_b2 (fun x y => decide (x = y)) 203 190)), (190, .inl (mi_ald 0 191)), (191, .inl (mi_get 2 0 194)), (194, .inl (mi_get 0 2 197)), (197, .inr (.inr (.inl (91, 1, none, [])))), (200, .inl (mi_b1 (fun x => decide (¬ x = 0)) 219 203)), (203, .inl (mi_ald 0 204)), (204, .inl (mi_get 2 0 207)), (207, .inl (mi_push (.int 1) 208)), (208, .inl (mi_ald 0 209)), (209, .inl (mi_get 2 0 212)), (212, .inl (mi_get 0 1 215)), (215, .inr (.inr (.inl (8, 3, some 0, [])))), (218, .inr (.inl 2)), (219, .inl (mi_ald 0 220)), (220, .inl (mi_ild 1 221)), (221, .inl (mi_ild 2 222)), (222, .inr (.inr (.inl (36, 3, some 2, [])))), (225, .inr (.inl 2))]
def m_X2_readValue : mD := (yX2_readValue, cX2_readValue, 3, (some .boolean), [], t_X2_readValue)
def t_X2_readFigures : mT := [(0, .inl (mi_ald 0 1)), (1, .inl (mi_get 2 0 4)), (4, .inl (mi_get 0 1 7)), (7, .inl (mi_ist 3 8)), (8, .inl (mi_ald 0 9)), (9, .inl (mi_get 2 0 12)), (12, .inl (mi_get 0 2 15)), (15, .inl (mi_push (.int 48) 17)), (17, .inl (mi_b2 (fun x y => decide (¬ x = y)) 24 20)), (20, .inl (mi_push (.int 1) 21)), (21, .inl (mi_go 25)), (24, .inl (mi_push (.int 0) 25)), (25, .inl (mi_ist 4 27)), (27, .inl (mi_ild 4 29)), (29, .inl (mi_b1 (fun x => decide (x = 0)) 56 32)), (32, .inl (mi_ild 2 33)), (33, .inl (mi_b1 (fun x => decide (x = 0)) 56 36)), (36, .inl (mi_ild 1 37)), (37, .inl (mi_b1 (fun x => decide (¬ x = 0)) 56 40)), (40, .inl (mi_ald 0 41)), (41, .inl (mi_get 2 0 44)), (44, .inl (mi_push (.int 1) 45)), (45, .inl (mi_ald 0 46)), (46, .inl (mi_get 2 0 49)), (49, .inl (mi_get 0 1 52)), (52, .inr (.inr (.inl (8, 3, some 0, [])))), (55, .inr (.inl 2)), (56, .inl (mi_push (.int 0) 57)), (57, .inl (mi_ist 5 59)), (59, .inl (mi_ild 5 61)), (61, .inl (mi_push (.int 6) 63)), (63, .inl (mi_b2 (fun x y => decide (y < x)) 158 66)), (66, .inl (mi_ald 0 67)), (67, .inl (mi_get 2 0 70)), (70, .inl (mi_get 0 2 73)), (73, .inr (.inr (.inl (91, 1, none, [])))), (76, .inl (mi_b1 (fun x => decide (x = 0)) 158 79)), (79, .inl (mi_ild 4 81)), (81, .inl (mi_b1 (fun x => decide (x = 0)) 105 84)), (84, .inl (mi_ild 5 86)), (86, .inl (mi_b1 (fun x => decide (x ≤ 0)) 105 89)), (89, .inl (mi_ald 0 90)), (90, .inl (mi_get 2 0 93)), (93, .inl (mi_push (.int 1) 94)), (94, .inl (mi_ald 0 95)), (95, .inl (mi_get 2 0 98)), (98, .inl (mi_get 0 1 101)), (101, .inr (.inr (.inl (8, 3, some 0, [])))), (104, .inr (.inl 2)), (105, .inl (mi_ild 5 107)), (107, .inl (mi_push (.int 6) 109)), (109, .inl (mi_b2 (fun x y => decide (¬ x = y)) 128 112)), (112, .inl (mi_ald 0 113)), (113, .inl (mi_get 2 0 116)), (116, .inl (mi_push (.int 2) 117)), (117, .inl (mi_ald 0 118)), (118, .inl (mi_get 2 0 121)), (121, .inl (mi_get 0 1 124)), (124, .inr (.inr (.inl (8, 3, some 0, [])))), (127, .inr (.inl 2)), (128, .inl (mi_ald 0 129)), (129, .inl (mi_get 2 1 132)), (132, .inl (mi_get 1 0 135)), (135, .inl (mi_ald 0 136)), (136, .inl (mi_get 2 0 139)), (139, .inl (mi_get 0 2 142)), (142, .inr (.inr (.inl (49, 2, some 3, [])))), (145, .inl (mi_ald 0 146)), (146, .inl (mi_get 2 0 149)), (149, .inr (.inr (.inl (4, 1, some 0, [])))), (152, .inl (mi_inc 5 1 155)), (155, .inl (mi_go 59)), (158, .inl (mi_ald 0 159)), (159, .inl (mi_get 2 0 162)), (162, .inl (mi_get 0 2 165)), (165, .inl (mi_push (.int 46) 167)), (167, .inl (mi_b2 (fun x y => decide (¬ x = y)) 180 170)), (170, .inl (mi_ild 1 171)), (171, .inl (mi_b1 (fun x => decide (x = 0)) 180 174)), (174, .inl (mi_ald 0 175)), (175, .inl (mi_ild 3 176)), (176, .inr (.inr (.inl (37, 2, some 2, [])))), (179, .inr (.inl 2)), (180, .inl (mi_ild 4 182)), (182, .inl (mi_b1 (fun x => decide (x = 0)) 199 185)), (185, .inl (mi_ild 2 186)), (186, .inl (mi_b1 (fun x => decide (x = 0)) 199 189)), (189, .inl (mi_ald 0 190)), (190, .inl (mi_get 2 0 193)), (193, .inl (mi_push (.int 1) 194)), (194, .inl (mi_ild 3 195)), (195, .inr (.inr (.inl (8, 3, some 0, [])))), (198, .inr (.inl 2)), (199, .inl (mi_ald 0 200)), (200, .inl (mi_push (.int 1) 201)), (201, .inl (mi_put 2 10 .int 204)), (204, .inl (mi_push (.int 1) 205)), (205, .inr (.inl 2))]
def m_X2_readFigures : mD := (yX2_readFigures, cX2_readFigures, 6, (some .boolean), [], t_X2_readFigures)
def t_X2_readFraction : mT := [(0, .inl (mi_ald 0 1)), (1, .inl (mi_get 2 0 4)), (4, .inl (mi_get 0 1 7)), (7, .inl (mi_ild 1 8)), (8, .inl (mi_i2 (fun x y => x - y) 9)), (9, .inl (mi_push (.int 3) 10)), (10, .inl (mi_b2 (fun x y => decide (x ≤ y)) 25 13)), (13, .inl (mi_ald 0 14)), (14, .inl (mi_get 2 0 17)), (17, .inl (mi_push (.int 2) 18)), (18, .inl (mi_ild 1 19)), (19, .inl (mi_push (.int 3) 20)), (20, .inl (mi_i2 (fun x y => x + y) 21)), (21, .inr (.inr (.inl (8, 3, some 0, [])))), (24, .inr (.inl 2)), (25, .inl (mi_ald 0 26)), (26, .inl (mi_push (.int 2) 27)), (27, .inl (mi_put 2 10 .int 30)), (30, .inl (mi_ald 0 31)), (31, .inl (mi_get 2 1 34)), (34, .inl (mi_get 1 0 37)), (37, .inl (mi_ald 0 38)), (38, .inl (mi_get 2 0 41)), (41, .inl (mi_get 0 2 44)), (44, .inr (.inr (.inl (49, 2, some 3, [])))), (47, .inl (mi_ald 0 48)), (48, .inl (mi_get 2 0 51)), (51, .inr (.inr (.inl (4, 1, some 0, [])))), (54, .inl (mi_ald 0 55)), (55, .inl (mi_get 2 0 58)), (58, .inl (mi_get 0 2 61)), (61, .inr (.inr (.inl (91, 1, none, [])))), (64, .inl (mi_b1 (fun x => decide (¬ x = 0)) 83 67)), (67, .inl (mi_ald 0 68)), (68, .inl (mi_get 2 0 71)), (71, .inl (mi_push (.int 1) 72)), (72, .inl (mi_ald 0 73)), (73, .inl (mi_get 2 0 76)), (76, .inl (mi_get 0 1 79)), (79, .inr (.inr (.inl (8, 3, some 0, [])))), (82, .inr (.inl 2)), (83, .inl (mi_push (.int 0) 84)), (84, .inl (mi_ist 2 85)), (85, .inl (mi_ild 2 86)), (86, .inl (mi_push (.int 3) 87)), (87, .inl (mi_b2 (fun x y => decide (y < x)) 154 90)), (90, .inl (mi_ald 0 91)), (91, .inl (mi_get 2 0 94)), (94, .inl (mi_get 0 2 97)), (97, .inr (.inr (.inl (91, 1, none, [])))), (100, .inl (mi_b1 (fun x => decide (x = 0)) 154 103)), (103, .inl (mi_ild 2 104)), (104, .inl (mi_push (.int 3) 105)), (105, .inl (mi_b2 (fun x y => decide (¬ x = y)) 124 108)), (108, .inl (mi_ald 0 109)), (109, .inl (mi_get 2 0 112)), (112, .inl (mi_push (.int 2) 113)), (113, .inl (mi_ald 0 114)), (114, .inl (mi_get 2 0 117)), (117, .inl (mi_get 0 1 120)), (120, .inr (.inr (.inl (8, 3, some 0, [])))), (123, .inr (.inl 2)), (124, .inl (mi_ald 0 125)), (125, .inl (mi_get 2 1 128)), (128, .inl (mi_get 1 0 131)), (131, .inl (mi_ald 0 132)), (132, .inl (mi_get 2 0 135)), (135, .inl (mi_get 0 2 138)), (138, .inr (.inr (.inl (49, 2, some 3, [])))), (141, .inl (mi_ald 0 142)), (142, .inl (mi_get 2 0 145)), (145, .inr (.inr (.inl (4, 1, some 0, [])))), (148, .inl (mi_inc 2 1 151)), (151, .inl (mi_go 85)), (154, .inl (mi_push (.int 1) 155)), (155, .inr (.inl 2))]
def m_X2_readFraction : mD := (yX2_readFraction, cX2_readFraction, 3, (some .boolean), [], t_X2_readFraction)
def t_X2_readGuessed : mT := [(0, .inl (mi_ald 0 1)), (1, .inl (mi_get 2 0 4)), (4, .inl (mi_get 0 1 7)), (7, .inl (mi_ist 1 8)), (8, .inl (mi_ald 0 9)), (9, .inr (.inr (.inl (42, 1, some 2, [])))), (12, .inl (mi_b1 (fun x => decide (¬ x = 0)) 17 15)), (15, .inl (mi_push (.int 0) 16)), (16, .inr (.inl 2)), (17, .inl (mi_ald 0 18)), (18, .inl (mi_get 2 1 21)), (21, .inl (mi_get 1 0 24)), (24, .inl (mi_get 3 1 27)), (27, .inl (mi_ald 0 28)), (28, .inl (mi_get 2 11 31)), (31, .inl (mi_i2 (fun x y => x - y) 32)), (32, .inl (mi_ist 2 33)), (33, .inl (mi_ild 2 34)), (34, .inl (mi_push (.int 1) 35)), (35, .inl (mi_b2 (fun x y => decide (x ≤ y)) 61 38)), (38, .inl (mi_ald 0 39)), (39, .inl (mi_get 2 1 42)), (42, .inl (mi_get 1 0 45)), (45, .inl (mi_ald 0 46)), (46, .inl (mi_get 2 11 49)), (49, .inr (.inr (.inl (52, 2, some 3, [])))), (52, .inl (mi_push (.int 48) 54)), (54, .inl (mi_b2 (fun x y => decide (¬ x = y)) 61 57)), (57, .inl (mi_push (.int 1) 58)), (58, .inl (mi_go 62)), (61, .inl (mi_push (.int 0) 62)), (62, .inl (mi_ist 3 63)), (63, .inl (mi_ald 0 64)), (64, .inl (mi_ald 0 65)), (65, .inl (mi_get 2 11 68)), (68, .inr (.inr (.inl (39, 2, some 2, [])))), (71, .inl (mi_ist 4 73)), (73, .inl (mi_ild 4 75)), (75, .inl (mi_b1 (fun x => decide (x = 0)) 114 78)), (78, .inl (mi_ald 0 79)), (79, .inl (mi_get 2 0 82)), (82, .inl (mi_get 0 2 85)), (85, .inl (mi_push (.int 46) 87)), (87, .inl (mi_b2 (fun x y => decide (¬ x = y)) 114 90)), (90, .inl (mi_ild 3 91)), (91, .inl (mi_b1 (fun x => decide (x = 0)) 108 94)), (94, .inl (mi_ald 0 95)), (95, .inl (mi_get 2 0 98)), (98, .inl (mi_push (.int 1) 99)), (99, .inl (mi_ild 1 100)), (100, .inl (mi_push (.int 1) 101)), (101, .inl (mi_i2 (fun x y => x + y) 102)), (102, .inr (.inr (.inl (8, 3, some 0, [])))), (105, .inl (mi_go 113)), (108, .inl (mi_ald 0 109)), (109, .inl (mi_ild 1 110)), (110, .inr (.inr (.inl (37, 2, some 2, [])))), (113, .inr (.inl 2)), (114, .inl (mi_ald 0 115)), (115, .inl (mi_ild 4 117)), (117, .inl (mi_b1 (fun x => decide (x = 0)) 134 120)), (120, .inl (mi_ild 3 121)), (121, .inl (mi_b1 (fun x => decide (¬ x = 0)) 134 124)), (124, .inl (mi_ild 2 125)), (125, .inl (mi_push (.int 6) 127)), (127, .inl (mi_b2 (fun x y => decide (y < x)) 134 130)), (130, .inl (mi_push (.int 1) 131)), (131, .inl (mi_go 135)), (134, .inl (mi_push (.int 3) 135)), (135, .inl (mi_put 2 10 .int 138)), (138, .inl (mi_push (.int 1) 139)), (139, .inr (.inl 2))]
def m_X2_readGuessed : mD := (yX2_readGuessed, cX2_readGuessed, 5, (some .boolean), [], t_X2_readGuessed)
def t_X2_figuresOnly : mT := [(0, .inl (mi_ild 1 1)), (1, .inl (mi_ist 2 2)), (2, .inl (mi_ild 2 3)), (3, .inl (mi_ald 0 4)), (4, .inl (mi_get 2 1 7)), (7, .inl (mi_get 1 0 10)), (10, .inl (mi_get 3 1 13)), (13, .inl (mi_b2 (fun x y => decide (y ≤ x)) 41 16)), (16, .inl (mi_ald 0 17)), (17, .inl (mi_get 2 1 20)), (20, .inl (mi_get 1 0 23)), (23, .inl (mi_ild 2 24)), (24, .inr (.inr (.inl (52, 2, some 3, [])))), (27, .inr (.inr (.inl (91, 1, none, [])))), (30, .inl (mi_b1 (fun x => decide (¬ x = 0)) 35 33)), (33, .inl (mi_push (.int 0) 34)), (34, .inr (.inl 2)), (35, .inl (mi_inc 2 1 38)), (38, .inl (mi_go 2)), (41, .inl (mi_push (.int 1) 42)), (42, .inr (.inl 2))]
def m_X2_figuresOnly : mD := (yX2_figuresOnly, cX2_figuresOnly, 3, (some .boolean), [], t_X2_figuresOnly)
def t_X2_thousandthsRead : mT := [(0, .inl (mi_push (.int 0) 1)), (1, .inl (mi_ist 1 2)), (2, .inl (mi_push (.int 0) 3)), (3, .inl (mi_ist 2 4)), (4, .inl (mi_push (.int 0) 5)), (5, .inl (mi_ist 3 6)), (6, .inl (mi_ald 0 7)), (7, .inl (mi_get 2 11 10)), (10, .inl (mi_ist 4 12)), (12, .inl (mi_ild 4 14)), (14, .inl (mi_ald 0 15)), (15, .inl (mi_get 2 1 18)), (18, .inl (mi_get 1 0 21)), (21, .inl (mi_get 3 1 24)), (24, .inl (mi_b2 (fun x y => decide (y ≤ x)) 90 27)), (27, .inl (mi_ald 0 28)), (28, .inl (mi_get 2 1 31)), (31, .inl (mi_get 1 0 34)), (34, .inl (mi_ild 4 36)), (36, .inr (.inr (.inl (52, 2, some 3, [])))), (39, .inl (mi_ist 5 41)), (41, .inl (mi_ild 5 43)), (43, .inl (mi_push (.int 46) 45)), (45, .inl (mi_b2 (fun x y => decide (¬ x = y)) 53 48)), (48, .inl (mi_push (.int 1) 49)), (49, .inl (mi_ist 3 50)), (50, .inl (mi_go 84)), (53, .inl (mi_ild 5 55)), (55, .inr (.inr (.inl (91, 1, none, [])))), (58, .inl (mi_b1 (fun x => decide (x = 0)) 84 61)), (61, .inl (mi_ild 1 62)), (62, .inl (mi_push (.int 10) 64)), (64, .inl (mi_i2 (fun x y => x * y) 65)), (65, .inl (mi_ild 5 67)), (67, .inl (mi_push (.int 48) 69)), (69, .inl (mi_i2 (fun x y => x - y) 70)), (70, .inl (mi_i2 (fun x y => x + y) 71)), (71, .inl (mi_ist 1 72)), (72, .inl (mi_ild 3 73)), (73, .inl (mi_b1 (fun x => decide (x = 0)) 82 76)), (76, .inl (mi_ild 2 77)), (77, .inl (mi_push (.int 1) 78)), (78, .inl (mi_i2 (fun x y => x + y) 79)), (79, .inl (mi_go 83)), (82, .inl (mi_push (.int 0) 83)), (83, .inl (mi_ist 2 84)), (84, .inl (mi_inc 4 1 87)), (87, .inl (mi_go 12)), (90, .inl (mi_ild 2 91)), (91, .inl (mi_ist 4 93)), (93, .inl (mi_ild 4 95)), (95, .inl (mi_push (.int 3) 96)), (96, .inl (mi_b2 (fun x y => decide (y ≤ x)) 110 99)), (99, .inl (mi_ild 1 100)), (100, .inl (mi_push (.int 10) 102)), (102, .inl (mi_i2 (fun x y => x * y) 103)), (103, .inl (mi_ist 1 104)), (104, .inl (mi_inc 4 1 107)), (107, .inl (mi_go 93)), (110, .inl (mi_ald 0 111)), (111, .inl (mi_get 2 1 114)), (114, .inl (mi_get 1 0 117)), (117, .inl (mi_ald 0 118)), (118, .inl (mi_get 2 11 121)), (121, .inr (.inr (.inl (52, 2, some 3, [])))), (124, .inl (mi_push (.int 45) 126)), (126, .inl (mi_b2 (fun x y => decide (¬ x = y)) 134 129)), (129, .inl (mi_ild 1 130)), (130, .inl (mi_i1 (fun x => -x) 131)), (131, .inl (mi_go 135)), (134, .inl (mi_ild 1 135)), (135, .inr (.inl 1))]
def m_X2_thousandthsRead : mD := (yX2_thousandthsRead, cX2_thousandthsRead, 6, (some .int), [], t_X2_thousandthsRead)
def t_X2_readName : mT := [(0, .inl (mi_ald 0 1)), (1, .inl (mi_ald 0 2)), (2, .inl (mi_get 2 0 5)), (5, .inl (mi_get 0 1 8)), (8, .inl (mi_put 2 8 .int 11)), (11, .inl (mi_ald 0 12)), (12, .inl (mi_ald 0 13)), (13, .inl (mi_get 2 1 16)), (16, .inl (mi_get 1 0 19)), (19, .inl (mi_get 3 1 22)), (22, .inl (mi_put 2 9 .int 25)), (25, .inl (mi_ald 0 26)), (26, .inl (mi_get 2 0 29)), (29, .inl (mi_get 0 2 32)), (32, .inl (mi_push (.int 34) 34)), (34, .inl (mi_b2 (fun x y => decide (¬ x = y)) 44 37)), (37, .inl (mi_ald 0 38)), (38, .inr (.inr (.inl (43, 1, some 2, [])))), (41, .inl (mi_go 48)), (44, .inl (mi_ald 0 45)), (45, .inr (.inr (.inl (42, 1, some 2, [])))), (48, .inr (.inl 2))]
def m_X2_readName : mD := (yX2_readName, cX2_readName, 1, (some .boolean), [], t_X2_readName)
def t_X2_readPlain : mT := [(0, .inl (mi_ald 0 1)), (1, .inl (mi_get 2 0 4)), (4, .inl (mi_get 0 2 7)), (7, .inr (.inr (.inl (92, 1, none, [])))), (10, .inl (mi_b1 (fun x => decide (¬ x = 0)) 29 13)), (13, .inl (mi_ald 0 14)), (14, .inl (mi_get 2 0 17)), (17, .inl (mi_push (.int 1) 18)), (18, .inl (mi_ald 0 19)), (19, .inl (mi_get 2 0 22)), (22, .inl (mi_get 0 1 25)), (25, .inr (.inr (.inl (8, 3, some 0, [])))), (28, .inr (.inl 2)), (29, .inl (mi_push (.int 0) 30)), (30, .inl (mi_ist 1 31)), (31, .inl (mi_ild 1 32)), (32, .inl (mi_push (.int 8) 34)), (34, .inl (mi_b2 (fun x y => decide (y < x)) 102 37)), (37, .inl (mi_ald 0 38)), (38, .inl (mi_get 2 0 41)), (41, .inl (mi_get 0 2 44)), (44, .inr (.inr (.inl (92, 1, none, [])))), (47, .inl (mi_b1 (fun x => decide (x = 0)) 102 50)), (50, .inl (mi_ild 1 51)), (51, .inl (mi_push (.int 8) 53)), (53, .inl (mi_b2 (fun x y => decide (¬ x = y)) 72 56)), (56, .inl (mi_ald 0 57)), (57, .inl (mi_get 2 0 60)), (60, .inl (mi_push (.int 2) 61)), (61, .inl (mi_ald 0 62)), (62, .inl (mi_get 2 0 65)), (65, .inl (mi_get 0 1 68)), (68, .inr (.inr (.inl (8, 3, some 0, [])))), (71, .inr (.inl 2)), (72, .inl (mi_ald 0 73)), (73, .inl (mi_get 2 1 76)), (76, .inl (mi_get 1 0 79)), (79, .inl (mi_ald 0 80)), (80, .inl (mi_get 2 0 83)), (83, .inl (mi_get 0 2 86)), (86, .inr (.inr (.inl (49, 2, some 3, [])))), (89, .inl (mi_ald 0 90)), (90, .inl (mi_get 2 0 93)), (93, .inr (.inr (.inl (4, 1, some 0, [])))), (96, .inl (mi_inc 1 1 99)), (99, .inl (mi_go 31)), (102, .inl (mi_push (.int 1) 103)), (103, .inr (.inl 2))]
def m_X2_readPlain : mD := (yX2_readPlain, cX2_readPlain, 2, (some .boolean), [], t_X2_readPlain)
def t_X2_readQuoted : mT := [(0, .inl (mi_ald 0 1)), (1, .inl (mi_get 2 0 4)), (4, .inr (.inr (.inl (4, 1, some 0, [])))), (7, .inl (mi_ald 0 8)), (8, .inl (mi_get 2 0 11)), (11, .inl (mi_get 0 2 14)), (14, .inl (mi_push (.int 34) 16)), (16, .inl (mi_b2 (fun x y => decide (¬ x = y)) 35 19)), (19, .inl (mi_ald 0 20)), (20, .inl (mi_get 2 0 23)), (23, .inl (mi_push (.int 1) 24)), (24, .inl (mi_ald 0 25)), (25, .inl (mi_get 2 0 28)), (28, .inl (mi_get 0 1 31)), (31, .inr (.inr (.inl (8, 3, some 0, [])))), (34, .inr (.inl 2)), (35, .inl (mi_push (.int 0) 36)), (36, .inl (mi_ist 1 37)), (37, .inl (mi_ild 1 38)), (38, .inl (mi_push (.int 8) 40)), (40, .inl (mi_b2 (fun x y => decide (y < x)) 195 43)), (43, .inl (mi_ald 0 44)), (44, .inl (mi_get 2 0 47)), (47, .inl (mi_get 0 2 50)), (50, .inl (mi_push (.int 34) 52)), (52, .inl (mi_b2 (fun x y => decide (x = y)) 195 55)), (55, .inl (mi_ald 0 56)), (56, .inl (mi_get 2 0 59)), (59, .inl (mi_get 0 2 62)), (62, .inr (.inr (.inl (93, 1, none, [])))), (65, .inl (mi_b1 (fun x => decide (¬ x = 0)) 84 68)), (68, .inl (mi_ald 0 69)), (69, .inl (mi_get 2 0 72)), (72, .inl (mi_push (.int 1) 73)), (73, .inl (mi_ald 0 74)), (74, .inl (mi_get 2 0 77)), (77, .inl (mi_get 0 1 80)), (80, .inr (.inr (.inl (8, 3, some 0, [])))), (83, .inr (.inl 2)), (84, .inl (mi_ild 1 85)), (85, .inl (mi_push (.int 8) 87)), (87, .inl (mi_b2 (fun x y => decide (¬ x = y)) 106 90)), (90, .inl (mi_ald 0 91)), (91, .inl (mi_get 2 0 94)), (94, .inl (mi_push (.int 2) 95)), (95, .inl (mi_ald 0 96)), (96, .inl (mi_get 2 0 99)), (99, .inl (mi_get 0 1 102)), (102, .inr (.inr (.inl (8, 3, some 0, [])))), (105, .inr (.inl 2)), (106, .inl (mi_ald 0 107)), (107, .inl (mi_get 2 0 110)), (110, .inl (mi_get 0 2 113)), (113, .inl (mi_push (.int 92) 115)), (115, .inl (mi_b2 (fun x y => decide (¬ x = y)) 165 118)), (118, .inl (mi_ald 0 119)), (119, .inl (mi_get 2 0 122)), (122, .inr (.inr (.inl (4, 1, some 0, [])))), (125, .inl (mi_ald 0 126)), (126, .inl (mi_get 2 0 129)), (129, .inl (mi_get 0 2 132)), (132, .inl (mi_push (.int 34) 134)), (134, .inl (mi_b2 (fun x y => decide (x = y)) 165 137)), (137, .inl (mi_ald 0 138)), (138, .inl (mi_get 2 0 141)), (141, .inl (mi_get 0 2 144)), (144, .inl (mi_push (.int 92) 146)), (146, .inl (mi_b2 (fun x y => decide (x = y)) 165 149)), (149, .inl (mi_ald 0 150)), (150, .inl (mi_get 2 0 153)), (153, .inl (mi_push (.int 1) 154)), (154, .inl (mi_ald 0 155)), (155, .inl (mi_get 2 0 158)), (158, .inl (mi_get 0 1 161)), (161, .inr (.inr (.inl (8, 3, some 0, [])))), (164, .inr (.inl 2)), (165, .inl (mi_ald 0 166)), (166, .inl (mi_get 2 1 169)), (169, .inl (mi_get 1 0 172)), (172, .inl (mi_ald 0 173)), (173, .inl (mi_get 2 0 176)), (176, .inl (mi_get 0 2 179)), (179, .inr (.inr (.inl (49, 2, some 3, [])))), (182, .inl (mi_ald 0 183)), (183, .inl (mi_get 2 0 186)), (186, .inr (.inr (.inl (4, 1, some 0, [])))), (189, .inl (mi_inc 1 1 192)), (192, .inl (mi_go 37)), (195, .inl (mi_ald 0 196)), (196, .inl (mi_get 2 0 199)), (199, .inr (.inr (.inl (4, 1, some 0, [])))), (202, .inl (mi_push (.int 1) 203)), (203, .inr (.inl 2))]
def m_X2_readQuoted : mD := (yX2_readQuoted, cX2_readQuoted, 2, (some .boolean), [], t_X2_readQuoted)
def t_X2_readGap : mT := [(0, .inl (mi_ald 0 1)), (1, .inl (mi_get 2 0 4)), (4, .inl (mi_get 0 2 7)), (7, .inl (mi_push (.int 32) 9)), (9, .inl (mi_b2 (fun x y => decide (x = y)) 28 12)), (12, .inl (mi_ald 0 13)), (13, .inl (mi_get 2 0 16)), (16, .inl (mi_push (.int 1) 17)), (17, .inl (mi_ald 0 18)), (18, .inl (mi_get 2 0 21)), (21, .inl (mi_get 0 1 24)), (24, .inr (.inr (.inl (8, 3, some 0, [])))), (27, .inr (.inl 2)), (28, .inl (mi_ald 0 29)), (29, .inl (mi_get 2 0 32)), (32, .inr (.inr (.inl (5, 1, some 0, [])))), (35, .inl (mi_push (.int 1) 36)), (36, .inr (.inl 2))]
def m_X2_readGap : mD := (yX2_readGap, cX2_readGap, 1, (some .boolean), [], t_X2_readGap)
def t_X2_readLineEnd : mT := [(0, .inl (mi_ald 0 1)), (1, .inl (mi_get 2 0 4)), (4, .inr (.inr (.inl (5, 1, some 0, [])))), (7, .inl (mi_ald 0 8)), (8, .inl (mi_get 2 0 11)), (11, .inl (mi_get 0 2 14)), (14, .inl (mi_push (.int (-1)) 15)), (15, .inl (mi_b2 (fun x y => decide (x = y)) 36 18)), (18, .inl (mi_ald 0 19)), (19, .inl (mi_get 2 0 22)), (22, .inl (mi_push (.int 1) 23)), (23, .inl (mi_ald 0 24)), (24, .inl (mi_get 2 0 27)), (27, .inl (mi_get 0 1 30)), (30, .inr (.inr (.inl (8, 3, some 0, [])))), (33, .inl (mi_b1 (fun x => decide (x = 0)) 40 36)), (36, .inl (mi_push (.int 1) 37)), (37, .inl (mi_go 41)), (40, .inl (mi_push (.int 0) 41)), (41, .inr (.inl 2))]
def m_X2_readLineEnd : mD := (yX2_readLineEnd, cX2_readLineEnd, 1, (some .boolean), [], t_X2_readLineEnd)
def t_X3_init : mT := [(0, .inl (mi_ald 0 1)), (1, .inl (mi_obj 4)), (4, .inl (mi_ald 0 5)), (5, .inl (mi_ild 1 6)), (6, .inl (mi_push (.int 0) 7)), (7, .inl (mi_mx (fun x y => if x < y then y else x) 10)), (10, .inl (mi_newI 12)), (12, .inl (mi_put 3 0 (.array .int) 15)), (15, .inl (mi_ald 0 16)), (16, .inl (mi_push (.int 0) 17)), (17, .inl (mi_put 3 1 .int 20)), (20, .inr (.inl 0))]
def m_X3_init : mD := (yX3_init, cX3_init, 2, none, [], t_X3_init)
def t_X3_clear : mT := [(0, .inl (mi_ald 0 1)), (1, .inl (mi_push (.int 0) 2)), (2, .inl (mi_put 3 1 .int 5)), (5, .inr (.inl 0))]
def m_X3_clear : mD := (yX3_clear, cX3_clear, 1, none, [], t_X3_clear)
def t_X3_cut : mT := [(0, .inl (mi_ald 0 1)), (1, .inl (mi_push (.int 0) 2)), (2, .inl (mi_ald 0 3)), (3, .inl (mi_get 3 1 6)), (6, .inl (mi_ild 1 7)), (7, .inl (mi_mx (fun x y => if y < x then y else x) 10)), (10, .inl (mi_mx (fun x y => if x < y then y else x) 13)), (13, .inl (mi_put 3 1 .int 16)), (16, .inr (.inl 0))]
def m_X3_cut : mD := (yX3_cut, cX3_cut, 2, none, [], t_X3_cut)
def t_X3_add : mT := [(0, .inl (mi_ald 0 1)), (1, .inl (mi_get 3 1 4)), (4, .inl (mi_b1 (fun x => decide (x < 0)) 39 7)), (7, .inl (mi_ald 0 8)), (8, .inl (mi_get 3 1 11)), (11, .inl (mi_ald 0 12)), (12, .inl (mi_get 3 0 15)), (15, .inl (mi_alen 16)), (16, .inl (mi_b2 (fun x y => decide (y ≤ x)) 39 19)), (19, .inl (mi_ald 0 20)), (20, .inl (mi_get 3 0 23)), (23, .inl (mi_ald 0 24)), (24, .inl (mi_get 3 1 27)), (27, .inl (mi_ild 1 28)), (28, .inl (mi_iast 29)), (29, .inl (mi_ald 0 30)), (30, .inl (mi_dup 31)), (31, .inl (mi_get 3 1 34)), (34, .inl (mi_push (.int 1) 35)), (35, .inl (mi_i2 (fun x y => x + y) 36)), (36, .inl (mi_put 3 1 .int 39)), (39, .inr (.inl 0))]
def m_X3_add : mD := (yX3_add, cX3_add, 2, none, [], t_X3_add)
def t_X3_put : mT := [(0, .inl (mi_ild 1 1)), (1, .inl (mi_b1 (fun x => decide (x < 0)) 28 4)), (4, .inl (mi_ild 1 5)), (5, .inl (mi_ald 0 6)), (6, .inl (mi_get 3 1 9)), (9, .inl (mi_b2 (fun x y => decide (y ≤ x)) 28 12)), (12, .inl (mi_ild 1 13)), (13, .inl (mi_ald 0 14)), (14, .inl (mi_get 3 0 17)), (17, .inl (mi_alen 18)), (18, .inl (mi_b2 (fun x y => decide (y ≤ x)) 28 21)), (21, .inl (mi_ald 0 22)), (22, .inl (mi_get 3 0 25)), (25, .inl (mi_ild 1 26)), (26, .inl (mi_ild 2 27)), (27, .inl (mi_iast 28)), (28, .inr (.inl 0))]
def m_X3_put : mD := (yX3_put, cX3_put, 3, none, [], t_X3_put)
def t_X3_has : mT := [(0, .inl (mi_ild 1 1)), (1, .inl (mi_b1 (fun x => decide (x < 0)) 25 4)), (4, .inl (mi_ild 1 5)), (5, .inl (mi_ald 0 6)), (6, .inl (mi_get 3 1 9)), (9, .inl (mi_b2 (fun x y => decide (y ≤ x)) 25 12)), (12, .inl (mi_ild 1 13)), (13, .inl (mi_ald 0 14)), (14, .inl (mi_get 3 0 17)), (17, .inl (mi_alen 18)), (18, .inl (mi_b2 (fun x y => decide (y ≤ x)) 25 21)), (21, .inl (mi_push (.int 1) 22)), (22, .inl (mi_go 26)), (25, .inl (mi_push (.int 0) 26)), (26, .inr (.inl 2))]
def m_X3_has : mD := (yX3_has, cX3_has, 2, (some .boolean), [], t_X3_has)
def t_X3_at : mT := [(0, .inl (mi_ild 1 1)), (1, .inl (mi_b1 (fun x => decide (x < 0)) 30 4)), (4, .inl (mi_ild 1 5)), (5, .inl (mi_ald 0 6)), (6, .inl (mi_get 3 1 9)), (9, .inl (mi_b2 (fun x y => decide (y ≤ x)) 30 12)), (12, .inl (mi_ild 1 13)), (13, .inl (mi_ald 0 14)), (14, .inl (mi_get 3 0 17)), (17, .inl (mi_alen 18)), (18, .inl (mi_b2 (fun x y => decide (y ≤ x)) 30 21)), (21, .inl (mi_ald 0 22)), (22, .inl (mi_get 3 0 25)), (25, .inl (mi_ild 1 26)), (26, .inl (mi_iald 27)), (27, .inl (mi_go 31)), (30, .inl (mi_push (.int (-1)) 31)), (31, .inr (.inl 1))]
def m_X3_at : mD := (yX3_at, cX3_at, 2, (some .int), [], t_X3_at)
def t_X4_init : mT := [(0, .inl (mi_ald 0 1)), (1, .inl (mi_obj 4)), (4, .inl (mi_ald 0 5)), (5, .inl (mi_ald 1 6)), (6, .inl (mi_put 4 0 (.object "GraphTexts$Row") 9)), (9, .inl (mi_ald 0 10)), (10, .inl (mi_new 3 [.null, .int 0] 13)), (13, .inl (mi_dup 14)), (14, .inl (mi_ild 2 15)), (15, .inr (.inr (.inl (46, 2, some 3, [])))), (18, .inl (mi_put 4 1 (.object "GraphTexts$Row") 21)), (21, .inl (mi_ald 0 22)), (22, .inl (mi_new 3 [.null, .int 0] 25)), (25, .inl (mi_dup 26)), (26, .inl (mi_ild 2 27)), (27, .inr (.inr (.inl (46, 2, some 3, [])))), (30, .inl (mi_put 4 2 (.object "GraphTexts$Row") 33)), (33, .inl (mi_ald 0 34)), (34, .inl (mi_push (.int 0) 35)), (35, .inl (mi_put 4 3 .int 38)), (38, .inr (.inl 0))]
def m_X4_init : mD := (yX4_init, cX4_init, 3, none, [], t_X4_init)
def t_X4_clear : mT := [(0, .inl (mi_ald 0 1)), (1, .inl (mi_get 4 1 4)), (4, .inr (.inr (.inl (47, 1, some 3, [])))), (7, .inl (mi_ald 0 8)), (8, .inl (mi_get 4 2 11)), (11, .inr (.inr (.inl (47, 1, some 3, [])))), (14, .inl (mi_ald 0 15)), (15, .inl (mi_push (.int 0) 16)), (16, .inl (mi_put 4 3 .int 19)), (19, .inr (.inl 0))]
def m_X4_clear : mD := (yX4_clear, cX4_clear, 1, none, [], t_X4_clear)
def t_X4_cut : mT := [(0, .inl (mi_ald 0 1)), (1, .inl (mi_get 4 1 4)), (4, .inl (mi_ild 1 5)), (5, .inr (.inr (.inl (48, 2, some 3, [])))), (8, .inl (mi_ald 0 9)), (9, .inl (mi_get 4 2 12)), (12, .inl (mi_ild 1 13)), (13, .inr (.inr (.inl (48, 2, some 3, [])))), (16, .inl (mi_ald 0 17)), (17, .inl (mi_ald 0 18)), (18, .inl (mi_get 4 2 21)), (21, .inl (mi_get 3 1 24)), (24, .inl (mi_put 4 3 .int 27)), (27, .inr (.inl 0))]
def m_X4_cut : mD := (yX4_cut, cX4_cut, 2, none, [], t_X4_cut)
def t_X4_add : mT := [(0, .inl (mi_ald 0 1)), (1, .inl (mi_get 4 1 4)), (4, .inl (mi_ild 1 5)), (5, .inr (.inr (.inl (49, 2, some 3, [])))), (8, .inl (mi_ald 0 9)), (9, .inl (mi_get 4 2 12)), (12, .inl (mi_ild 2 13)), (13, .inr (.inr (.inl (49, 2, some 3, [])))), (16, .inl (mi_ald 0 17)), (17, .inl (mi_ald 0 18)), (18, .inl (mi_get 4 2 21)), (21, .inl (mi_get 3 1 24)), (24, .inl (mi_put 4 3 .int 27)), (27, .inr (.inl 0))]
def m_X4_add : mD := (yX4_add, cX4_add, 3, none, [], t_X4_add)
def t_X4_has : mT := [(0, .inl (mi_ild 1 1)), (1, .inl (mi_b1 (fun x => decide (x < 0)) 16 4)), (4, .inl (mi_ild 1 5)), (5, .inl (mi_ald 0 6)), (6, .inl (mi_get 4 3 9)), (9, .inl (mi_b2 (fun x y => decide (y ≤ x)) 16 12)), (12, .inl (mi_push (.int 1) 13)), (13, .inl (mi_go 17)), (16, .inl (mi_push (.int 0) 17)), (17, .inr (.inl 2))]
def m_X4_has : mD := (yX4_has, cX4_has, 2, (some .boolean), [], t_X4_has)
def t_X4_lengthOf : mT := [(0, .inl (mi_ald 0 1)), (1, .inl (mi_get 4 2 4)), (4, .inl (mi_ild 1 5)), (5, .inr (.inr (.inl (52, 2, some 3, [])))), (8, .inr (.inl 1))]
def m_X4_lengthOf : mD := (yX4_lengthOf, cX4_lengthOf, 2, (some .int), [], t_X4_lengthOf)
def t_X4_signAt : mT := [(0, .inl (mi_ild 2 1)), (1, .inl (mi_b1 (fun x => decide (x < 0)) 36 4)), (4, .inl (mi_ild 2 5)), (5, .inl (mi_ald 0 6)), (6, .inl (mi_get 4 2 9)), (9, .inl (mi_ild 1 10)), (10, .inr (.inr (.inl (52, 2, some 3, [])))), (13, .inl (mi_b2 (fun x y => decide (y ≤ x)) 36 16)), (16, .inl (mi_ald 0 17)), (17, .inl (mi_get 4 0 20)), (20, .inl (mi_ald 0 21)), (21, .inl (mi_get 4 1 24)), (24, .inl (mi_ild 1 25)), (25, .inr (.inr (.inl (52, 2, some 3, [])))), (28, .inl (mi_ild 2 29)), (29, .inl (mi_i2 (fun x y => x + y) 30)), (30, .inr (.inr (.inl (52, 2, some 3, [])))), (33, .inl (mi_go 37)), (36, .inl (mi_push (.int (-1)) 37)), (37, .inr (.inl 1))]
def m_X4_signAt : mD := (yX4_signAt, cX4_signAt, 3, (some .int), [], t_X4_signAt)
def t_X4_indexOf : mT := [(0, .inl (mi_push (.int 0) 1)), (1, .inl (mi_ist 4 3)), (3, .inl (mi_ild 4 5)), (5, .inl (mi_ald 0 6)), (6, .inl (mi_get 4 3 9)), (9, .inl (mi_b2 (fun x y => decide (y ≤ x)) 33 12)), (12, .inl (mi_ald 0 13)), (13, .inl (mi_ild 4 15)), (15, .inl (mi_ald 1 16)), (16, .inl (mi_ild 2 17)), (17, .inl (mi_ild 3 18)), (18, .inr (.inr (.inl (61, 5, some 4, [])))), (21, .inl (mi_b1 (fun x => decide (x = 0)) 27 24)), (24, .inl (mi_ild 4 26)), (26, .inr (.inl 1)), (27, .inl (mi_inc 4 1 30)), (30, .inl (mi_go 3)), (33, .inl (mi_push (.int (-1)) 34)), (34, .inr (.inl 1))]
def m_X4_indexOf : mD := (yX4_indexOf, cX4_indexOf, 5, (some .int), [], t_X4_indexOf)
def t_X4_isSame : mT := [(0, .inl (mi_ald 0 1)), (1, .inl (mi_get 4 2 4)), (4, .inl (mi_ild 1 5)), (5, .inr (.inr (.inl (52, 2, some 3, [])))), (8, .inl (mi_ild 4 10)), (10, .inl (mi_b2 (fun x y => decide (x = y)) 15 13)), (13, .inl (mi_push (.int 0) 14)), (14, .inr (.inl 2)), (15, .inl (mi_ald 0 16)), (16, .inl (mi_get 4 1 19)), (19, .inl (mi_ild 1 20)), (20, .inr (.inr (.inl (52, 2, some 3, [])))), (23, .inl (mi_ist 5 25)), (25, .inl (mi_push (.int 0) 26)), (26, .inl (mi_ist 6 28)), (28, .inl (mi_ild 6 30)), (30, .inl (mi_ild 4 32)), (32, .inl (mi_b2 (fun x y => decide (y ≤ x)) 66 35)), (35, .inl (mi_ald 0 36)), (36, .inl (mi_get 4 0 39)), (39, .inl (mi_ild 5 41)), (41, .inl (mi_ild 6 43)), (43, .inl (mi_i2 (fun x y => x + y) 44)), (44, .inr (.inr (.inl (52, 2, some 3, [])))), (47, .inl (mi_ald 2 48)), (48, .inl (mi_ild 3 49)), (49, .inl (mi_ild 6 51)), (51, .inl (mi_i2 (fun x y => x + y) 52)), (52, .inr (.inr (.inl (52, 2, some 3, [])))), (55, .inl (mi_b2 (fun x y => decide (x = y)) 60 58)), (58, .inl (mi_push (.int 0) 59)), (59, .inr (.inl 2)), (60, .inl (mi_inc 6 1 63)), (63, .inl (mi_go 28)), (66, .inl (mi_push (.int 1) 67)), (67, .inr (.inl 2))]
def m_X4_isSame : mD := (yX4_isSame, cX4_isSame, 7, (some .boolean), [], t_X4_isSame)
def t_X4_isPlainName : mT := [(0, .inl (mi_push (.int 0) 1)), (1, .inl (mi_ist 2 2)), (2, .inl (mi_ild 2 3)), (3, .inl (mi_ald 0 4)), (4, .inl (mi_ild 1 5)), (5, .inr (.inr (.inl (58, 2, some 4, [])))), (8, .inl (mi_b2 (fun x y => decide (y ≤ x)) 31 11)), (11, .inl (mi_ald 0 12)), (12, .inl (mi_ild 1 13)), (13, .inl (mi_ild 2 14)), (14, .inr (.inr (.inl (59, 3, some 4, [])))), (17, .inr (.inr (.inl (92, 1, none, [])))), (20, .inl (mi_b1 (fun x => decide (¬ x = 0)) 25 23)), (23, .inl (mi_push (.int 0) 24)), (24, .inr (.inl 2)), (25, .inl (mi_inc 2 1 28)), (28, .inl (mi_go 2)), (31, .inl (mi_push (.int 1) 32)), (32, .inr (.inl 2))]
def m_X4_isPlainName : mD := (yX4_isPlainName, cX4_isPlainName, 3, (some .boolean), [], t_X4_isPlainName)
def t_X5_init : mT := [(0, .inl (mi_ald 0 1)), (1, .inl (mi_obj 4)), (4, .inl (mi_ald 0 5)), (5, .inl (mi_ald 1 6)), (6, .inl (mi_put 5 0 (.object "GraphTexts$Row") 9)), (9, .inr (.inl 0))]
def m_X5_init : mD := (yX5_init, cX5_init, 2, none, [], t_X5_init)
def t_X5_writeGraph : mT := [(0, .inl (mi_ald 0 1)), (1, .inl (mi_get 5 0 4)), (4, .inr (.inr (.inl (47, 1, some 3, [])))), (7, .inl (mi_push (.int 0) 8)), (8, .inl (mi_ist 2 9)), (9, .inl (mi_push (.int 0) 10)), (10, .inl (mi_ist 3 11)), (11, .inl (mi_push (.int 0) 12)), (12, .inl (mi_ist 4 14)), (14, .inl (mi_push (.int 0) 15)), (15, .inl (mi_ist 5 17)), (17, .inl (mi_ild 5 19)), (19, .inl (mi_ald 1 20)), (20, .inl (mi_get 1 11 23)), (23, .inl (mi_get 3 1 26)), (26, .inl (mi_b2 (fun x y => decide (y ≤ x)) 121 29)), (29, .inl (mi_ald 1 30)), (30, .inl (mi_get 1 11 33)), (33, .inl (mi_ild 5 35)), (35, .inr (.inr (.inl (52, 2, some 3, [])))), (38, .inl (mi_sw (mi_tab 0 2 [64, 76, 84] 96))), (64, .inl (mi_ald 0 65)), (65, .inl (mi_ald 1 66)), (66, .inl (mi_ild 2 67)), (67, .inr (.inr (.inl (65, 3, some 5, [])))), (70, .inl (mi_inc 2 1 73)), (73, .inl (mi_go 106)), (76, .inl (mi_ald 0 77)), (77, .inl (mi_ald 1 78)), (78, .inr (.inr (.inl (66, 2, some 5, [])))), (81, .inl (mi_go 106)), (84, .inl (mi_ald 0 85)), (85, .inl (mi_ald 1 86)), (86, .inl (mi_ild 3 87)), (87, .inr (.inr (.inl (67, 3, some 5, [])))), (90, .inl (mi_inc 3 1 93)), (93, .inl (mi_go 106)), (96, .inl (mi_ald 0 97)), (97, .inl (mi_ald 1 98)), (98, .inl (mi_ild 4 100)), (100, .inr (.inr (.inl (69, 3, some 5, [])))), (103, .inl (mi_inc 4 1 106)), (106, .inl (mi_ald 0 107)), (107, .inl (mi_get 5 0 110)), (110, .inl (mi_push (.int 10) 112)), (112, .inr (.inr (.inl (49, 2, some 3, [])))), (115, .inl (mi_inc 5 1 118)), (118, .inl (mi_go 17)), (121, .inr (.inl 0))]
def m_X5_writeGraph : mD := (yX5_writeGraph, cX5_writeGraph, 6, none, [], t_X5_writeGraph)
def t_X5_writeComment : mT := [(0, .inl (mi_ald 0 1)), (1, .inl (mi_get 5 0 4)), (4, .inl (mi_push (.int 35) 6)), (6, .inr (.inr (.inl (49, 2, some 3, [])))), (9, .inl (mi_push (.int 0) 10)), (10, .inl (mi_ist 3 11)), (11, .inl (mi_ild 3 12)), (12, .inl (mi_ald 1 13)), (13, .inl (mi_get 1 3 16)), (16, .inl (mi_ild 2 17)), (17, .inr (.inr (.inl (58, 2, some 4, [])))), (20, .inl (mi_b2 (fun x y => decide (y ≤ x)) 45 23)), (23, .inl (mi_ald 0 24)), (24, .inl (mi_get 5 0 27)), (27, .inl (mi_ald 1 28)), (28, .inl (mi_get 1 3 31)), (31, .inl (mi_ild 2 32)), (32, .inl (mi_ild 3 33)), (33, .inr (.inr (.inl (59, 3, some 4, [])))), (36, .inr (.inr (.inl (49, 2, some 3, [])))), (39, .inl (mi_inc 3 1 42)), (42, .inl (mi_go 11)), (45, .inr (.inl 0))]
def m_X5_writeComment : mD := (yX5_writeComment, cX5_writeComment, 4, none, [], t_X5_writeComment)
def t_X5_writeCount : mT := [(0, .inl (mi_ald 0 1)), (1, .inl (mi_get 5 0 4)), (4, .inl (mi_push (.int 33) 6)), (6, .inr (.inr (.inl (49, 2, some 3, [])))), (9, .inl (mi_ald 0 10)), (10, .inl (mi_get 5 0 13)), (13, .inl (mi_push (.int 32) 15)), (15, .inr (.inr (.inl (49, 2, some 3, [])))), (18, .inl (mi_ald 0 19)), (19, .inl (mi_ald 1 20)), (20, .inl (mi_get 1 13 23)), (23, .inr (.inr (.inl (73, 2, some 5, [])))), (26, .inl (mi_ald 0 27)), (27, .inl (mi_get 5 0 30)), (30, .inl (mi_push (.int 32) 32)), (32, .inr (.inr (.inl (49, 2, some 3, [])))), (35, .inl (mi_ald 0 36)), (36, .inl (mi_ald 1 37)), (37, .inl (mi_get 1 14 40)), (40, .inr (.inr (.inl (73, 2, some 5, [])))), (43, .inr (.inl 0))]
def m_X5_writeCount : mD := (yX5_writeCount, cX5_writeCount, 2, none, [], t_X5_writeCount)
def t_X5_writeHead : mT := [(0, .inl (mi_ald 0 1)), (1, .inl (mi_get 5 0 4)), (4, .inl (mi_push (.int 37) 6)), (6, .inr (.inr (.inl (49, 2, some 3, [])))), (9, .inl (mi_ald 0 10)), (10, .inl (mi_get 5 0 13)), (13, .inl (mi_push (.int 32) 15)), (15, .inr (.inr (.inl (49, 2, some 3, [])))), (18, .inl (mi_ald 0 19)), (19, .inl (mi_ald 1 20)), (20, .inl (mi_get 1 2 23)), (23, .inl (mi_ild 2 24)), (24, .inr (.inr (.inl (71, 3, some 5, [])))), (27, .inl (mi_ald 0 28)), (28, .inl (mi_get 5 0 31)), (31, .inl (mi_push (.int 32) 33)), (33, .inr (.inr (.inl (49, 2, some 3, [])))), (36, .inl (mi_ald 0 37)), (37, .inl (mi_get 5 0 40)), (40, .inl (mi_ald 1 41)), (41, .inl (mi_get 1 4 44)), (44, .inl (mi_ild 2 45)), (45, .inr (.inr (.inl (52, 2, some 3, [])))), (48, .inr (.inr (.inl (68, 1, none, [])))), (51, .inr (.inr (.inl (49, 2, some 3, [])))), (54, .inr (.inl 0))]
def m_X5_writeHead : mD := (yX5_writeHead, cX5_writeHead, 3, none, [], t_X5_writeHead)
def t_X5_letterOfKind : mT := [(0, .inl (mi_ild 0 1)), (1, .inl (mi_b1 (fun x => decide (¬ x = 0)) 7 4)), (4, .inl (mi_push (.int 119) 6)), (6, .inr (.inl 1)), (7, .inl (mi_ild 0 8)), (8, .inl (mi_push (.int 1) 9)), (9, .inl (mi_b2 (fun x y => decide (¬ x = y)) 17 12)), (12, .inl (mi_push (.int 100) 14)), (14, .inl (mi_go 19)), (17, .inl (mi_push (.int 116) 19)), (19, .inr (.inl 1))]
def m_X5_letterOfKind : mD := (yX5_letterOfKind, cX5_letterOfKind, 1, (some .int), [], t_X5_letterOfKind)
def t_X5_writeArc : mT := [(0, .inl (mi_ald 0 1)), (1, .inl (mi_ald 1 2)), (2, .inl (mi_get 1 1 5)), (5, .inl (mi_ald 1 6)), (6, .inl (mi_get 1 5 9)), (9, .inl (mi_ild 2 10)), (10, .inr (.inr (.inl (52, 2, some 3, [])))), (13, .inr (.inr (.inl (71, 3, some 5, [])))), (16, .inl (mi_ald 0 17)), (17, .inl (mi_get 5 0 20)), (20, .inl (mi_push (.int 32) 22)), (22, .inr (.inr (.inl (49, 2, some 3, [])))), (25, .inl (mi_ald 0 26)), (26, .inl (mi_ald 1 27)), (27, .inl (mi_get 1 1 30)), (30, .inl (mi_ald 1 31)), (31, .inl (mi_get 1 6 34)), (34, .inl (mi_ild 2 35)), (35, .inr (.inr (.inl (52, 2, some 3, [])))), (38, .inr (.inr (.inl (71, 3, some 5, [])))), (41, .inl (mi_push (.int 0) 42)), (42, .inl (mi_ist 3 43)), (43, .inl (mi_ild 3 44)), (44, .inl (mi_ald 1 45)), (45, .inl (mi_get 1 4 48)), (48, .inl (mi_get 3 1 51)), (51, .inl (mi_b2 (fun x y => decide (y ≤ x)) 88 54)), (54, .inl (mi_ald 0 55)), (55, .inl (mi_get 5 0 58)), (58, .inl (mi_push (.int 32) 60)), (60, .inr (.inr (.inl (49, 2, some 3, [])))), (63, .inl (mi_ald 0 64)), (64, .inl (mi_ald 1 65)), (65, .inl (mi_ald 1 66)), (66, .inl (mi_ild 2 67)), (67, .inl (mi_ild 3 68)), (68, .inr (.inr (.inl (14, 3, some 1, [])))), (71, .inl (mi_ald 1 72)), (72, .inl (mi_get 1 4 75)), (75, .inl (mi_ild 3 76)), (76, .inr (.inr (.inl (52, 2, some 3, [])))), (79, .inr (.inr (.inl (70, 4, some 5, [])))), (82, .inl (mi_inc 3 1 85)), (85, .inl (mi_go 43)), (88, .inr (.inl 0))]
def m_X5_writeArc : mD := (yX5_writeArc, cX5_writeArc, 4, none, [], t_X5_writeArc)
def t_X5_writeValue : mT := [(0, .inl (mi_ald 1 1)), (1, .inl (mi_get 1 9 4)), (4, .inl (mi_ild 2 5)), (5, .inr (.inr (.inl (52, 2, some 3, [])))), (8, .inl (mi_b1 (fun x => decide (¬ x = 0)) 23 11)), (11, .inl (mi_ald 0 12)), (12, .inl (mi_get 5 0 15)), (15, .inl (mi_push (.int 45) 17)), (17, .inr (.inr (.inl (49, 2, some 3, [])))), (20, .inl (mi_go 52)), (23, .inl (mi_ild 3 24)), (24, .inl (mi_push (.int 2) 25)), (25, .inl (mi_b2 (fun x y => decide (¬ x = y)) 40 28)), (28, .inl (mi_ald 0 29)), (29, .inl (mi_ald 1 30)), (30, .inl (mi_get 1 8 33)), (33, .inl (mi_ild 2 34)), (34, .inr (.inr (.inl (71, 3, some 5, [])))), (37, .inl (mi_go 52)), (40, .inl (mi_ald 0 41)), (41, .inl (mi_ald 1 42)), (42, .inl (mi_get 1 10 45)), (45, .inl (mi_ild 2 46)), (46, .inr (.inr (.inl (52, 2, some 3, [])))), (49, .inr (.inr (.inl (72, 2, some 5, [])))), (52, .inr (.inl 0))]
def m_X5_writeValue : mD := (yX5_writeValue, cX5_writeValue, 4, none, [], t_X5_writeValue)
def t_X5_writeName : mT := [(0, .inl (mi_ald 1 1)), (1, .inl (mi_ild 2 2)), (2, .inr (.inr (.inl (62, 2, some 4, [])))), (5, .inl (mi_b1 (fun x => decide (¬ x = 0)) 12 8)), (8, .inl (mi_push (.int 1) 9)), (9, .inl (mi_go 13)), (12, .inl (mi_push (.int 0) 13)), (13, .inl (mi_ist 3 14)), (14, .inl (mi_ild 3 15)), (15, .inl (mi_b1 (fun x => decide (x = 0)) 27 18)), (18, .inl (mi_ald 0 19)), (19, .inl (mi_get 5 0 22)), (22, .inl (mi_push (.int 34) 24)), (24, .inr (.inr (.inl (49, 2, some 3, [])))), (27, .inl (mi_push (.int 0) 28)), (28, .inl (mi_ist 4 30)), (30, .inl (mi_ild 4 32)), (32, .inl (mi_ald 1 33)), (33, .inl (mi_ild 2 34)), (34, .inr (.inr (.inl (58, 2, some 4, [])))), (37, .inl (mi_b2 (fun x y => decide (y ≤ x)) 87 40)), (40, .inl (mi_ald 1 41)), (41, .inl (mi_ild 2 42)), (42, .inl (mi_ild 4 44)), (44, .inr (.inr (.inl (59, 3, some 4, [])))), (47, .inl (mi_ist 5 49)), (49, .inl (mi_ild 5 51)), (51, .inl (mi_push (.int 34) 53)), (53, .inl (mi_b2 (fun x y => decide (x = y)) 63 56)), (56, .inl (mi_ild 5 58)), (58, .inl (mi_push (.int 92) 60)), (60, .inl (mi_b2 (fun x y => decide (¬ x = y)) 72 63)), (63, .inl (mi_ald 0 64)), (64, .inl (mi_get 5 0 67)), (67, .inl (mi_push (.int 92) 69)), (69, .inr (.inr (.inl (49, 2, some 3, [])))), (72, .inl (mi_ald 0 73)), (73, .inl (mi_get 5 0 76)), (76, .inl (mi_ild 5 78)), (78, .inr (.inr (.inl (49, 2, some 3, [])))), (81, .inl (mi_inc 4 1 84)), (84, .inl (mi_go 30)), (87, .inl (mi_ild 3 88)), (88, .inl (mi_b1 (fun x => decide (x = 0)) 100 91)), (91, .inl (mi_ald 0 92)), (92, .inl (mi_get 5 0 95)), (95, .inl (mi_push (.int 34) 97)), (97, .inr (.inr (.inl (49, 2, some 3, [])))), (100, .inr (.inl 0))]
def m_X5_writeName : mD := (yX5_writeName, cX5_writeName, 6, none, [], t_X5_writeName)
def t_X5_writeThousandths : mT := [(0, .inl (mi_ild 1 1)), (1, .inl (mi_b1 (fun x => decide (0 ≤ x)) 9 4)), (4, .inl (mi_ild 1 5)), (5, .inl (mi_i1 (fun x => -x) 6)), (6, .inl (mi_go 10)), (9, .inl (mi_ild 1 10)), (10, .inl (mi_ist 2 11)), (11, .inl (mi_ild 1 12)), (12, .inl (mi_b1 (fun x => decide (0 ≤ x)) 24 15)), (15, .inl (mi_ald 0 16)), (16, .inl (mi_get 5 0 19)), (19, .inl (mi_push (.int 45) 21)), (21, .inr (.inr (.inl (49, 2, some 3, [])))), (24, .inl (mi_ald 0 25)), (25, .inl (mi_ild 2 26)), (26, .inl (mi_push (.int 1000) 29)), (29, .inl (mi_d2 (fun x y => x / y) 30)), (30, .inr (.inr (.inl (73, 2, some 5, [])))), (33, .inl (mi_ild 2 34)), (34, .inl (mi_push (.int 1000) 37)), (37, .inl (mi_d2 mi_irem 38)), (38, .inl (mi_ist 3 39)), (39, .inl (mi_ild 3 40)), (40, .inl (mi_b1 (fun x => decide (x ≤ 0)) 52 43)), (43, .inl (mi_ald 0 44)), (44, .inl (mi_get 5 0 47)), (47, .inl (mi_push (.int 46) 49)), (49, .inr (.inr (.inl (49, 2, some 3, [])))), (52, .inl (mi_push (.int 0) 53)), (53, .inl (mi_ist 4 55)), (55, .inl (mi_ild 4 57)), (57, .inl (mi_push (.int 3) 58)), (58, .inl (mi_b2 (fun x y => decide (y ≤ x)) 93 61)), (61, .inl (mi_ild 3 62)), (62, .inl (mi_b1 (fun x => decide (x ≤ 0)) 93 65)), (65, .inl (mi_ald 0 66)), (66, .inl (mi_get 5 0 69)), (69, .inl (mi_push (.int 48) 71)), (71, .inl (mi_ild 3 72)), (72, .inl (mi_push (.int 100) 74)), (74, .inl (mi_d2 (fun x y => x / y) 75)), (75, .inl (mi_i2 (fun x y => x + y) 76)), (76, .inr (.inr (.inl (49, 2, some 3, [])))), (79, .inl (mi_ild 3 80)), (80, .inl (mi_push (.int 100) 82)), (82, .inl (mi_d2 mi_irem 83)), (83, .inl (mi_push (.int 10) 85)), (85, .inl (mi_i2 (fun x y => x * y) 86)), (86, .inl (mi_ist 3 87)), (87, .inl (mi_inc 4 1 90)), (90, .inl (mi_go 55)), (93, .inr (.inl 0))]
def m_X5_writeThousandths : mD := (yX5_writeThousandths, cX5_writeThousandths, 5, none, [], t_X5_writeThousandths)
def t_X5_writeWhole : mT := [(0, .inl (mi_push (.int (100000)) 2)), (2, .inl (mi_ist 2 3)), (3, .inl (mi_ild 2 4)), (4, .inl (mi_b1 (fun x => decide (x ≤ 0)) 41 7)), (7, .inl (mi_ild 1 8)), (8, .inl (mi_ild 2 9)), (9, .inl (mi_b2 (fun x y => decide (y ≤ x)) 17 12)), (12, .inl (mi_ild 2 13)), (13, .inl (mi_push (.int 1) 14)), (14, .inl (mi_b2 (fun x y => decide (¬ x = y)) 33 17)), (17, .inl (mi_ald 0 18)), (18, .inl (mi_get 5 0 21)), (21, .inl (mi_push (.int 48) 23)), (23, .inl (mi_ild 1 24)), (24, .inl (mi_ild 2 25)), (25, .inl (mi_d2 (fun x y => x / y) 26)), (26, .inl (mi_push (.int 10) 28)), (28, .inl (mi_d2 mi_irem 29)), (29, .inl (mi_i2 (fun x y => x + y) 30)), (30, .inr (.inr (.inl (49, 2, some 3, [])))), (33, .inl (mi_ild 2 34)), (34, .inl (mi_push (.int 10) 36)), (36, .inl (mi_d2 (fun x y => x / y) 37)), (37, .inl (mi_ist 2 38)), (38, .inl (mi_go 3)), (41, .inr (.inl 0))]
def m_X5_writeWhole : mD := (yX5_writeWhole, cX5_writeWhole, 3, none, [], t_X5_writeWhole)
def t_X6_init : mT := [(0, .inl (mi_ald 0 1)), (1, .inl (mi_obj 4)), (4, .inl (mi_ald 0 5)), (5, .inl (mi_new 3 [.null, .int 0] 8)), (8, .inl (mi_dup 9)), (9, .inl (mi_push (.int 600) 12)), (12, .inr (.inr (.inl (46, 2, some 3, [])))), (15, .inl (mi_put 6 0 (.object "GraphTexts$Row") 18)), (18, .inl (mi_ald 0 19)), (19, .inl (mi_new 3 [.null, .int 0] 22)), (22, .inl (mi_dup 23)), (23, .inl (mi_push (.int 841) 26)), (26, .inr (.inr (.inl (46, 2, some 3, [])))), (29, .inl (mi_put 6 1 (.object "GraphTexts$Row") 32)), (32, .inl (mi_ald 0 33)), (33, .inl (mi_new 5 [.null] 36)), (36, .inl (mi_dup 37)), (37, .inl (mi_ald 0 38)), (38, .inl (mi_get 6 1 41)), (41, .inr (.inr (.inl (63, 2, some 5, [])))), (44, .inl (mi_put 6 3 (.object "GraphTexts$Writer") 47)), (47, .inl (mi_ald 0 48)), (48, .inl (mi_new 1 [.null, .null, .null, .null, .null, .null, .null, .null, .null, .null, .null, .null, .int 0, .int 0, .int 0] 51)), (51, .inl (mi_dup 52)), (52, .inr (.inr (.inl (10, 1, some 1, [])))), (55, .inl (mi_put 6 4 (.object "GraphTexts$Graph") 58)), (58, .inl (mi_ald 0 59)), (59, .inl (mi_new 1 [.null, .null, .null, .null, .null, .null, .null, .null, .null, .null, .null, .null, .int 0, .int 0, .int 0] 62)), (62, .inl (mi_dup 63)), (63, .inr (.inr (.inl (10, 1, some 1, [])))), (66, .inl (mi_put 6 5 (.object "GraphTexts$Graph") 69)), (69, .inl (mi_ald 0 70)), (70, .inl (mi_new 2 [.null, .null, .int 0, .int 0, .int 0, .int 0, .int 0, .int 0, .int 0, .int 0, .int 0, .int 0, .int 0, .int 0, .int 0, .int 0] 73)), (73, .inl (mi_dup 74)), (74, .inl (mi_ald 0 75)), (75, .inl (mi_get 6 0 78)), (78, .inl (mi_ald 0 79)), (79, .inl (mi_get 6 5 82)), (82, .inr (.inr (.inl (22, 3, some 2, [])))), (85, .inl (mi_put 6 2 (.object "GraphTexts$Reader") 88)), (88, .inl (mi_ald 0 89)), (89, .inl (mi_push (.int 0) 90)), (90, .inl (mi_put 6 6 .boolean 93)), (93, .inl (mi_ald 0 94)), (94, .inl (mi_push (.int 0) 95)), (95, .inl (mi_put 6 7 .int 98)), (98, .inr (.inl 0))]
def m_X6_init : mD := (yX6_init, cX6_init, 1, none, [], t_X6_init)
def t_X6_feed : mT := [(0, .inl (mi_ild 1 1)), (1, .inl (mi_push (.int 1) 2)), (2, .inl (mi_b2 (fun x y => decide (x < y)) 11 5)), (5, .inl (mi_ild 1 6)), (6, .inl (mi_push (.int 8) 8)), (8, .inl (mi_b2 (fun x y => decide (x ≤ y)) 14 11)), (11, .inl (mi_push (.int (-102)) 13)), (13, .inr (.inl 1)), (14, .inl (mi_ald 0 15)), (15, .inl (mi_get 6 0 18)), (18, .inl (mi_get 3 1 21)), (21, .inl (mi_ild 1 22)), (22, .inl (mi_i2 (fun x y => x + y) 23)), (23, .inl (mi_push (.int 600) 26)), (26, .inl (mi_b2 (fun x y => decide (x ≤ y)) 32 29)), (29, .inl (mi_push (.int (-104)) 31)), (31, .inr (.inl 1)), (32, .inl (mi_ild 1 33)), (33, .inl (mi_push (.int 1) 34)), (34, .inl (mi_i2 (fun x y => x - y) 35)), (35, .inl (mi_ist 4 37)), (37, .inl (mi_ild 4 39)), (39, .inl (mi_b1 (fun x => decide (x < 0)) 67 42)), (42, .inl (mi_ald 0 43)), (43, .inl (mi_get 6 0 46)), (46, .inl (mi_lld 2 47)), (47, .inl (mi_push (.int 8) 49)), (49, .inl (mi_ild 4 51)), (51, .inl (mi_i2 (fun x y => x * y) 52)), (52, .inl (mi_ls mi_ushr 53)), (53, .inl (mi_push (.long (255)) 56)), (56, .inl (mi_l2 (fun x y => x &&& y) 57)), (57, .inl (mi_li 58)), (58, .inr (.inr (.inl (49, 2, some 3, [])))), (61, .inl (mi_inc 4 (-1) 64)), (64, .inl (mi_go 37)), (67, .inl (mi_ald 0 68)), (68, .inl (mi_get 6 0 71)), (71, .inl (mi_get 3 1 74)), (74, .inr (.inl 1))]
def m_X6_feed : mD := (yX6_feed, cX6_feed, 5, (some .int), [], t_X6_feed)
def t_X6_read : mT := [(0, .inl (mi_ald 0 1)), (1, .inl (mi_get 6 2 4)), (4, .inl (mi_ald 0 5)), (5, .inl (mi_get 6 0 8)), (8, .inl (mi_ald 0 9)), (9, .inl (mi_get 6 5 12)), (12, .inl (mi_ald 0 13)), (13, .inl (mi_get 6 7 16)), (16, .inr (.inr (.inl (23, 4, some 2, [])))), (19, .inl (mi_ist 1 20)), (20, .inl (mi_ald 0 21)), (21, .inl (mi_get 6 0 24)), (24, .inr (.inr (.inl (47, 1, some 3, [])))), (27, .inl (mi_ild 1 28)), (28, .inl (mi_b1 (fun x => decide (¬ x = 0)) 45 31)), (31, .inl (mi_push (.int (-10)) 33)), (33, .inl (mi_ald 0 34)), (34, .inl (mi_get 6 2 37)), (37, .inl (mi_get 2 0 40)), (40, .inl (mi_get 0 5 43)), (43, .inl (mi_i2 (fun x y => x - y) 44)), (44, .inr (.inl 1)), (45, .inl (mi_ald 0 46)), (46, .inl (mi_get 6 4 49)), (49, .inl (mi_ast 2 50)), (50, .inl (mi_ald 0 51)), (51, .inl (mi_ald 0 52)), (52, .inl (mi_get 6 5 55)), (55, .inl (mi_put 6 4 (.object "GraphTexts$Graph") 58)), (58, .inl (mi_ald 0 59)), (59, .inl (mi_ald 2 60)), (60, .inl (mi_put 6 5 (.object "GraphTexts$Graph") 63)), (63, .inl (mi_ald 0 64)), (64, .inl (mi_push (.int 1) 65)), (65, .inl (mi_put 6 6 .boolean 68)), (68, .inl (mi_ald 0 69)), (69, .inl (mi_get 6 4 72)), (72, .inr (.inr (.inl (12, 1, some 1, [])))), (75, .inr (.inl 1))]
def m_X6_read : mD := (yX6_read, cX6_read, 3, (some .int), [], t_X6_read)
def t_X6_fault : mT := [(0, .inl (mi_ild 1 1)), (1, .inl (mi_b1 (fun x => decide (x < 0)) 9 4)), (4, .inl (mi_ild 1 5)), (5, .inl (mi_push (.int 1) 6)), (6, .inl (mi_b2 (fun x y => decide (x ≤ y)) 12 9)), (9, .inl (mi_push (.int (-102)) 11)), (11, .inr (.inl 1)), (12, .inl (mi_ald 0 13)), (13, .inl (mi_get 6 2 16)), (16, .inl (mi_get 2 0 19)), (19, .inl (mi_get 0 5 22)), (22, .inl (mi_b1 (fun x => decide (¬ x = 0)) 27 25)), (25, .inl (mi_push (.int (-1)) 26)), (26, .inr (.inl 1)), (27, .inl (mi_ild 1 28)), (28, .inl (mi_b1 (fun x => decide (¬ x = 0)) 44 31)), (31, .inl (mi_ald 0 32)), (32, .inl (mi_get 6 2 35)), (35, .inl (mi_get 2 0 38)), (38, .inl (mi_get 0 6 41)), (41, .inl (mi_go 54)), (44, .inl (mi_ald 0 45)), (45, .inl (mi_get 6 2 48)), (48, .inl (mi_get 2 0 51)), (51, .inl (mi_get 0 7 54)), (54, .inr (.inl 1))]
def m_X6_fault : mD := (yX6_fault, cX6_fault, 2, (some .int), [], t_X6_fault)
def t_X6_manner : mT := [(0, .inl (mi_ild 1 1)), (1, .inl (mi_b1 (fun x => decide (x < 0)) 9 4)), (4, .inl (mi_ild 1 5)), (5, .inl (mi_push (.int 2) 6)), (6, .inl (mi_b2 (fun x y => decide (x ≤ y)) 12 9)), (9, .inl (mi_push (.int (-102)) 11)), (11, .inr (.inl 1)), (12, .inl (mi_ald 0 13)), (13, .inl (mi_get 6 7 16)), (16, .inl (mi_ist 2 17)), (17, .inl (mi_ald 0 18)), (18, .inl (mi_ild 1 19)), (19, .inl (mi_put 6 7 .int 22)), (22, .inl (mi_ild 2 23)), (23, .inr (.inl 1))]
def m_X6_manner : mD := (yX6_manner, cX6_manner, 3, (some .int), [], t_X6_manner)
def t_X6_find : mT := [(0, .inl (mi_ald 0 1)), (1, .inl (mi_get 6 4 4)), (4, .inl (mi_get 1 1 7)), (7, .inl (mi_ald 0 8)), (8, .inl (mi_get 6 0 11)), (11, .inl (mi_push (.int 0) 12)), (12, .inl (mi_ald 0 13)), (13, .inl (mi_get 6 0 16)), (16, .inl (mi_get 3 1 19)), (19, .inr (.inr (.inl (60, 4, some 4, [])))), (22, .inl (mi_ist 1 23)), (23, .inl (mi_ald 0 24)), (24, .inl (mi_get 6 0 27)), (27, .inr (.inr (.inl (47, 1, some 3, [])))), (30, .inl (mi_ild 1 31)), (31, .inl (mi_push (.int (-1)) 32)), (32, .inl (mi_b2 (fun x y => decide (¬ x = y)) 39 35)), (35, .inl (mi_push (.int (-1)) 36)), (36, .inl (mi_go 40)), (39, .inl (mi_ild 1 40)), (40, .inr (.inl 1))]
def m_X6_find : mD := (yX6_find, cX6_find, 2, (some .int), [], t_X6_find)
def t_X6_node : mT := [(0, .inl (mi_ald 0 1)), (1, .inl (mi_get 6 4 4)), (4, .inl (mi_get 1 1 7)), (7, .inl (mi_ild 1 8)), (8, .inl (mi_ild 2 9)), (9, .inr (.inr (.inl (90, 3, none, [])))), (12, .inr (.inl 1))]
def m_X6_node : mD := (yX6_node, cX6_node, 3, (some .int), [], t_X6_node)
def t_X6_arc : mT := [(0, .inl (mi_ald 0 1)), (1, .inl (mi_get 6 4 4)), (4, .inl (mi_get 1 5 7)), (7, .inl (mi_ild 1 8)), (8, .inr (.inr (.inl (51, 2, some 3, [])))), (11, .inl (mi_b1 (fun x => decide (¬ x = 0)) 17 14)), (14, .inl (mi_push (.int (-101)) 16)), (16, .inr (.inl 1)), (17, .inl (mi_ild 2 18)), (18, .inl (mi_sw (mi_tab 0 3 [48, 60, 72, 84] 93))), (48, .inl (mi_ald 0 49)), (49, .inl (mi_get 6 4 52)), (52, .inl (mi_get 1 5 55)), (55, .inl (mi_ild 1 56)), (56, .inr (.inr (.inl (52, 2, some 3, [])))), (59, .inr (.inl 1)), (60, .inl (mi_ald 0 61)), (61, .inl (mi_get 6 4 64)), (64, .inl (mi_get 1 6 67)), (67, .inl (mi_ild 1 68)), (68, .inr (.inr (.inl (52, 2, some 3, [])))), (71, .inr (.inl 1)), (72, .inl (mi_ald 0 73)), (73, .inl (mi_get 6 4 76)), (76, .inl (mi_get 1 7 79)), (79, .inl (mi_ild 1 80)), (80, .inr (.inr (.inl (52, 2, some 3, [])))), (83, .inr (.inl 1)), (84, .inl (mi_ald 0 85)), (85, .inl (mi_get 6 4 88)), (88, .inl (mi_ild 1 89)), (89, .inr (.inr (.inl (15, 2, some 1, [])))), (92, .inr (.inl 1)), (93, .inl (mi_push (.int (-102)) 95)), (95, .inr (.inl 1))]
def m_X6_arc : mD := (yX6_arc, cX6_arc, 3, (some .int), [], t_X6_arc)
def t_X6_kind : mT := [(0, .inl (mi_ald 0 1)), (1, .inl (mi_get 6 4 4)), (4, .inl (mi_get 1 4 7)), (7, .inl (mi_ild 1 8)), (8, .inr (.inr (.inl (51, 2, some 3, [])))), (11, .inl (mi_b1 (fun x => decide (x = 0)) 28 14)), (14, .inl (mi_ald 0 15)), (15, .inl (mi_get 6 4 18)), (18, .inl (mi_get 1 4 21)), (21, .inl (mi_ild 1 22)), (22, .inr (.inr (.inl (52, 2, some 3, [])))), (25, .inl (mi_go 30)), (28, .inl (mi_push (.int (-101)) 30)), (30, .inr (.inl 1))]
def m_X6_kind : mD := (yX6_kind, cX6_kind, 2, (some .int), [], t_X6_kind)
def t_X6_head : mT := [(0, .inl (mi_ald 0 1)), (1, .inl (mi_get 6 4 4)), (4, .inl (mi_get 1 2 7)), (7, .inl (mi_ild 1 8)), (8, .inl (mi_ild 2 9)), (9, .inr (.inr (.inl (90, 3, none, [])))), (12, .inr (.inl 1))]
def m_X6_head : mD := (yX6_head, cX6_head, 3, (some .int), [], t_X6_head)
def t_X6_value : mT := [(0, .inl (mi_ald 0 1)), (1, .inl (mi_get 6 4 4)), (4, .inl (mi_ild 1 5)), (5, .inl (mi_ild 2 6)), (6, .inr (.inr (.inl (13, 3, some 1, [])))), (9, .inl (mi_b1 (fun x => decide (¬ x = 0)) 15 12)), (12, .inl (mi_push (.int (-101)) 14)), (14, .inr (.inl 1)), (15, .inl (mi_ald 0 16)), (16, .inl (mi_get 6 4 19)), (19, .inl (mi_ild 1 20)), (20, .inl (mi_ild 2 21)), (21, .inr (.inr (.inl (14, 3, some 1, [])))), (24, .inl (mi_ist 3 25)), (25, .inl (mi_ald 0 26)), (26, .inl (mi_get 6 4 29)), (29, .inl (mi_get 1 9 32)), (32, .inl (mi_ild 3 33)), (33, .inr (.inr (.inl (52, 2, some 3, [])))), (36, .inl (mi_b1 (fun x => decide (¬ x = 0)) 49 39)), (39, .inr (.inr (.inr "java/lang/NullPointerException"))), (49, .inl (mi_ald 0 50)), (50, .inl (mi_get 6 4 53)), (53, .inl (mi_get 1 4 56)), (56, .inl (mi_ild 2 57)), (57, .inr (.inr (.inl (52, 2, some 3, [])))), (60, .inl (mi_push (.int 2) 61)), (61, .inl (mi_b2 (fun x y => decide (¬ x = y)) 74 64)), (64, .inr (.inr (.inr "java/lang/ClassCastException"))), (74, .inl (mi_ald 0 75)), (75, .inl (mi_get 6 4 78)), (78, .inl (mi_get 1 10 81)), (81, .inl (mi_ild 3 82)), (82, .inr (.inr (.inl (52, 2, some 3, [])))), (85, .inr (.inl 1))]
def m_X6_value : mD := (yX6_value, cX6_value, 4, (some .int), [], t_X6_value)
def t_X6_sign : mT := [(0, .inl (mi_ald 0 1)), (1, .inl (mi_get 6 4 4)), (4, .inl (mi_ild 1 5)), (5, .inl (mi_ild 2 6)), (6, .inr (.inr (.inl (13, 3, some 1, [])))), (9, .inl (mi_b1 (fun x => decide (¬ x = 0)) 15 12)), (12, .inl (mi_push (.int (-101)) 14)), (14, .inr (.inl 1)), (15, .inl (mi_ald 0 16)), (16, .inl (mi_get 6 4 19)), (19, .inl (mi_ild 1 20)), (20, .inl (mi_ild 2 21)), (21, .inr (.inr (.inl (14, 3, some 1, [])))), (24, .inl (mi_ist 4 26)), (26, .inl (mi_ald 0 27)), (27, .inl (mi_get 6 4 30)), (30, .inl (mi_get 1 9 33)), (33, .inl (mi_ild 4 35)), (35, .inr (.inr (.inl (52, 2, some 3, [])))), (38, .inl (mi_b1 (fun x => decide (¬ x = 0)) 51 41)), (41, .inr (.inr (.inr "java/lang/NullPointerException"))), (51, .inl (mi_ald 0 52)), (52, .inl (mi_get 6 4 55)), (55, .inl (mi_get 1 4 58)), (58, .inl (mi_ild 2 59)), (59, .inr (.inr (.inl (52, 2, some 3, [])))), (62, .inl (mi_push (.int 2) 63)), (63, .inl (mi_b2 (fun x y => decide (x = y)) 76 66)), (66, .inr (.inr (.inr "java/lang/ClassCastException"))), (76, .inl (mi_ald 0 77)), (77, .inl (mi_get 6 4 80)), (80, .inl (mi_get 1 8 83)), (83, .inl (mi_ild 4 85)), (85, .inl (mi_ild 3 86)), (86, .inr (.inr (.inl (90, 3, none, [])))), (89, .inr (.inl 1))]
def m_X6_sign : mD := (yX6_sign, cX6_sign, 5, (some .int), [], t_X6_sign)
def t_X6_comment : mT := [(0, .inl (mi_ald 0 1)), (1, .inl (mi_get 6 4 4)), (4, .inl (mi_get 1 3 7)), (7, .inl (mi_ild 1 8)), (8, .inl (mi_ild 2 9)), (9, .inr (.inr (.inl (90, 3, none, [])))), (12, .inr (.inl 1))]
def m_X6_comment : mD := (yX6_comment, cX6_comment, 3, (some .int), [], t_X6_comment)
def t_X6_print : mT := [(0, .inl (mi_ald 0 1)), (1, .inl (mi_get 6 6 4)), (4, .inl (mi_b1 (fun x => decide (¬ x = 0)) 10 7)), (7, .inl (mi_push (.int (-103)) 9)), (9, .inr (.inl 1)), (10, .inl (mi_ald 0 11)), (11, .inl (mi_get 6 3 14)), (14, .inl (mi_ald 0 15)), (15, .inl (mi_get 6 4 18)), (18, .inr (.inr (.inl (64, 2, some 5, [])))), (21, .inl (mi_ald 0 22)), (22, .inl (mi_get 6 1 25)), (25, .inl (mi_get 3 1 28)), (28, .inr (.inl 1))]
def m_X6_print : mD := (yX6_print, cX6_print, 1, (some .int), [], t_X6_print)
def t_X6_out : mT := [(0, .inl (mi_ald 0 1)), (1, .inl (mi_get 6 1 4)), (4, .inl (mi_ild 1 5)), (5, .inr (.inr (.inl (51, 2, some 3, [])))), (8, .inl (mi_b1 (fun x => decide (¬ x = 0)) 21 11)), (11, .inr (.inr (.inr "java/lang/ArrayIndexOutOfBoundsException"))), (21, .inl (mi_ald 0 22)), (22, .inl (mi_get 6 1 25)), (25, .inl (mi_ild 1 26)), (26, .inr (.inr (.inl (52, 2, some 3, [])))), (29, .inr (.inl 1))]
def m_X6_out : mD := (yX6_out, cX6_out, 2, (some .int), [], t_X6_out)
def t_X6_about : mT := [(0, .inl (mi_ild 1 1)), (1, .inl (mi_sw (mi_tab 0 6 [44, 52, 63, 71, 82, 90, 101] 109))), (44, .inl (mi_ald 0 45)), (45, .inl (mi_get 6 0 48)), (48, .inl (mi_get 3 1 51)), (51, .inr (.inl 1)), (52, .inl (mi_ald 0 53)), (53, .inl (mi_get 6 4 56)), (56, .inl (mi_get 1 1 59)), (59, .inl (mi_get 4 3 62)), (62, .inr (.inl 1)), (63, .inl (mi_ald 0 64)), (64, .inl (mi_get 6 4 67)), (67, .inr (.inr (.inl (12, 1, some 1, [])))), (70, .inr (.inl 1)), (71, .inl (mi_ald 0 72)), (72, .inl (mi_get 6 4 75)), (75, .inl (mi_get 1 2 78)), (78, .inl (mi_get 4 3 81)), (81, .inr (.inl 1)), (82, .inl (mi_ald 0 83)), (83, .inl (mi_get 6 4 86)), (86, .inl (mi_get 1 12 89)), (89, .inr (.inl 1)), (90, .inl (mi_ald 0 91)), (91, .inl (mi_get 6 4 94)), (94, .inl (mi_get 1 3 97)), (97, .inl (mi_get 4 3 100)), (100, .inr (.inl 1)), (101, .inl (mi_ald 0 102)), (102, .inl (mi_get 6 1 105)), (105, .inl (mi_get 3 1 108)), (108, .inr (.inl 1)), (109, .inl (mi_push (.int (-102)) 111)), (111, .inr (.inl 1))]
def m_X6_about : mD := (yX6_about, cX6_about, 2, (some .int), [], t_X6_about)
def t_X6_signOfSpan : mT := [(0, .inl (mi_ald 0 1)), (1, .inl (mi_ild 1 2)), (2, .inr (.inr (.inl (57, 2, some 4, [])))), (5, .inl (mi_b1 (fun x => decide (¬ x = 0)) 11 8)), (8, .inl (mi_push (.int (-101)) 10)), (10, .inr (.inl 1)), (11, .inl (mi_ild 2 12)), (12, .inl (mi_b1 (fun x => decide (x < 0)) 24 15)), (15, .inl (mi_ild 2 16)), (16, .inl (mi_ald 0 17)), (17, .inl (mi_ild 1 18)), (18, .inr (.inr (.inl (58, 2, some 4, [])))), (21, .inl (mi_b2 (fun x y => decide (x < y)) 34 24)), (24, .inr (.inr (.inr "java/lang/ArrayIndexOutOfBoundsException"))), (34, .inl (mi_ald 0 35)), (35, .inl (mi_ild 1 36)), (36, .inl (mi_ild 2 37)), (37, .inr (.inr (.inl (59, 3, some 4, [])))), (40, .inr (.inl 1))]
def m_X6_signOfSpan : mD := (yX6_signOfSpan, cX6_signOfSpan, 3, (some .int), [], t_X6_signOfSpan)
def t_X6_isFigure : mT := [(0, .inl (mi_ild 0 1)), (1, .inl (mi_push (.int 48) 3)), (3, .inl (mi_b2 (fun x y => decide (x < y)) 16 6)), (6, .inl (mi_ild 0 7)), (7, .inl (mi_push (.int 57) 9)), (9, .inl (mi_b2 (fun x y => decide (y < x)) 16 12)), (12, .inl (mi_push (.int 1) 13)), (13, .inl (mi_go 17)), (16, .inl (mi_push (.int 0) 17)), (17, .inr (.inl 2))]
def m_X6_isFigure : mD := (yX6_isFigure, cX6_isFigure, 1, (some .boolean), [], t_X6_isFigure)
def t_X6_isPlain : mT := [(0, .inl (mi_ild 0 1)), (1, .inl (mi_push (.int 97) 3)), (3, .inl (mi_b2 (fun x y => decide (x < y)) 12 6)), (6, .inl (mi_ild 0 7)), (7, .inl (mi_push (.int 122) 9)), (9, .inl (mi_b2 (fun x y => decide (x ≤ y)) 30 12)), (12, .inl (mi_ild 0 13)), (13, .inl (mi_push (.int 48) 15)), (15, .inl (mi_b2 (fun x y => decide (x < y)) 24 18)), (18, .inl (mi_ild 0 19)), (19, .inl (mi_push (.int 57) 21)), (21, .inl (mi_b2 (fun x y => decide (x ≤ y)) 30 24)), (24, .inl (mi_ild 0 25)), (25, .inl (mi_push (.int 95) 27)), (27, .inl (mi_b2 (fun x y => decide (¬ x = y)) 34 30)), (30, .inl (mi_push (.int 1) 31)), (31, .inl (mi_go 35)), (34, .inl (mi_push (.int 0) 35)), (35, .inr (.inl 2))]
def m_X6_isPlain : mD := (yX6_isPlain, cX6_isPlain, 1, (some .boolean), [], t_X6_isPlain)
def t_X6_isPrintable : mT := [(0, .inl (mi_ild 0 1)), (1, .inl (mi_push (.int 32) 3)), (3, .inl (mi_b2 (fun x y => decide (x < y)) 16 6)), (6, .inl (mi_ild 0 7)), (7, .inl (mi_push (.int 126) 9)), (9, .inl (mi_b2 (fun x y => decide (y < x)) 16 12)), (12, .inl (mi_push (.int 1) 13)), (13, .inl (mi_go 17)), (16, .inl (mi_push (.int 0) 17)), (17, .inr (.inl 2))]
def m_X6_isPrintable : mD := (yX6_isPrintable, cX6_isPrintable, 1, (some .boolean), [], t_X6_isPrintable)
def t_X7_init : mT := [(0, .inl (mi_ald 0 1)), (1, .inl (mi_obj 4)), (4, .inl (mi_ald 0 5)), (5, .inl (mi_push (.int 600) 8)), (8, .inl (mi_newI 10)), (10, .inl (mi_put 7 1 (.array .int) 13)), (13, .inl (mi_ald 0 14)), (14, .inl (mi_push (.int (-1)) 15)), (15, .inl (mi_put 7 4 .int 18)), (18, .inl (mi_ald 0 19)), (19, .inl (mi_push (.int (-1)) 20)), (20, .inl (mi_put 7 5 .int 23)), (23, .inl (mi_ald 0 24)), (24, .inl (mi_push (.int 2) 25)), (25, .inl (mi_newI 27)), (27, .inl (mi_put 7 7 (.array .int) 30)), (30, .inl (mi_ald 0 31)), (31, .inl (mi_push (.int 540) 34)), (34, .inl (mi_newI 36)), (36, .inl (mi_put 7 8 (.array .int) 39)), (39, .inl (mi_ald 0 40)), (40, .inl (mi_push (.int 2) 41)), (41, .inl (mi_newI 43)), (43, .inl (mi_put 7 9 (.array .int) 46)), (46, .inl (mi_ald 0 47)), (47, .inl (mi_push (.int 80) 49)), (49, .inl (mi_newI 51)), (51, .inl (mi_put 7 10 (.array .int) 54)), (54, .inl (mi_ald 0 55)), (55, .inl (mi_push (.int 80) 57)), (57, .inl (mi_newI 59)), (59, .inl (mi_put 7 11 (.array .int) 62)), (62, .inl (mi_ald 0 63)), (63, .inl (mi_push (.int 80) 65)), (65, .inl (mi_newI 67)), (67, .inl (mi_put 7 12 (.array .int) 70)), (70, .inl (mi_ald 0 71)), (71, .inl (mi_push (.int 2) 72)), (72, .inl (mi_newI 74)), (74, .inl (mi_put 7 13 (.array .int) 77)), (77, .inl (mi_ald 0 78)), (78, .inl (mi_push (.int 6) 80)), (80, .inl (mi_newI 82)), (82, .inl (mi_put 7 14 (.array .int) 85)), (85, .inl (mi_ald 0 86)), (86, .inl (mi_push (.int 54) 88)), (88, .inl (mi_newI 90)), (90, .inl (mi_put 7 15 (.array .int) 93)), (93, .inl (mi_ald 0 94)), (94, .inl (mi_push (.int 240) 97)), (97, .inl (mi_newI 99)), (99, .inl (mi_put 7 16 (.array .int) 102)), (102, .inl (mi_ald 0 103)), (103, .inl (mi_push (.int 240) 106)), (106, .inl (mi_newI 108)), (108, .inl (mi_put 7 17 (.array .int) 111)), (111, .inl (mi_ald 0 112)), (112, .inl (mi_push (.int 2160) 115)), (115, .inl (mi_newI 117)), (117, .inl (mi_put 7 18 (.array .int) 120)), (120, .inl (mi_ald 0 121)), (121, .inl (mi_push (.int 2) 122)), (122, .inl (mi_newI 124)), (124, .inl (mi_put 7 19 (.array .int) 127)), (127, .inl (mi_ald 0 128)), (128, .inl (mi_push (.int 2) 129)), (129, .inl (mi_newI 131)), (131, .inl (mi_put 7 20 (.array .int) 134)), (134, .inl (mi_ald 0 135)), (135, .inl (mi_push (.int 12600) 138)), (138, .inl (mi_newI 140)), (140, .inl (mi_put 7 21 (.array .int) 143)), (143, .inl (mi_ald 0 144)), (144, .inl (mi_push (.int 2) 145)), (145, .inl (mi_newI 147)), (147, .inl (mi_put 7 22 (.array .int) 150)), (150, .inl (mi_ald 0 151)), (151, .inl (mi_push (.int 1202) 154)), (154, .inl (mi_newI 156)), (156, .inl (mi_put 7 23 (.array .int) 159)), (159, .inl (mi_ald 0 160)), (160, .inl (mi_push (.int 4) 161)), (161, .inl (mi_newI 163)), (163, .inl (mi_put 7 24 (.array .int) 166)), (166, .inl (mi_ald 0 167)), (167, .inl (mi_push (.int 2400) 170)), (170, .inl (mi_newI 172)), (172, .inl (mi_put 7 25 (.array .int) 175)), (175, .inl (mi_ald 0 176)), (176, .inl (mi_push (.int 9) 178)), (178, .inl (mi_newI 180)), (180, .inl (mi_put 7 32 (.array .int) 183)), (183, .inl (mi_ald 0 184)), (184, .inl (mi_push (.int 2) 185)), (185, .inl (mi_newI 187)), (187, .inl (mi_put 7 36 (.array .int) 190)), (190, .inl (mi_ald 0 191)), (191, .inl (mi_push (.int 2) 192)), (192, .inl (mi_newI 194)), (194, .inl (mi_put 7 37 (.array .int) 197)), (197, .inl (mi_ald 0 198)), (198, .inl (mi_push (.int 3) 199)), (199, .inl (mi_newI 201)), (201, .inl (mi_put 7 39 (.array .int) 204)), (204, .inl (mi_ald 0 205)), (205, .inl (mi_push (.int 3) 206)), (206, .inl (mi_newI 208)), (208, .inl (mi_put 7 40 (.array .int) 211)), (211, .inl (mi_ald 0 212)), (212, .inl (mi_push (.int 27) 214)), (214, .inl (mi_newI 216)), (216, .inl (mi_put 7 41 (.array .int) 219)), (219, .inl (mi_ald 0 220)), (220, .inl (mi_push (.int 0) 221)), (221, .inl (mi_put 7 2 .int 224)), (224, .inr (.inl 0))]
def m_X7_init : mD := (yX7_init, cX7_init, 1, none, [], t_X7_init)
def t_X7_thrown : mT := [(0, .inl (mi_ald 0 1)), (1, .inl (mi_get 7 0 4)), (4, .inr (.inl 1))]
def m_X7_thrown : mD := (yX7_thrown, cX7_thrown, 1, (some .int), [], t_X7_thrown)
def t_X7_in : mT := [(0, .inl (mi_ild 0 1)), (1, .inl (mi_ild 1 2)), (2, .inl (mi_b2 (fun x y => decide (x < y)) 14 5)), (5, .inl (mi_ild 0 6)), (6, .inl (mi_ild 2 7)), (7, .inl (mi_b2 (fun x y => decide (y < x)) 14 10)), (10, .inl (mi_push (.int 1) 11)), (11, .inl (mi_go 15)), (14, .inl (mi_push (.int 0) 15)), (15, .inr (.inl 2))]
def m_X7_in : mD := (yX7_in, cX7_in, 3, (some .boolean), [], t_X7_in)
def t_X7_feed : mT := [(0, .inl (mi_ald 0 1)), (1, .inl (mi_push (.int 0) 2)), (2, .inl (mi_put 7 0 .int 5)), (5, .inl (mi_ild 1 6)), (6, .inl (mi_push (.int 1) 7)), (7, .inl (mi_push (.int 8) 9)), (9, .inr (.inr (.inl (96, 3, none, [])))), (12, .inl (mi_b1 (fun x => decide (¬ x = 0)) 18 15)), (15, .inl (mi_push (.int (-102)) 17)), (17, .inr (.inl 1)), (18, .inl (mi_ald 0 19)), (19, .inl (mi_get 7 2 22)), (22, .inl (mi_ild 1 23)), (23, .inl (mi_i2 (fun x y => x + y) 24)), (24, .inl (mi_push (.int 600) 27)), (27, .inl (mi_b2 (fun x y => decide (x ≤ y)) 33 30)), (30, .inl (mi_push (.int (-104)) 32)), (32, .inr (.inl 1)), (33, .inl (mi_ild 1 34)), (34, .inl (mi_push (.int 1) 35)), (35, .inl (mi_i2 (fun x y => x - y) 36)), (36, .inl (mi_ist 4 38)), (38, .inl (mi_ild 4 40)), (40, .inl (mi_b1 (fun x => decide (x < 0)) 80 43)), (43, .inl (mi_ald 0 44)), (44, .inl (mi_get 7 1 47)), (47, .inl (mi_ald 0 48)), (48, .inl (mi_get 7 2 51)), (51, .inl (mi_lld 2 52)), (52, .inl (mi_push (.int 8) 54)), (54, .inl (mi_ild 4 56)), (56, .inl (mi_i2 (fun x y => x * y) 57)), (57, .inl (mi_ls mi_sshr 58)), (58, .inl (mi_li 59)), (59, .inl (mi_push (.int 255) 62)), (62, .inl (mi_i2 (fun x y => x &&& y) 63)), (63, .inl (mi_iast 64)), (64, .inl (mi_ald 0 65)), (65, .inl (mi_dup 66)), (66, .inl (mi_get 7 2 69)), (69, .inl (mi_push (.int 1) 70)), (70, .inl (mi_i2 (fun x y => x + y) 71)), (71, .inl (mi_put 7 2 .int 74)), (74, .inl (mi_inc 4 (-1) 77)), (77, .inl (mi_go 38)), (80, .inl (mi_ald 0 81)), (81, .inl (mi_get 7 2 84)), (84, .inr (.inl 1))]
def m_X7_feed : mD := (yX7_feed, cX7_feed, 5, (some .int), [], t_X7_feed)
def t_X7_here : mT := [(0, .inl (mi_ald 0 1)), (1, .inl (mi_get 7 27 4)), (4, .inl (mi_ald 0 5)), (5, .inl (mi_get 7 2 8)), (8, .inl (mi_b2 (fun x y => decide (y ≤ x)) 37 11)), (11, .inl (mi_ald 0 12)), (12, .inl (mi_get 7 1 15)), (15, .inl (mi_ald 0 16)), (16, .inl (mi_get 7 27 19)), (19, .inl (mi_iald 20)), (20, .inl (mi_push (.int 10) 22)), (22, .inl (mi_b2 (fun x y => decide (x = y)) 37 25)), (25, .inl (mi_ald 0 26)), (26, .inl (mi_get 7 1 29)), (29, .inl (mi_ald 0 30)), (30, .inl (mi_get 7 27 33)), (33, .inl (mi_iald 34)), (34, .inl (mi_go 38)), (37, .inl (mi_push (.int (-1)) 38)), (38, .inr (.inl 1))]
def m_X7_here : mD := (yX7_here, cX7_here, 1, (some .int), [], t_X7_here)
def t_X7_wrong : mT := [(0, .inl (mi_ald 0 1)), (1, .inl (mi_get 7 30 4)), (4, .inl (mi_b1 (fun x => decide (¬ x = 0)) 17 7)), (7, .inl (mi_ald 0 8)), (8, .inl (mi_ild 1 9)), (9, .inl (mi_put 7 30 .int 12)), (12, .inl (mi_ald 0 13)), (13, .inl (mi_ild 2 14)), (14, .inl (mi_put 7 31 .int 17)), (17, .inr (.inl 0))]
def m_X7_wrong : mD := (yX7_wrong, cX7_wrong, 3, none, [], t_X7_wrong)
def t_X7_isFigure : mT := [(0, .inl (mi_ild 0 1)), (1, .inl (mi_push (.int 48) 3)), (3, .inl (mi_push (.int 57) 5)), (5, .inr (.inr (.inl (96, 3, none, [])))), (8, .inr (.inl 2))]
def m_X7_isFigure : mD := (yX7_isFigure, cX7_isFigure, 1, (some .boolean), [], t_X7_isFigure)
def t_X7_isPlain : mT := [(0, .inl (mi_ild 0 1)), (1, .inr (.inr (.inl (100, 1, none, [])))), (4, .inl (mi_b1 (fun x => decide (¬ x = 0)) 24 7)), (7, .inl (mi_ild 0 8)), (8, .inl (mi_push (.int 97) 10)), (10, .inl (mi_push (.int 122) 12)), (12, .inr (.inr (.inl (96, 3, none, [])))), (15, .inl (mi_b1 (fun x => decide (¬ x = 0)) 24 18)), (18, .inl (mi_ild 0 19)), (19, .inl (mi_push (.int 95) 21)), (21, .inl (mi_b2 (fun x y => decide (¬ x = y)) 28 24)), (24, .inl (mi_push (.int 1) 25)), (25, .inl (mi_go 29)), (28, .inl (mi_push (.int 0) 29)), (29, .inr (.inl 2))]
def m_X7_isPlain : mD := (yX7_isPlain, cX7_isPlain, 1, (some .boolean), [], t_X7_isPlain)
def t_X7_blanks : mT := [(0, .inl (mi_ald 0 1)), (1, .inr (.inr (.inl (98, 1, some 7, [])))), (4, .inl (mi_push (.int 32) 6)), (6, .inl (mi_b2 (fun x y => decide (¬ x = y)) 22 9)), (9, .inl (mi_ald 0 10)), (10, .inl (mi_dup 11)), (11, .inl (mi_get 7 27 14)), (14, .inl (mi_push (.int 1) 15)), (15, .inl (mi_i2 (fun x y => x + y) 16)), (16, .inl (mi_put 7 27 .int 19)), (19, .inl (mi_go 0)), (22, .inr (.inl 0))]
def m_X7_blanks : mD := (yX7_blanks, cX7_blanks, 1, none, [], t_X7_blanks)
def t_X7_ended : mT := [(0, .inl (mi_ald 0 1)), (1, .inl (mi_get 7 30 4)), (4, .inl (mi_b1 (fun x => decide (¬ x = 0)) 33 7)), (7, .inl (mi_ald 0 8)), (8, .inr (.inr (.inl (98, 1, some 7, [])))), (11, .inl (mi_push (.int 32) 13)), (13, .inl (mi_b2 (fun x y => decide (x = y)) 33 16)), (16, .inl (mi_ald 0 17)), (17, .inr (.inr (.inl (98, 1, some 7, [])))), (20, .inl (mi_push (.int (-1)) 21)), (21, .inl (mi_b2 (fun x y => decide (x = y)) 33 24)), (24, .inl (mi_ald 0 25)), (25, .inl (mi_push (.int 1) 26)), (26, .inl (mi_ald 0 27)), (27, .inl (mi_get 7 27 30)), (30, .inr (.inr (.inl (99, 3, some 7, [])))), (33, .inr (.inl 0))]
def m_X7_ended : mD := (yX7_ended, cX7_ended, 1, none, [], t_X7_ended)
def t_X7_sign : mT := [(0, .inl (mi_ald 0 1)), (1, .inl (mi_get 7 32 4)), (4, .inl (mi_push (.int 0) 5)), (5, .inl (mi_iald 6)), (6, .inl (mi_push (.int 8) 8)), (8, .inl (mi_b2 (fun x y => decide (¬ x = y)) 20 11)), (11, .inl (mi_ald 0 12)), (12, .inl (mi_push (.int 2) 13)), (13, .inl (mi_ild 2 14)), (14, .inr (.inr (.inl (99, 3, some 7, [])))), (17, .inl (mi_go 42)), (20, .inl (mi_ald 0 21)), (21, .inl (mi_get 7 32 24)), (24, .inl (mi_push (.int 0) 25)), (25, .inl (mi_dup2 26)), (26, .inl (mi_iald 27)), (27, .inl (mi_push (.int 1) 28)), (28, .inl (mi_i2 (fun x y => x + y) 29)), (29, .inl (mi_iast 30)), (30, .inl (mi_ald 0 31)), (31, .inl (mi_get 7 32 34)), (34, .inl (mi_ald 0 35)), (35, .inl (mi_get 7 32 38)), (38, .inl (mi_push (.int 0) 39)), (39, .inl (mi_iald 40)), (40, .inl (mi_ild 1 41)), (41, .inl (mi_iast 42)), (42, .inr (.inl 0))]
def m_X7_sign : mD := (yX7_sign, cX7_sign, 3, none, [], t_X7_sign)
def t_X7_readName : mT := [(0, .inl (mi_ald 0 1)), (1, .inl (mi_get 7 32 4)), (4, .inl (mi_push (.int 0) 5)), (5, .inl (mi_push (.int 0) 6)), (6, .inl (mi_iast 7)), (7, .inl (mi_ald 0 8)), (8, .inr (.inr (.inl (98, 1, some 7, [])))), (11, .inl (mi_push (.int 34) 13)), (13, .inl (mi_b2 (fun x y => decide (¬ x = y)) 33 16)), (16, .inl (mi_ald 0 17)), (17, .inl (mi_dup 18)), (18, .inl (mi_get 7 27 21)), (21, .inl (mi_push (.int 1) 22)), (22, .inl (mi_i2 (fun x y => x + y) 23)), (23, .inl (mi_put 7 27 .int 26)), (26, .inl (mi_ald 0 27)), (27, .inr (.inr (.inl (106, 1, some 7, [])))), (30, .inl (mi_go 97)), (33, .inl (mi_ald 0 34)), (34, .inr (.inr (.inl (98, 1, some 7, [])))), (37, .inr (.inr (.inl (101, 1, none, [])))), (40, .inl (mi_b1 (fun x => decide (¬ x = 0)) 55 43)), (43, .inl (mi_ald 0 44)), (44, .inl (mi_push (.int 1) 45)), (45, .inl (mi_ald 0 46)), (46, .inl (mi_get 7 27 49)), (49, .inr (.inr (.inl (99, 3, some 7, [])))), (52, .inl (mi_go 97)), (55, .inl (mi_ald 0 56)), (56, .inl (mi_get 7 30 59)), (59, .inl (mi_b1 (fun x => decide (¬ x = 0)) 97 62)), (62, .inl (mi_ald 0 63)), (63, .inr (.inr (.inl (98, 1, some 7, [])))), (66, .inr (.inr (.inl (101, 1, none, [])))), (69, .inl (mi_b1 (fun x => decide (x = 0)) 97 72)), (72, .inl (mi_ald 0 73)), (73, .inl (mi_ald 0 74)), (74, .inr (.inr (.inl (98, 1, some 7, [])))), (77, .inl (mi_ald 0 78)), (78, .inl (mi_get 7 27 81)), (81, .inr (.inr (.inl (104, 3, some 7, [])))), (84, .inl (mi_ald 0 85)), (85, .inl (mi_dup 86)), (86, .inl (mi_get 7 27 89)), (89, .inl (mi_push (.int 1) 90)), (90, .inl (mi_i2 (fun x y => x + y) 91)), (91, .inl (mi_put 7 27 .int 94)), (94, .inl (mi_go 55)), (97, .inl (mi_ald 0 98)), (98, .inr (.inr (.inl (103, 1, some 7, [])))), (101, .inr (.inl 0))]
def m_X7_readName : mD := (yX7_readName, cX7_readName, 1, none, [], t_X7_readName)
def t_X7_readQuoted : mT := [(0, .inl (mi_push (.int 1) 1)), (1, .inl (mi_ist 1 2)), (2, .inl (mi_ild 1 3)), (3, .inl (mi_b1 (fun x => decide (x = 0)) 173 6)), (6, .inl (mi_ald 0 7)), (7, .inl (mi_get 7 30 10)), (10, .inl (mi_b1 (fun x => decide (¬ x = 0)) 173 13)), (13, .inl (mi_ald 0 14)), (14, .inr (.inr (.inl (98, 1, some 7, [])))), (17, .inl (mi_ist 2 18)), (18, .inl (mi_ild 2 19)), (19, .inl (mi_push (.int 32) 21)), (21, .inl (mi_push (.int 126) 23)), (23, .inr (.inr (.inl (96, 3, none, [])))), (26, .inl (mi_b1 (fun x => decide (x = 0)) 44 29)), (29, .inl (mi_ild 2 30)), (30, .inl (mi_push (.int 34) 32)), (32, .inl (mi_b2 (fun x y => decide (¬ x = y)) 56 35)), (35, .inl (mi_ald 0 36)), (36, .inl (mi_get 7 32 39)), (39, .inl (mi_push (.int 0) 40)), (40, .inl (mi_iald 41)), (41, .inl (mi_b1 (fun x => decide (¬ x = 0)) 56 44)), (44, .inl (mi_ald 0 45)), (45, .inl (mi_push (.int 1) 46)), (46, .inl (mi_ald 0 47)), (47, .inl (mi_get 7 27 50)), (50, .inr (.inr (.inl (99, 3, some 7, [])))), (53, .inl (mi_go 160)), (56, .inl (mi_ild 2 57)), (57, .inl (mi_push (.int 34) 59)), (59, .inl (mi_b2 (fun x y => decide (¬ x = y)) 67 62)), (62, .inl (mi_push (.int 0) 63)), (63, .inl (mi_ist 1 64)), (64, .inl (mi_go 160)), (67, .inl (mi_ald 0 68)), (68, .inl (mi_get 7 32 71)), (71, .inl (mi_push (.int 0) 72)), (72, .inl (mi_iald 73)), (73, .inl (mi_push (.int 8) 75)), (75, .inl (mi_b2 (fun x y => decide (¬ x = y)) 90 78)), (78, .inl (mi_ald 0 79)), (79, .inl (mi_push (.int 2) 80)), (80, .inl (mi_ald 0 81)), (81, .inl (mi_get 7 27 84)), (84, .inr (.inr (.inl (99, 3, some 7, [])))), (87, .inl (mi_go 160)), (90, .inl (mi_ild 2 91)), (91, .inl (mi_push (.int 92) 93)), (93, .inl (mi_b2 (fun x y => decide (¬ x = y)) 151 96)), (96, .inl (mi_ald 0 97)), (97, .inl (mi_dup 98)), (98, .inl (mi_get 7 27 101)), (101, .inl (mi_push (.int 1) 102)), (102, .inl (mi_i2 (fun x y => x + y) 103)), (103, .inl (mi_put 7 27 .int 106)), (106, .inl (mi_ald 0 107)), (107, .inr (.inr (.inl (98, 1, some 7, [])))), (110, .inl (mi_push (.int 34) 112)), (112, .inl (mi_b2 (fun x y => decide (x = y)) 124 115)), (115, .inl (mi_ald 0 116)), (116, .inr (.inr (.inl (98, 1, some 7, [])))), (119, .inl (mi_push (.int 92) 121)), (121, .inl (mi_b2 (fun x y => decide (¬ x = y)) 139 124)), (124, .inl (mi_ald 0 125)), (125, .inl (mi_ald 0 126)), (126, .inr (.inr (.inl (98, 1, some 7, [])))), (129, .inl (mi_ald 0 130)), (130, .inl (mi_get 7 27 133)), (133, .inr (.inr (.inl (104, 3, some 7, [])))), (136, .inl (mi_go 160)), (139, .inl (mi_ald 0 140)), (140, .inl (mi_push (.int 1) 141)), (141, .inl (mi_ald 0 142)), (142, .inl (mi_get 7 27 145)), (145, .inr (.inr (.inl (99, 3, some 7, [])))), (148, .inl (mi_go 160)), (151, .inl (mi_ald 0 152)), (152, .inl (mi_ild 2 153)), (153, .inl (mi_ald 0 154)), (154, .inl (mi_get 7 27 157)), (157, .inr (.inr (.inl (104, 3, some 7, [])))), (160, .inl (mi_ald 0 161)), (161, .inl (mi_dup 162)), (162, .inl (mi_get 7 27 165)), (165, .inl (mi_push (.int 1) 166)), (166, .inl (mi_i2 (fun x y => x + y) 167)), (167, .inl (mi_put 7 27 .int 170)), (170, .inl (mi_go 2)), (173, .inr (.inl 0))]
def m_X7_readQuoted : mD := (yX7_readQuoted, cX7_readQuoted, 3, none, [], t_X7_readQuoted)
def t_X7_readNumber : mT := [(0, .inl (mi_ald 0 1)), (1, .inr (.inr (.inl (98, 1, some 7, [])))), (4, .inl (mi_push (.int 45) 6)), (6, .inl (mi_b2 (fun x y => decide (¬ x = y)) 13 9)), (9, .inl (mi_push (.int 1) 10)), (10, .inl (mi_go 14)), (13, .inl (mi_push (.int 0) 14)), (14, .inl (mi_ist 2 15)), (15, .inl (mi_ild 2 16)), (16, .inl (mi_b1 (fun x => decide (x = 0)) 39 19)), (19, .inl (mi_ald 0 20)), (20, .inl (mi_push (.int 45) 22)), (22, .inl (mi_ald 0 23)), (23, .inl (mi_get 7 27 26)), (26, .inr (.inr (.inl (104, 3, some 7, [])))), (29, .inl (mi_ald 0 30)), (30, .inl (mi_dup 31)), (31, .inl (mi_get 7 27 34)), (34, .inl (mi_push (.int 1) 35)), (35, .inl (mi_i2 (fun x y => x + y) 36)), (36, .inl (mi_put 7 27 .int 39)), (39, .inl (mi_ald 0 40)), (40, .inl (mi_get 7 27 43)), (43, .inl (mi_ist 3 44)), (44, .inl (mi_push (.int 0) 45)), (45, .inl (mi_ist 4 47)), (47, .inl (mi_push (.int 0) 48)), (48, .inl (mi_ist 5 50)), (50, .inl (mi_ald 0 51)), (51, .inl (mi_get 7 30 54)), (54, .inl (mi_b1 (fun x => decide (¬ x = 0)) 179 57)), (57, .inl (mi_ald 0 58)), (58, .inr (.inr (.inl (98, 1, some 7, [])))), (61, .inr (.inr (.inl (100, 1, none, [])))), (64, .inl (mi_b1 (fun x => decide (x = 0)) 179 67)), (67, .inl (mi_ild 5 69)), (69, .inl (mi_b1 (fun x => decide (x ≤ 0)) 83 72)), (72, .inl (mi_ald 0 73)), (73, .inl (mi_get 7 1 76)), (76, .inl (mi_ild 3 77)), (77, .inl (mi_iald 78)), (78, .inl (mi_push (.int 48) 80)), (80, .inl (mi_b2 (fun x y => decide (x = y)) 105 83)), (83, .inl (mi_ild 1 84)), (84, .inl (mi_b1 (fun x => decide (x = 0)) 117 87)), (87, .inl (mi_ild 2 88)), (88, .inl (mi_b1 (fun x => decide (x = 0)) 117 91)), (91, .inl (mi_ald 0 92)), (92, .inr (.inr (.inl (98, 1, some 7, [])))), (95, .inl (mi_push (.int 48) 97)), (97, .inl (mi_b2 (fun x y => decide (¬ x = y)) 117 100)), (100, .inl (mi_ild 5 102)), (102, .inl (mi_b1 (fun x => decide (¬ x = 0)) 117 105)), (105, .inl (mi_ald 0 106)), (106, .inl (mi_push (.int 1) 107)), (107, .inl (mi_ald 0 108)), (108, .inl (mi_get 7 27 111)), (111, .inr (.inr (.inl (99, 3, some 7, [])))), (114, .inl (mi_go 50)), (117, .inl (mi_ild 5 119)), (119, .inl (mi_push (.int 6) 121)), (121, .inl (mi_b2 (fun x y => decide (¬ x = y)) 136 124)), (124, .inl (mi_ald 0 125)), (125, .inl (mi_push (.int 2) 126)), (126, .inl (mi_ald 0 127)), (127, .inl (mi_get 7 27 130)), (130, .inr (.inr (.inl (99, 3, some 7, [])))), (133, .inl (mi_go 50)), (136, .inl (mi_push (.int 10) 138)), (138, .inl (mi_ild 4 140)), (140, .inl (mi_i2 (fun x y => x * y) 141)), (141, .inl (mi_ald 0 142)), (142, .inr (.inr (.inl (98, 1, some 7, [])))), (145, .inl (mi_i2 (fun x y => x + y) 146)), (146, .inl (mi_push (.int 48) 148)), (148, .inl (mi_i2 (fun x y => x - y) 149)), (149, .inl (mi_ist 4 151)), (151, .inl (mi_ald 0 152)), (152, .inl (mi_ald 0 153)), (153, .inr (.inr (.inl (98, 1, some 7, [])))), (156, .inl (mi_ald 0 157)), (157, .inl (mi_get 7 27 160)), (160, .inr (.inr (.inl (104, 3, some 7, [])))), (163, .inl (mi_inc 5 1 166)), (166, .inl (mi_ald 0 167)), (167, .inl (mi_dup 168)), (168, .inl (mi_get 7 27 171)), (171, .inl (mi_push (.int 1) 172)), (172, .inl (mi_i2 (fun x y => x + y) 173)), (173, .inl (mi_put 7 27 .int 176)), (176, .inl (mi_go 50)), (179, .inl (mi_ald 0 180)), (180, .inl (mi_get 7 30 183)), (183, .inl (mi_b1 (fun x => decide (¬ x = 0)) 200 186)), (186, .inl (mi_ild 5 188)), (188, .inl (mi_b1 (fun x => decide (¬ x = 0)) 200 191)), (191, .inl (mi_ald 0 192)), (192, .inl (mi_push (.int 1) 193)), (193, .inl (mi_ald 0 194)), (194, .inl (mi_get 7 27 197)), (197, .inr (.inr (.inl (99, 3, some 7, [])))), (200, .inl (mi_ald 0 201)), (201, .inl (mi_push (.int 1) 202)), (202, .inl (mi_put 7 33 .int 205)), (205, .inl (mi_ald 0 206)), (206, .inl (mi_push (.int 1000) 209)), (209, .inl (mi_ild 4 211)), (211, .inl (mi_i2 (fun x y => x * y) 212)), (212, .inl (mi_put 7 34 .int 215)), (215, .inl (mi_ald 0 216)), (216, .inl (mi_get 7 30 219)), (219, .inl (mi_b1 (fun x => decide (¬ x = 0)) 259 222)), (222, .inl (mi_ild 1 223)), (223, .inl (mi_b1 (fun x => decide (¬ x = 0)) 259 226)), (226, .inl (mi_ald 0 227)), (227, .inr (.inr (.inl (98, 1, some 7, [])))), (230, .inl (mi_push (.int 46) 232)), (232, .inl (mi_b2 (fun x y => decide (¬ x = y)) 259 235)), (235, .inl (mi_ild 5 237)), (237, .inl (mi_push (.int 3) 238)), (238, .inl (mi_b2 (fun x y => decide (x ≤ y)) 252 241)), (241, .inl (mi_ald 0 242)), (242, .inl (mi_push (.int 2) 243)), (243, .inl (mi_ild 3 244)), (244, .inl (mi_push (.int 3) 245)), (245, .inl (mi_i2 (fun x y => x + y) 246)), (246, .inr (.inr (.inl (99, 3, some 7, [])))), (249, .inl (mi_go 281)), (252, .inl (mi_ald 0 253)), (253, .inr (.inr (.inl (108, 1, some 7, [])))), (256, .inl (mi_go 281)), (259, .inl (mi_ald 0 260)), (260, .inl (mi_get 7 30 263)), (263, .inl (mi_b1 (fun x => decide (¬ x = 0)) 281 266)), (266, .inl (mi_ild 2 267)), (267, .inl (mi_b1 (fun x => decide (x = 0)) 281 270)), (270, .inl (mi_ild 4 272)), (272, .inl (mi_b1 (fun x => decide (¬ x = 0)) 281 275)), (275, .inl (mi_ald 0 276)), (276, .inl (mi_push (.int 1) 277)), (277, .inl (mi_ild 3 278)), (278, .inr (.inr (.inl (99, 3, some 7, [])))), (281, .inl (mi_ald 0 282)), (282, .inl (mi_ild 2 283)), (283, .inl (mi_b1 (fun x => decide (x = 0)) 294 286)), (286, .inl (mi_ald 0 287)), (287, .inl (mi_get 7 34 290)), (290, .inl (mi_i1 (fun x => -x) 291)), (291, .inl (mi_go 298)), (294, .inl (mi_ald 0 295)), (295, .inl (mi_get 7 34 298)), (298, .inl (mi_put 7 34 .int 301)), (301, .inl (mi_ald 0 302)), (302, .inr (.inr (.inl (103, 1, some 7, [])))), (305, .inr (.inl 0))]
def m_X7_readNumber : mD := (yX7_readNumber, cX7_readNumber, 6, none, [], t_X7_readNumber)
def t_X7_readDecimals : mT := [(0, .inl (mi_ald 0 1)), (1, .inl (mi_push (.int 2) 2)), (2, .inl (mi_put 7 33 .int 5)), (5, .inl (mi_ald 0 6)), (6, .inl (mi_push (.int 46) 8)), (8, .inl (mi_ald 0 9)), (9, .inl (mi_get 7 27 12)), (12, .inr (.inr (.inl (104, 3, some 7, [])))), (15, .inl (mi_ald 0 16)), (16, .inl (mi_dup 17)), (17, .inl (mi_get 7 27 20)), (20, .inl (mi_push (.int 1) 21)), (21, .inl (mi_i2 (fun x y => x + y) 22)), (22, .inl (mi_put 7 27 .int 25)), (25, .inl (mi_push (.int 100) 27)), (27, .inl (mi_ist 1 28)), (28, .inl (mi_ald 0 29)), (29, .inr (.inr (.inl (98, 1, some 7, [])))), (32, .inr (.inr (.inl (100, 1, none, [])))), (35, .inl (mi_b1 (fun x => decide (¬ x = 0)) 47 38)), (38, .inl (mi_ald 0 39)), (39, .inl (mi_push (.int 1) 40)), (40, .inl (mi_ald 0 41)), (41, .inl (mi_get 7 27 44)), (44, .inr (.inr (.inl (99, 3, some 7, [])))), (47, .inl (mi_ald 0 48)), (48, .inl (mi_get 7 30 51)), (51, .inl (mi_b1 (fun x => decide (¬ x = 0)) 128 54)), (54, .inl (mi_ald 0 55)), (55, .inr (.inr (.inl (98, 1, some 7, [])))), (58, .inr (.inr (.inl (100, 1, none, [])))), (61, .inl (mi_b1 (fun x => decide (x = 0)) 128 64)), (64, .inl (mi_ild 1 65)), (65, .inl (mi_b1 (fun x => decide (¬ x = 0)) 80 68)), (68, .inl (mi_ald 0 69)), (69, .inl (mi_push (.int 2) 70)), (70, .inl (mi_ald 0 71)), (71, .inl (mi_get 7 27 74)), (74, .inr (.inr (.inl (99, 3, some 7, [])))), (77, .inl (mi_go 47)), (80, .inl (mi_ald 0 81)), (81, .inl (mi_dup 82)), (82, .inl (mi_get 7 34 85)), (85, .inl (mi_ild 1 86)), (86, .inl (mi_ald 0 87)), (87, .inr (.inr (.inl (98, 1, some 7, [])))), (90, .inl (mi_push (.int 48) 92)), (92, .inl (mi_i2 (fun x y => x - y) 93)), (93, .inl (mi_i2 (fun x y => x * y) 94)), (94, .inl (mi_i2 (fun x y => x + y) 95)), (95, .inl (mi_put 7 34 .int 98)), (98, .inl (mi_ild 1 99)), (99, .inl (mi_push (.int 10) 101)), (101, .inl (mi_d2 (fun x y => x / y) 102)), (102, .inl (mi_ist 1 103)), (103, .inl (mi_ald 0 104)), (104, .inl (mi_ald 0 105)), (105, .inr (.inr (.inl (98, 1, some 7, [])))), (108, .inl (mi_ald 0 109)), (109, .inl (mi_get 7 27 112)), (112, .inr (.inr (.inl (104, 3, some 7, [])))), (115, .inl (mi_ald 0 116)), (116, .inl (mi_dup 117)), (117, .inl (mi_get 7 27 120)), (120, .inl (mi_push (.int 1) 121)), (121, .inl (mi_i2 (fun x y => x + y) 122)), (122, .inl (mi_put 7 27 .int 125)), (125, .inl (mi_go 47)), (128, .inr (.inl 0))]
def m_X7_readDecimals : mD := (yX7_readDecimals, cX7_readDecimals, 2, none, [], t_X7_readDecimals)
def t_X7_plainSort : mT := [(0, .inl (mi_ald 0 1)), (1, .inl (mi_get 7 27 4)), (4, .inl (mi_ist 1 5)), (5, .inl (mi_push (.int 1) 6)), (6, .inl (mi_ist 2 7)), (7, .inl (mi_ild 1 8)), (8, .inl (mi_ald 0 9)), (9, .inl (mi_get 7 2 12)), (12, .inl (mi_b2 (fun x y => decide (y ≤ x)) 55 15)), (15, .inl (mi_ald 0 16)), (16, .inl (mi_get 7 1 19)), (19, .inl (mi_ild 1 20)), (20, .inl (mi_iald 21)), (21, .inr (.inr (.inl (101, 1, none, [])))), (24, .inl (mi_b1 (fun x => decide (x = 0)) 55 27)), (27, .inl (mi_ild 2 28)), (28, .inl (mi_b1 (fun x => decide (x = 0)) 47 31)), (31, .inl (mi_ald 0 32)), (32, .inl (mi_get 7 1 35)), (35, .inl (mi_ild 1 36)), (36, .inl (mi_iald 37)), (37, .inr (.inr (.inl (100, 1, none, [])))), (40, .inl (mi_b1 (fun x => decide (x = 0)) 47 43)), (43, .inl (mi_push (.int 1) 44)), (44, .inl (mi_go 48)), (47, .inl (mi_push (.int 0) 48)), (48, .inl (mi_ist 2 49)), (49, .inl (mi_inc 1 1 52)), (52, .inl (mi_go 7)), (55, .inl (mi_ild 2 56)), (56, .inl (mi_b1 (fun x => decide (x = 0)) 80 59)), (59, .inl (mi_ild 1 60)), (60, .inl (mi_ald 0 61)), (61, .inl (mi_get 7 2 64)), (64, .inl (mi_b2 (fun x y => decide (y ≤ x)) 80 67)), (67, .inl (mi_ald 0 68)), (68, .inl (mi_get 7 1 71)), (71, .inl (mi_ild 1 72)), (72, .inl (mi_iald 73)), (73, .inl (mi_push (.int 46) 75)), (75, .inl (mi_b2 (fun x y => decide (¬ x = y)) 80 78)), (78, .inl (mi_push (.int 2) 79)), (79, .inr (.inl 1)), (80, .inl (mi_ild 2 81)), (81, .inl (mi_b1 (fun x => decide (x = 0)) 123 84)), (84, .inl (mi_ild 1 85)), (85, .inl (mi_ald 0 86)), (86, .inl (mi_get 7 27 89)), (89, .inl (mi_i2 (fun x y => x - y) 90)), (90, .inl (mi_push (.int 6) 92)), (92, .inl (mi_b2 (fun x y => decide (y < x)) 123 95)), (95, .inl (mi_ild 1 96)), (96, .inl (mi_ald 0 97)), (97, .inl (mi_get 7 27 100)), (100, .inl (mi_i2 (fun x y => x - y) 101)), (101, .inl (mi_push (.int 1) 102)), (102, .inl (mi_b2 (fun x y => decide (x = y)) 119 105)), (105, .inl (mi_ald 0 106)), (106, .inl (mi_get 7 1 109)), (109, .inl (mi_ald 0 110)), (110, .inl (mi_get 7 27 113)), (113, .inl (mi_iald 114)), (114, .inl (mi_push (.int 48) 116)), (116, .inl (mi_b2 (fun x y => decide (x = y)) 123 119)), (119, .inl (mi_push (.int 1) 120)), (120, .inl (mi_go 124)), (123, .inl (mi_push (.int 3) 124)), (124, .inr (.inl 1))]
def m_X7_plainSort : mD := (yX7_plainSort, cX7_plainSort, 3, (some .int), [], t_X7_plainSort)
def t_X7_readPlainDecimal : mT := [(0, .inl (mi_ald 0 1)), (1, .inl (mi_get 7 27 4)), (4, .inl (mi_ist 1 5)), (5, .inl (mi_ald 0 6)), (6, .inl (mi_get 7 1 9)), (9, .inl (mi_ild 1 10)), (10, .inl (mi_iald 11)), (11, .inl (mi_push (.int 46) 13)), (13, .inl (mi_b2 (fun x y => decide (x = y)) 22 16)), (16, .inl (mi_inc 1 1 19)), (19, .inl (mi_go 5)), (22, .inl (mi_ald 0 23)), (23, .inl (mi_get 7 1 26)), (26, .inl (mi_ald 0 27)), (27, .inl (mi_get 7 27 30)), (30, .inl (mi_iald 31)), (31, .inl (mi_push (.int 48) 33)), (33, .inl (mi_b2 (fun x y => decide (¬ x = y)) 60 36)), (36, .inl (mi_ild 1 37)), (37, .inl (mi_ald 0 38)), (38, .inl (mi_get 7 27 41)), (41, .inl (mi_i2 (fun x y => x - y) 42)), (42, .inl (mi_push (.int 1) 43)), (43, .inl (mi_b2 (fun x y => decide (x ≤ y)) 60 46)), (46, .inl (mi_ald 0 47)), (47, .inl (mi_push (.int 1) 48)), (48, .inl (mi_ald 0 49)), (49, .inl (mi_get 7 27 52)), (52, .inl (mi_push (.int 1) 53)), (53, .inl (mi_i2 (fun x y => x + y) 54)), (54, .inr (.inr (.inl (99, 3, some 7, [])))), (57, .inl (mi_go 89)), (60, .inl (mi_ild 1 61)), (61, .inl (mi_ald 0 62)), (62, .inl (mi_get 7 27 65)), (65, .inl (mi_i2 (fun x y => x - y) 66)), (66, .inl (mi_push (.int 3) 67)), (67, .inl (mi_b2 (fun x y => decide (x ≤ y)) 84 70)), (70, .inl (mi_ald 0 71)), (71, .inl (mi_push (.int 2) 72)), (72, .inl (mi_ald 0 73)), (73, .inl (mi_get 7 27 76)), (76, .inl (mi_push (.int 3) 77)), (77, .inl (mi_i2 (fun x y => x + y) 78)), (78, .inr (.inr (.inl (99, 3, some 7, [])))), (81, .inl (mi_go 89)), (84, .inl (mi_ald 0 85)), (85, .inl (mi_push (.int 0) 86)), (86, .inr (.inr (.inl (107, 2, some 7, [])))), (89, .inr (.inl 0))]
def m_X7_readPlainDecimal : mD := (yX7_readPlainDecimal, cX7_readPlainDecimal, 2, none, [], t_X7_readPlainDecimal)
def t_X7_readValue : mT := [(0, .inl (mi_ald 0 1)), (1, .inl (mi_get 7 32 4)), (4, .inl (mi_push (.int 0) 5)), (5, .inl (mi_push (.int 0) 6)), (6, .inl (mi_iast 7)), (7, .inl (mi_ald 0 8)), (8, .inl (mi_push (.int 0) 9)), (9, .inl (mi_put 7 34 .int 12)), (12, .inl (mi_ald 0 13)), (13, .inr (.inr (.inl (98, 1, some 7, [])))), (16, .inl (mi_ist 2 17)), (17, .inl (mi_ild 2 18)), (18, .inl (mi_push (.int 45) 20)), (20, .inl (mi_b2 (fun x y => decide (¬ x = y)) 72 23)), (23, .inl (mi_ald 0 24)), (24, .inl (mi_get 7 27 27)), (27, .inl (mi_push (.int 1) 28)), (28, .inl (mi_i2 (fun x y => x + y) 29)), (29, .inl (mi_ald 0 30)), (30, .inl (mi_get 7 2 33)), (33, .inl (mi_b2 (fun x y => decide (y ≤ x)) 68 36)), (36, .inl (mi_ald 0 37)), (37, .inl (mi_get 7 1 40)), (40, .inl (mi_ald 0 41)), (41, .inl (mi_get 7 27 44)), (44, .inl (mi_push (.int 1) 45)), (45, .inl (mi_i2 (fun x y => x + y) 46)), (46, .inl (mi_iald 47)), (47, .inl (mi_push (.int 32) 49)), (49, .inl (mi_b2 (fun x y => decide (x = y)) 68 52)), (52, .inl (mi_ald 0 53)), (53, .inl (mi_get 7 1 56)), (56, .inl (mi_ald 0 57)), (57, .inl (mi_get 7 27 60)), (60, .inl (mi_push (.int 1) 61)), (61, .inl (mi_i2 (fun x y => x + y) 62)), (62, .inl (mi_iald 63)), (63, .inl (mi_push (.int 10) 65)), (65, .inl (mi_b2 (fun x y => decide (¬ x = y)) 72 68)), (68, .inl (mi_push (.int 1) 69)), (69, .inl (mi_go 73)), (72, .inl (mi_push (.int 0) 73)), (73, .inl (mi_ist 3 74)), (74, .inl (mi_ild 3 75)), (75, .inl (mi_b1 (fun x => decide (x = 0)) 96 78)), (78, .inl (mi_ald 0 79)), (79, .inl (mi_push (.int 0) 80)), (80, .inl (mi_put 7 33 .int 83)), (83, .inl (mi_ald 0 84)), (84, .inl (mi_dup 85)), (85, .inl (mi_get 7 27 88)), (88, .inl (mi_push (.int 1) 89)), (89, .inl (mi_i2 (fun x y => x + y) 90)), (90, .inl (mi_put 7 27 .int 93)), (93, .inl (mi_go 216)), (96, .inl (mi_ild 1 97)), (97, .inl (mi_push (.int 2) 98)), (98, .inl (mi_b2 (fun x y => decide (¬ x = y)) 133 101)), (101, .inl (mi_ald 0 102)), (102, .inl (mi_push (.int 3) 103)), (103, .inl (mi_put 7 33 .int 106)), (106, .inl (mi_ild 2 107)), (107, .inl (mi_push (.int 45) 109)), (109, .inl (mi_b2 (fun x y => decide (¬ x = y)) 126 112)), (112, .inl (mi_ald 0 113)), (113, .inl (mi_push (.int 1) 114)), (114, .inl (mi_ald 0 115)), (115, .inl (mi_get 7 27 118)), (118, .inl (mi_push (.int 1) 119)), (119, .inl (mi_i2 (fun x y => x + y) 120)), (120, .inr (.inr (.inl (99, 3, some 7, [])))), (123, .inl (mi_go 216)), (126, .inl (mi_ald 0 127)), (127, .inr (.inr (.inl (105, 1, some 7, [])))), (130, .inl (mi_go 216)), (133, .inl (mi_ild 1 134)), (134, .inl (mi_push (.int 2) 135)), (135, .inl (mi_b2 (fun x y => decide (y ≤ x)) 211 138)), (138, .inl (mi_ild 2 139)), (139, .inl (mi_push (.int 34) 141)), (141, .inl (mi_b2 (fun x y => decide (x = y)) 158 144)), (144, .inl (mi_ild 2 145)), (145, .inr (.inr (.inl (101, 1, none, [])))), (148, .inl (mi_b1 (fun x => decide (x = 0)) 170 151)), (151, .inl (mi_ild 2 152)), (152, .inr (.inr (.inl (100, 1, none, [])))), (155, .inl (mi_b1 (fun x => decide (¬ x = 0)) 170 158)), (158, .inl (mi_ald 0 159)), (159, .inl (mi_push (.int 3) 160)), (160, .inl (mi_ald 0 161)), (161, .inl (mi_get 7 27 164)), (164, .inr (.inr (.inl (99, 3, some 7, [])))), (167, .inl (mi_go 216)), (170, .inl (mi_ild 2 171)), (171, .inl (mi_push (.int 45) 173)), (173, .inl (mi_b2 (fun x y => decide (x = y)) 183 176)), (176, .inl (mi_ild 2 177)), (177, .inr (.inr (.inl (100, 1, none, [])))), (180, .inl (mi_b1 (fun x => decide (x = 0)) 199 183)), (183, .inl (mi_ald 0 184)), (184, .inl (mi_ild 1 185)), (185, .inl (mi_b1 (fun x => decide (¬ x = 0)) 192 188)), (188, .inl (mi_push (.int 1) 189)), (189, .inl (mi_go 193)), (192, .inl (mi_push (.int 0) 193)), (193, .inr (.inr (.inl (107, 2, some 7, [])))), (196, .inl (mi_go 216)), (199, .inl (mi_ald 0 200)), (200, .inl (mi_push (.int 1) 201)), (201, .inl (mi_ald 0 202)), (202, .inl (mi_get 7 27 205)), (205, .inr (.inr (.inl (99, 3, some 7, [])))), (208, .inl (mi_go 216)), (211, .inl (mi_ald 0 212)), (212, .inl (mi_ild 2 213)), (213, .inr (.inr (.inl (112, 2, some 7, [])))), (216, .inr (.inl 0))]
def m_X7_readValue : mD := (yX7_readValue, cX7_readValue, 4, none, [], t_X7_readValue)
def t_X7_readAny : mT := [(0, .inl (mi_ild 1 1)), (1, .inl (mi_push (.int 45) 3)), (3, .inl (mi_b2 (fun x y => decide (¬ x = y)) 10 6)), (6, .inl (mi_push (.int 2) 7)), (7, .inl (mi_go 25)), (10, .inl (mi_ild 1 11)), (11, .inr (.inr (.inl (101, 1, none, [])))), (14, .inl (mi_b1 (fun x => decide (x = 0)) 24 17)), (17, .inl (mi_ald 0 18)), (18, .inr (.inr (.inl (109, 1, some 7, [])))), (21, .inl (mi_go 25)), (24, .inl (mi_push (.int 3) 25)), (25, .inl (mi_ist 2 26)), (26, .inl (mi_ild 2 27)), (27, .inl (mi_push (.int 3) 28)), (28, .inl (mi_b2 (fun x y => decide (¬ x = y)) 43 31)), (31, .inl (mi_ald 0 32)), (32, .inl (mi_push (.int 3) 33)), (33, .inl (mi_put 7 33 .int 36)), (36, .inl (mi_ald 0 37)), (37, .inr (.inr (.inl (105, 1, some 7, [])))), (40, .inl (mi_go 66)), (43, .inl (mi_ild 1 44)), (44, .inl (mi_push (.int 45) 46)), (46, .inl (mi_b2 (fun x y => decide (x = y)) 54 49)), (49, .inl (mi_ild 2 50)), (50, .inl (mi_push (.int 1) 51)), (51, .inl (mi_b2 (fun x y => decide (¬ x = y)) 62 54)), (54, .inl (mi_ald 0 55)), (55, .inl (mi_push (.int 0) 56)), (56, .inr (.inr (.inl (107, 2, some 7, [])))), (59, .inl (mi_go 66)), (62, .inl (mi_ald 0 63)), (63, .inr (.inr (.inl (110, 1, some 7, [])))), (66, .inr (.inl 0))]
def m_X7_readAny : mD := (yX7_readAny, cX7_readAny, 3, none, [], t_X7_readAny)
def t_X7_isSame : mT := [(0, .inl (mi_ald 1 1)), (1, .inl (mi_ild 2 2)), (2, .inl (mi_iald 3)), (3, .inl (mi_ald 0 4)), (4, .inl (mi_get 7 32 7)), (7, .inl (mi_push (.int 0) 8)), (8, .inl (mi_iald 9)), (9, .inl (mi_b2 (fun x y => decide (¬ x = y)) 16 12)), (12, .inl (mi_push (.int 1) 13)), (13, .inl (mi_go 17)), (16, .inl (mi_push (.int 0) 17)), (17, .inl (mi_ist 3 18)), (18, .inl (mi_push (.int 1) 19)), (19, .inl (mi_ist 4 21)), (21, .inl (mi_ild 4 23)), (23, .inl (mi_ald 0 24)), (24, .inl (mi_get 7 32 27)), (27, .inl (mi_push (.int 0) 28)), (28, .inl (mi_iald 29)), (29, .inl (mi_b2 (fun x y => decide (y < x)) 64 32)), (32, .inl (mi_ild 3 33)), (33, .inl (mi_b1 (fun x => decide (x = 0)) 64 36)), (36, .inl (mi_ald 1 37)), (37, .inl (mi_ild 2 38)), (38, .inl (mi_ild 4 40)), (40, .inl (mi_i2 (fun x y => x + y) 41)), (41, .inl (mi_iald 42)), (42, .inl (mi_ald 0 43)), (43, .inl (mi_get 7 32 46)), (46, .inl (mi_ild 4 48)), (48, .inl (mi_iald 49)), (49, .inl (mi_b2 (fun x y => decide (¬ x = y)) 56 52)), (52, .inl (mi_push (.int 1) 53)), (53, .inl (mi_go 57)), (56, .inl (mi_push (.int 0) 57)), (57, .inl (mi_ist 3 58)), (58, .inl (mi_inc 4 1 61)), (61, .inl (mi_go 21)), (64, .inl (mi_ild 3 65)), (65, .inr (.inl 2))]
def m_X7_isSame : mD := (yX7_isSame, cX7_isSame, 5, (some .boolean), [], t_X7_isSame)
def t_X7_layName : mT := [(0, .inl (mi_push (.int 0) 1)), (1, .inl (mi_ist 3 2)), (2, .inl (mi_ild 3 3)), (3, .inl (mi_ald 0 4)), (4, .inl (mi_get 7 32 7)), (7, .inl (mi_push (.int 0) 8)), (8, .inl (mi_iald 9)), (9, .inl (mi_b2 (fun x y => decide (y < x)) 29 12)), (12, .inl (mi_ald 1 13)), (13, .inl (mi_ild 2 14)), (14, .inl (mi_ild 3 15)), (15, .inl (mi_i2 (fun x y => x + y) 16)), (16, .inl (mi_ald 0 17)), (17, .inl (mi_get 7 32 20)), (20, .inl (mi_ild 3 21)), (21, .inl (mi_iald 22)), (22, .inl (mi_iast 23)), (23, .inl (mi_inc 3 1 26)), (26, .inl (mi_go 2)), (29, .inr (.inl 0))]
def m_X7_layName : mD := (yX7_layName, cX7_layName, 4, none, [], t_X7_layName)
def t_X7_laySort : mT := [(0, .inl (mi_ald 0 1)), (1, .inl (mi_get 7 23 4)), (4, .inl (mi_push (.int 601) 7)), (7, .inl (mi_ald 0 8)), (8, .inl (mi_get 7 22 11)), (11, .inl (mi_push (.int 1) 12)), (12, .inl (mi_iald 13)), (13, .inl (mi_i2 (fun x y => x + y) 14)), (14, .inl (mi_ild 1 15)), (15, .inl (mi_iast 16)), (16, .inl (mi_ald 0 17)), (17, .inl (mi_get 7 22 20)), (20, .inl (mi_push (.int 1) 21)), (21, .inl (mi_dup2 22)), (22, .inl (mi_iald 23)), (23, .inl (mi_push (.int 1) 24)), (24, .inl (mi_i2 (fun x y => x + y) 25)), (25, .inl (mi_iast 26)), (26, .inr (.inl 0))]
def m_X7_laySort : mD := (yX7_laySort, cX7_laySort, 2, none, [], t_X7_laySort)
def t_X7_readComment : mT := [(0, .inl (mi_ald 0 1)), (1, .inl (mi_dup 2)), (2, .inl (mi_get 7 27 5)), (5, .inl (mi_push (.int 1) 6)), (6, .inl (mi_i2 (fun x y => x + y) 7)), (7, .inl (mi_put 7 27 .int 10)), (10, .inl (mi_push (.int 6300) 13)), (13, .inl (mi_push (.int 21) 15)), (15, .inl (mi_ald 0 16)), (16, .inl (mi_get 7 20 19)), (19, .inl (mi_push (.int 1) 20)), (20, .inl (mi_iald 21)), (21, .inl (mi_i2 (fun x y => x * y) 22)), (22, .inl (mi_i2 (fun x y => x + y) 23)), (23, .inl (mi_ist 1 24)), (24, .inl (mi_push (.int 0) 25)), (25, .inl (mi_ist 2 26)), (26, .inl (mi_ald 0 27)), (27, .inl (mi_get 7 30 30)), (30, .inl (mi_b1 (fun x => decide (¬ x = 0)) 113 33)), (33, .inl (mi_ald 0 34)), (34, .inr (.inr (.inl (98, 1, some 7, [])))), (37, .inl (mi_push (.int (-1)) 38)), (38, .inl (mi_b2 (fun x y => decide (x = y)) 113 41)), (41, .inl (mi_ald 0 42)), (42, .inr (.inr (.inl (98, 1, some 7, [])))), (45, .inl (mi_push (.int 32) 47)), (47, .inl (mi_push (.int 126) 49)), (49, .inr (.inr (.inl (96, 3, none, [])))), (52, .inl (mi_b1 (fun x => decide (¬ x = 0)) 67 55)), (55, .inl (mi_ald 0 56)), (56, .inl (mi_push (.int 1) 57)), (57, .inl (mi_ald 0 58)), (58, .inl (mi_get 7 27 61)), (61, .inr (.inr (.inl (99, 3, some 7, [])))), (64, .inl (mi_go 26)), (67, .inl (mi_ild 2 68)), (68, .inl (mi_push (.int 20) 70)), (70, .inl (mi_b2 (fun x y => decide (¬ x = y)) 85 73)), (73, .inl (mi_ald 0 74)), (74, .inl (mi_push (.int 2) 75)), (75, .inl (mi_ald 0 76)), (76, .inl (mi_get 7 27 79)), (79, .inr (.inr (.inl (99, 3, some 7, [])))), (82, .inl (mi_go 26)), (85, .inl (mi_inc 2 1 88)), (88, .inl (mi_ald 0 89)), (89, .inl (mi_get 7 21 92)), (92, .inl (mi_ild 1 93)), (93, .inl (mi_ild 2 94)), (94, .inl (mi_i2 (fun x y => x + y) 95)), (95, .inl (mi_ald 0 96)), (96, .inr (.inr (.inl (98, 1, some 7, [])))), (99, .inl (mi_iast 100)), (100, .inl (mi_ald 0 101)), (101, .inl (mi_dup 102)), (102, .inl (mi_get 7 27 105)), (105, .inl (mi_push (.int 1) 106)), (106, .inl (mi_i2 (fun x y => x + y) 107)), (107, .inl (mi_put 7 27 .int 110)), (110, .inl (mi_go 26)), (113, .inl (mi_ald 0 114)), (114, .inl (mi_get 7 21 117)), (117, .inl (mi_ild 1 118)), (118, .inl (mi_ild 2 119)), (119, .inl (mi_iast 120)), (120, .inl (mi_ald 0 121)), (121, .inl (mi_get 7 20 124)), (124, .inl (mi_push (.int 1) 125)), (125, .inl (mi_dup2 126)), (126, .inl (mi_iald 127)), (127, .inl (mi_push (.int 1) 128)), (128, .inl (mi_i2 (fun x y => x + y) 129)), (129, .inl (mi_iast 130)), (130, .inl (mi_ald 0 131)), (131, .inl (mi_push (.int 1) 132)), (132, .inr (.inr (.inl (115, 2, some 7, [])))), (135, .inr (.inl 0))]
def m_X7_readComment : mD := (yX7_readComment, cX7_readComment, 3, none, [], t_X7_readComment)
def t_X7_readCount : mT := [(0, .inl (mi_ald 0 1)), (1, .inl (mi_get 7 35 4)), (4, .inl (mi_b1 (fun x => decide (x = 0)) 16 7)), (7, .inl (mi_ald 0 8)), (8, .inl (mi_push (.int 4) 9)), (9, .inl (mi_ald 0 10)), (10, .inl (mi_get 7 27 13)), (13, .inr (.inr (.inl (99, 3, some 7, [])))), (16, .inl (mi_ald 0 17)), (17, .inl (mi_dup 18)), (18, .inl (mi_get 7 27 21)), (21, .inl (mi_push (.int 1) 22)), (22, .inl (mi_i2 (fun x y => x + y) 23)), (23, .inl (mi_put 7 27 .int 26)), (26, .inl (mi_ald 0 27)), (27, .inl (mi_push (.int 1) 28)), (28, .inl (mi_put 7 35 .boolean 31)), (31, .inl (mi_push (.int 0) 32)), (32, .inl (mi_ist 1 33)), (33, .inl (mi_ild 1 34)), (34, .inl (mi_push (.int 2) 35)), (35, .inl (mi_b2 (fun x y => decide (y ≤ x)) 171 38)), (38, .inl (mi_ald 0 39)), (39, .inl (mi_get 7 30 42)), (42, .inl (mi_b1 (fun x => decide (¬ x = 0)) 171 45)), (45, .inl (mi_ald 0 46)), (46, .inr (.inr (.inl (103, 1, some 7, [])))), (49, .inl (mi_ald 0 50)), (50, .inr (.inr (.inl (102, 1, some 7, [])))), (53, .inl (mi_ald 0 54)), (54, .inl (mi_get 7 36 57)), (57, .inl (mi_ild 1 58)), (58, .inl (mi_ald 0 59)), (59, .inl (mi_get 7 27 62)), (62, .inl (mi_iast 63)), (63, .inl (mi_ald 0 64)), (64, .inl (mi_get 7 37 67)), (67, .inl (mi_ild 1 68)), (68, .inl (mi_ald 0 69)), (69, .inl (mi_get 7 28 72)), (72, .inl (mi_iast 73)), (73, .inl (mi_push (.int 0) 74)), (74, .inl (mi_ist 2 75)), (75, .inl (mi_push (.int 0) 76)), (76, .inl (mi_ist 3 77)), (77, .inl (mi_ald 0 78)), (78, .inr (.inr (.inl (98, 1, some 7, [])))), (81, .inr (.inr (.inl (100, 1, none, [])))), (84, .inl (mi_b1 (fun x => decide (¬ x = 0)) 96 87)), (87, .inl (mi_ald 0 88)), (88, .inl (mi_push (.int 1) 89)), (89, .inl (mi_ald 0 90)), (90, .inl (mi_get 7 27 93)), (93, .inr (.inr (.inl (99, 3, some 7, [])))), (96, .inl (mi_ald 0 97)), (97, .inl (mi_get 7 30 100)), (100, .inl (mi_b1 (fun x => decide (¬ x = 0)) 156 103)), (103, .inl (mi_ald 0 104)), (104, .inr (.inr (.inl (98, 1, some 7, [])))), (107, .inr (.inr (.inl (100, 1, none, [])))), (110, .inl (mi_b1 (fun x => decide (x = 0)) 156 113)), (113, .inl (mi_ild 2 114)), (114, .inl (mi_push (.int 2) 115)), (115, .inl (mi_b2 (fun x y => decide (¬ x = y)) 127 118)), (118, .inl (mi_ald 0 119)), (119, .inl (mi_push (.int 2) 120)), (120, .inl (mi_ald 0 121)), (121, .inl (mi_get 7 27 124)), (124, .inr (.inr (.inl (99, 3, some 7, [])))), (127, .inl (mi_push (.int 10) 129)), (129, .inl (mi_ild 3 130)), (130, .inl (mi_i2 (fun x y => x * y) 131)), (131, .inl (mi_ald 0 132)), (132, .inr (.inr (.inl (98, 1, some 7, [])))), (135, .inl (mi_i2 (fun x y => x + y) 136)), (136, .inl (mi_push (.int 48) 138)), (138, .inl (mi_i2 (fun x y => x - y) 139)), (139, .inl (mi_ist 3 140)), (140, .inl (mi_inc 2 1 143)), (143, .inl (mi_ald 0 144)), (144, .inl (mi_dup 145)), (145, .inl (mi_get 7 27 148)), (148, .inl (mi_push (.int 1) 149)), (149, .inl (mi_i2 (fun x y => x + y) 150)), (150, .inl (mi_put 7 27 .int 153)), (153, .inl (mi_go 96)), (156, .inl (mi_ald 0 157)), (157, .inl (mi_get 7 24 160)), (160, .inl (mi_push (.int 2) 161)), (161, .inl (mi_ild 1 162)), (162, .inl (mi_i2 (fun x y => x + y) 163)), (163, .inl (mi_ild 3 164)), (164, .inl (mi_iast 165)), (165, .inl (mi_inc 1 1 168)), (168, .inl (mi_go 33)), (171, .inl (mi_ald 0 172)), (172, .inr (.inr (.inl (103, 1, some 7, [])))), (175, .inl (mi_ald 0 176)), (176, .inl (mi_push (.int 2) 177)), (177, .inr (.inr (.inl (115, 2, some 7, [])))), (180, .inr (.inl 0))]
def m_X7_readCount : mD := (yX7_readCount, cX7_readCount, 4, none, [], t_X7_readCount)
def t_X7_readHead : mT := [(0, .inl (mi_ald 0 1)), (1, .inl (mi_get 7 38 4)), (4, .inl (mi_b1 (fun x => decide (¬ x = 0)) 17 7)), (7, .inl (mi_ald 0 8)), (8, .inl (mi_get 7 13 11)), (11, .inl (mi_push (.int 1) 12)), (12, .inl (mi_iald 13)), (13, .inl (mi_push (.int 3) 14)), (14, .inl (mi_b2 (fun x y => decide (¬ x = y)) 26 17)), (17, .inl (mi_ald 0 18)), (18, .inl (mi_push (.int 4) 19)), (19, .inl (mi_ald 0 20)), (20, .inl (mi_get 7 27 23)), (23, .inr (.inr (.inl (99, 3, some 7, [])))), (26, .inl (mi_ald 0 27)), (27, .inl (mi_dup 28)), (28, .inl (mi_get 7 27 31)), (31, .inl (mi_push (.int 1) 32)), (32, .inl (mi_i2 (fun x y => x + y) 33)), (33, .inl (mi_put 7 27 .int 36)), (36, .inl (mi_ald 0 37)), (37, .inr (.inr (.inl (103, 1, some 7, [])))), (40, .inl (mi_ald 0 41)), (41, .inr (.inr (.inl (102, 1, some 7, [])))), (44, .inl (mi_ald 0 45)), (45, .inl (mi_get 7 27 48)), (48, .inl (mi_ist 1 49)), (49, .inl (mi_ald 0 50)), (50, .inl (mi_get 7 30 53)), (53, .inl (mi_b1 (fun x => decide (¬ x = 0)) 60 56)), (56, .inl (mi_ald 0 57)), (57, .inr (.inr (.inl (105, 1, some 7, [])))), (60, .inl (mi_push (.int 0) 61)), (61, .inl (mi_ist 2 62)), (62, .inl (mi_ild 2 63)), (63, .inl (mi_ald 0 64)), (64, .inl (mi_get 7 13 67)), (67, .inl (mi_push (.int 1) 68)), (68, .inl (mi_iald 69)), (69, .inl (mi_b2 (fun x y => decide (y ≤ x)) 109 72)), (72, .inl (mi_ald 0 73)), (73, .inl (mi_get 7 30 76)), (76, .inl (mi_b1 (fun x => decide (¬ x = 0)) 109 79)), (79, .inl (mi_ald 0 80)), (80, .inl (mi_ald 0 81)), (81, .inl (mi_get 7 15 84)), (84, .inl (mi_push (.int 27) 86)), (86, .inl (mi_push (.int 9) 88)), (88, .inl (mi_ild 2 89)), (89, .inl (mi_i2 (fun x y => x * y) 90)), (90, .inl (mi_i2 (fun x y => x + y) 91)), (91, .inr (.inr (.inl (113, 3, some 7, [])))), (94, .inl (mi_b1 (fun x => decide (x = 0)) 103 97)), (97, .inl (mi_ald 0 98)), (98, .inl (mi_push (.int 4) 99)), (99, .inl (mi_ild 1 100)), (100, .inr (.inr (.inl (99, 3, some 7, [])))), (103, .inl (mi_inc 2 1 106)), (106, .inl (mi_go 62)), (109, .inl (mi_ald 0 110)), (110, .inr (.inr (.inl (103, 1, some 7, [])))), (113, .inl (mi_ald 0 114)), (114, .inr (.inr (.inl (102, 1, some 7, [])))), (117, .inl (mi_ald 0 118)), (118, .inr (.inr (.inl (98, 1, some 7, [])))), (121, .inl (mi_ist 2 122)), (122, .inl (mi_ild 2 123)), (123, .inl (mi_push (.int 119) 125)), (125, .inl (mi_b2 (fun x y => decide (¬ x = y)) 132 128)), (128, .inl (mi_push (.int 0) 129)), (129, .inl (mi_go 163)), (132, .inl (mi_ild 2 133)), (133, .inl (mi_push (.int 100) 135)), (135, .inl (mi_b2 (fun x y => decide (¬ x = y)) 142 138)), (138, .inl (mi_push (.int 1) 139)), (139, .inl (mi_go 163)), (142, .inl (mi_ild 2 143)), (143, .inl (mi_push (.int 116) 145)), (145, .inl (mi_b2 (fun x y => decide (¬ x = y)) 152 148)), (148, .inl (mi_push (.int 2) 149)), (149, .inl (mi_go 163)), (152, .inl (mi_ild 2 153)), (153, .inl (mi_push (.int 103) 155)), (155, .inl (mi_b2 (fun x y => decide (¬ x = y)) 162 158)), (158, .inl (mi_push (.int 3) 159)), (159, .inl (mi_go 163)), (162, .inl (mi_push (.int (-1)) 163)), (163, .inl (mi_ist 3 164)), (164, .inl (mi_ild 3 165)), (165, .inl (mi_push (.int (-1)) 166)), (166, .inl (mi_b2 (fun x y => decide (¬ x = y)) 178 169)), (169, .inl (mi_ald 0 170)), (170, .inl (mi_push (.int 1) 171)), (171, .inl (mi_ald 0 172)), (172, .inl (mi_get 7 27 175)), (175, .inr (.inr (.inl (99, 3, some 7, [])))), (178, .inl (mi_ald 0 179)), (179, .inl (mi_dup 180)), (180, .inl (mi_get 7 27 183)), (183, .inl (mi_push (.int 1) 184)), (184, .inl (mi_i2 (fun x y => x + y) 185)), (185, .inl (mi_put 7 27 .int 188)), (188, .inl (mi_ald 0 189)), (189, .inr (.inr (.inl (103, 1, some 7, [])))), (192, .inl (mi_ald 0 193)), (193, .inl (mi_get 7 30 196)), (196, .inl (mi_b1 (fun x => decide (¬ x = 0)) 248 199)), (199, .inl (mi_ald 0 200)), (200, .inl (mi_ald 0 201)), (201, .inl (mi_get 7 15 204)), (204, .inl (mi_push (.int 27) 206)), (206, .inl (mi_push (.int 9) 208)), (208, .inl (mi_ald 0 209)), (209, .inl (mi_get 7 13 212)), (212, .inl (mi_push (.int 1) 213)), (213, .inl (mi_iald 214)), (214, .inl (mi_i2 (fun x y => x * y) 215)), (215, .inl (mi_i2 (fun x y => x + y) 216)), (216, .inr (.inr (.inl (114, 3, some 7, [])))), (219, .inl (mi_ald 0 220)), (220, .inl (mi_get 7 14 223)), (223, .inl (mi_push (.int 3) 224)), (224, .inl (mi_ald 0 225)), (225, .inl (mi_get 7 13 228)), (228, .inl (mi_push (.int 1) 229)), (229, .inl (mi_iald 230)), (230, .inl (mi_i2 (fun x y => x + y) 231)), (231, .inl (mi_ild 3 232)), (232, .inl (mi_iast 233)), (233, .inl (mi_ald 0 234)), (234, .inl (mi_get 7 13 237)), (237, .inl (mi_push (.int 1) 238)), (238, .inl (mi_dup2 239)), (239, .inl (mi_iald 240)), (240, .inl (mi_push (.int 1) 241)), (241, .inl (mi_i2 (fun x y => x + y) 242)), (242, .inl (mi_iast 243)), (243, .inl (mi_ald 0 244)), (244, .inl (mi_push (.int 3) 245)), (245, .inr (.inr (.inl (115, 2, some 7, [])))), (248, .inr (.inl 0))]
def m_X7_readHead : mD := (yX7_readHead, cX7_readHead, 4, none, [], t_X7_readHead)
def t_X7_nodeOf : mT := [(0, .inl (mi_push (.int 0) 1)), (1, .inl (mi_ist 2 2)), (2, .inl (mi_ild 2 3)), (3, .inl (mi_ald 0 4)), (4, .inl (mi_get 7 7 7)), (7, .inl (mi_push (.int 1) 8)), (8, .inl (mi_iald 9)), (9, .inl (mi_b2 (fun x y => decide (y ≤ x)) 39 12)), (12, .inl (mi_ald 0 13)), (13, .inl (mi_ald 0 14)), (14, .inl (mi_get 7 8 17)), (17, .inl (mi_push (.int 270) 20)), (20, .inl (mi_push (.int 9) 22)), (22, .inl (mi_ild 2 23)), (23, .inl (mi_i2 (fun x y => x * y) 24)), (24, .inl (mi_i2 (fun x y => x + y) 25)), (25, .inr (.inr (.inl (113, 3, some 7, [])))), (28, .inl (mi_b1 (fun x => decide (x = 0)) 33 31)), (31, .inl (mi_ild 2 32)), (32, .inr (.inl 1)), (33, .inl (mi_inc 2 1 36)), (36, .inl (mi_go 2)), (39, .inl (mi_ald 0 40)), (40, .inl (mi_get 7 7 43)), (43, .inl (mi_push (.int 1) 44)), (44, .inl (mi_iald 45)), (45, .inl (mi_push (.int 30) 47)), (47, .inl (mi_b2 (fun x y => decide (¬ x = y)) 59 50)), (50, .inl (mi_ald 0 51)), (51, .inl (mi_push (.int 6) 53)), (53, .inl (mi_ild 1 54)), (54, .inr (.inr (.inl (99, 3, some 7, [])))), (57, .inl (mi_push (.int (-1)) 58)), (58, .inr (.inl 1)), (59, .inl (mi_ald 0 60)), (60, .inl (mi_ald 0 61)), (61, .inl (mi_get 7 8 64)), (64, .inl (mi_push (.int 270) 67)), (67, .inl (mi_push (.int 9) 69)), (69, .inl (mi_ald 0 70)), (70, .inl (mi_get 7 7 73)), (73, .inl (mi_push (.int 1) 74)), (74, .inl (mi_iald 75)), (75, .inl (mi_i2 (fun x y => x * y) 76)), (76, .inl (mi_i2 (fun x y => x + y) 77)), (77, .inr (.inr (.inl (114, 3, some 7, [])))), (80, .inl (mi_ald 0 81)), (81, .inl (mi_get 7 7 84)), (84, .inl (mi_push (.int 1) 85)), (85, .inl (mi_dup2 86)), (86, .inl (mi_iald 87)), (87, .inl (mi_push (.int 1) 88)), (88, .inl (mi_i2 (fun x y => x + y) 89)), (89, .inl (mi_iast 90)), (90, .inl (mi_ald 0 91)), (91, .inl (mi_get 7 7 94)), (94, .inl (mi_push (.int 1) 95)), (95, .inl (mi_iald 96)), (96, .inl (mi_push (.int 1) 97)), (97, .inl (mi_i2 (fun x y => x - y) 98)), (98, .inr (.inl 1))]
def m_X7_nodeOf : mD := (yX7_nodeOf, cX7_nodeOf, 3, (some .int), [], t_X7_nodeOf)
def t_X7_isDoubled : mT := [(0, .inl (mi_push (.int 40) 2)), (2, .inl (mi_ist 3 3)), (3, .inl (mi_ild 3 4)), (4, .inl (mi_push (.int 40) 6)), (6, .inl (mi_ald 0 7)), (7, .inl (mi_get 7 9 10)), (10, .inl (mi_push (.int 1) 11)), (11, .inl (mi_iald 12)), (12, .inl (mi_i2 (fun x y => x + y) 13)), (13, .inl (mi_b2 (fun x y => decide (y ≤ x)) 44 16)), (16, .inl (mi_ald 0 17)), (17, .inl (mi_get 7 10 20)), (20, .inl (mi_ild 3 21)), (21, .inl (mi_iald 22)), (22, .inl (mi_ild 1 23)), (23, .inl (mi_b2 (fun x y => decide (¬ x = y)) 38 26)), (26, .inl (mi_ald 0 27)), (27, .inl (mi_get 7 11 30)), (30, .inl (mi_ild 3 31)), (31, .inl (mi_iald 32)), (32, .inl (mi_ild 2 33)), (33, .inl (mi_b2 (fun x y => decide (¬ x = y)) 38 36)), (36, .inl (mi_push (.int 1) 37)), (37, .inr (.inl 2)), (38, .inl (mi_inc 3 1 41)), (41, .inl (mi_go 3)), (44, .inl (mi_push (.int 0) 45)), (45, .inr (.inl 2))]
def m_X7_isDoubled : mD := (yX7_isDoubled, cX7_isDoubled, 4, (some .boolean), [], t_X7_isDoubled)
def t_X7_readArc : mT := [(0, .inl (mi_ald 0 1)), (1, .inl (mi_get 7 27 4)), (4, .inl (mi_ist 1 5)), (5, .inl (mi_ald 0 6)), (6, .inr (.inr (.inl (105, 1, some 7, [])))), (9, .inl (mi_ald 0 10)), (10, .inl (mi_get 7 30 13)), (13, .inl (mi_b1 (fun x => decide (¬ x = 0)) 24 16)), (16, .inl (mi_ald 0 17)), (17, .inl (mi_ild 1 18)), (18, .inr (.inr (.inl (119, 2, some 7, [])))), (21, .inl (mi_go 25)), (24, .inl (mi_push (.int (-1)) 25)), (25, .inl (mi_ist 2 26)), (26, .inl (mi_ald 0 27)), (27, .inr (.inr (.inl (103, 1, some 7, [])))), (30, .inl (mi_ald 0 31)), (31, .inr (.inr (.inl (102, 1, some 7, [])))), (34, .inl (mi_ald 0 35)), (35, .inl (mi_get 7 27 38)), (38, .inl (mi_ist 3 39)), (39, .inl (mi_ald 0 40)), (40, .inl (mi_get 7 30 43)), (43, .inl (mi_b1 (fun x => decide (¬ x = 0)) 50 46)), (46, .inl (mi_ald 0 47)), (47, .inr (.inr (.inl (105, 1, some 7, [])))), (50, .inl (mi_ald 0 51)), (51, .inl (mi_get 7 30 54)), (54, .inl (mi_b1 (fun x => decide (¬ x = 0)) 65 57)), (57, .inl (mi_ald 0 58)), (58, .inl (mi_ild 3 59)), (59, .inr (.inr (.inl (119, 2, some 7, [])))), (62, .inl (mi_go 66)), (65, .inl (mi_push (.int (-1)) 66)), (66, .inl (mi_ist 4 68)), (68, .inl (mi_ald 0 69)), (69, .inl (mi_get 7 30 72)), (72, .inl (mi_b1 (fun x => decide (¬ x = 0)) 89 75)), (75, .inl (mi_ald 0 76)), (76, .inl (mi_ild 2 77)), (77, .inl (mi_ild 4 79)), (79, .inr (.inr (.inl (120, 3, some 7, [])))), (82, .inl (mi_b1 (fun x => decide (x = 0)) 89 85)), (85, .inl (mi_push (.int 1) 86)), (86, .inl (mi_go 90)), (89, .inl (mi_push (.int 0) 90)), (90, .inl (mi_ist 5 92)), (92, .inl (mi_ild 5 94)), (94, .inl (mi_b1 (fun x => decide (x = 0)) 111 97)), (97, .inl (mi_ald 0 98)), (98, .inl (mi_get 7 3 101)), (101, .inl (mi_push (.int 2) 102)), (102, .inl (mi_b2 (fun x y => decide (¬ x = y)) 111 105)), (105, .inl (mi_ald 0 106)), (106, .inl (mi_push (.int 5) 107)), (107, .inl (mi_ild 3 108)), (108, .inr (.inr (.inl (99, 3, some 7, [])))), (111, .inl (mi_ald 0 112)), (112, .inr (.inr (.inl (103, 1, some 7, [])))), (115, .inl (mi_ald 0 116)), (116, .inl (mi_push (.int 1) 117)), (117, .inl (mi_put 7 38 .boolean 120)), (120, .inl (mi_push (.int 0) 121)), (121, .inl (mi_ist 6 123)), (123, .inl (mi_ild 6 125)), (125, .inl (mi_ald 0 126)), (126, .inl (mi_get 7 13 129)), (129, .inl (mi_push (.int 1) 130)), (130, .inl (mi_iald 131)), (131, .inl (mi_b2 (fun x y => decide (y ≤ x)) 203 134)), (134, .inl (mi_ald 0 135)), (135, .inl (mi_get 7 30 138)), (138, .inl (mi_b1 (fun x => decide (¬ x = 0)) 203 141)), (141, .inl (mi_ald 0 142)), (142, .inr (.inr (.inl (102, 1, some 7, [])))), (145, .inl (mi_ald 0 146)), (146, .inl (mi_ald 0 147)), (147, .inl (mi_get 7 14 150)), (150, .inl (mi_push (.int 3) 151)), (151, .inl (mi_ild 6 153)), (153, .inl (mi_i2 (fun x y => x + y) 154)), (154, .inl (mi_iald 155)), (155, .inr (.inr (.inl (111, 2, some 7, [])))), (158, .inl (mi_ald 0 159)), (159, .inr (.inr (.inl (103, 1, some 7, [])))), (162, .inl (mi_ald 0 163)), (163, .inl (mi_get 7 39 166)), (166, .inl (mi_ild 6 168)), (168, .inl (mi_ald 0 169)), (169, .inl (mi_get 7 33 172)), (172, .inl (mi_iast 173)), (173, .inl (mi_ald 0 174)), (174, .inl (mi_get 7 40 177)), (177, .inl (mi_ild 6 179)), (179, .inl (mi_ald 0 180)), (180, .inl (mi_get 7 34 183)), (183, .inl (mi_iast 184)), (184, .inl (mi_ald 0 185)), (185, .inl (mi_ald 0 186)), (186, .inl (mi_get 7 41 189)), (189, .inl (mi_push (.int 9) 191)), (191, .inl (mi_ild 6 193)), (193, .inl (mi_i2 (fun x y => x * y) 194)), (194, .inr (.inr (.inl (114, 3, some 7, [])))), (197, .inl (mi_inc 6 1 200)), (200, .inl (mi_go 123)), (203, .inl (mi_ald 0 204)), (204, .inr (.inr (.inl (102, 1, some 7, [])))), (207, .inl (mi_ald 0 208)), (208, .inr (.inr (.inl (98, 1, some 7, [])))), (211, .inl (mi_push (.int (-1)) 212)), (212, .inl (mi_b2 (fun x y => decide (x = y)) 224 215)), (215, .inl (mi_ald 0 216)), (216, .inl (mi_push (.int 1) 217)), (217, .inl (mi_ald 0 218)), (218, .inl (mi_get 7 27 221)), (221, .inr (.inr (.inl (99, 3, some 7, [])))), (224, .inl (mi_ald 0 225)), (225, .inl (mi_get 7 30 228)), (228, .inl (mi_b1 (fun x => decide (¬ x = 0)) 257 231)), (231, .inl (mi_ild 5 233)), (233, .inl (mi_b1 (fun x => decide (x = 0)) 257 236)), (236, .inl (mi_ald 0 237)), (237, .inl (mi_get 7 3 240)), (240, .inl (mi_push (.int 1) 241)), (241, .inl (mi_b2 (fun x y => decide (¬ x = y)) 257 244)), (244, .inl (mi_ald 0 245)), (245, .inl (mi_get 7 19 248)), (248, .inl (mi_push (.int 1) 249)), (249, .inl (mi_dup2 250)), (250, .inl (mi_iald 251)), (251, .inl (mi_push (.int 1) 252)), (252, .inl (mi_i2 (fun x y => x + y) 253)), (253, .inl (mi_iast 254)), (254, .inl (mi_go 299)), (257, .inl (mi_ald 0 258)), (258, .inl (mi_get 7 30 261)), (261, .inl (mi_b1 (fun x => decide (¬ x = 0)) 285 264)), (264, .inl (mi_ald 0 265)), (265, .inl (mi_get 7 9 268)), (268, .inl (mi_push (.int 1) 269)), (269, .inl (mi_iald 270)), (270, .inl (mi_push (.int 40) 272)), (272, .inl (mi_b2 (fun x y => decide (¬ x = y)) 285 275)), (275, .inl (mi_ald 0 276)), (276, .inl (mi_push (.int 6) 278)), (278, .inl (mi_ild 1 279)), (279, .inr (.inr (.inl (99, 3, some 7, [])))), (282, .inl (mi_go 299)), (285, .inl (mi_ald 0 286)), (286, .inl (mi_get 7 30 289)), (289, .inl (mi_b1 (fun x => decide (¬ x = 0)) 299 292)), (292, .inl (mi_ald 0 293)), (293, .inl (mi_ild 2 294)), (294, .inl (mi_ild 4 296)), (296, .inr (.inr (.inl (122, 3, some 7, [])))), (299, .inr (.inl 0))]
def m_X7_readArc : mD := (yX7_readArc, cX7_readArc, 7, none, [], t_X7_readArc)
def t_X7_layArc : mT := [(0, .inl (mi_push (.int 40) 2)), (2, .inl (mi_ald 0 3)), (3, .inl (mi_get 7 9 6)), (6, .inl (mi_push (.int 1) 7)), (7, .inl (mi_iald 8)), (8, .inl (mi_i2 (fun x y => x + y) 9)), (9, .inl (mi_ist 3 10)), (10, .inl (mi_ald 0 11)), (11, .inl (mi_get 7 10 14)), (14, .inl (mi_ild 3 15)), (15, .inl (mi_ild 1 16)), (16, .inl (mi_iast 17)), (17, .inl (mi_ald 0 18)), (18, .inl (mi_get 7 11 21)), (21, .inl (mi_ild 3 22)), (22, .inl (mi_ild 2 23)), (23, .inl (mi_iast 24)), (24, .inl (mi_ald 0 25)), (25, .inl (mi_get 7 12 28)), (28, .inl (mi_ild 3 29)), (29, .inl (mi_ald 0 30)), (30, .inl (mi_get 7 28 33)), (33, .inl (mi_iast 34)), (34, .inl (mi_push (.int 0) 35)), (35, .inl (mi_ist 4 37)), (37, .inl (mi_ild 4 39)), (39, .inl (mi_ald 0 40)), (40, .inl (mi_get 7 13 43)), (43, .inl (mi_push (.int 1) 44)), (44, .inl (mi_iald 45)), (45, .inl (mi_b2 (fun x y => decide (y ≤ x)) 144 48)), (48, .inl (mi_ald 0 49)), (49, .inl (mi_get 7 16 52)), (52, .inl (mi_push (.int 3) 53)), (53, .inl (mi_ild 3 54)), (54, .inl (mi_i2 (fun x y => x * y) 55)), (55, .inl (mi_ild 4 57)), (57, .inl (mi_i2 (fun x y => x + y) 58)), (58, .inl (mi_ald 0 59)), (59, .inl (mi_get 7 39 62)), (62, .inl (mi_ild 4 64)), (64, .inl (mi_iald 65)), (65, .inl (mi_iast 66)), (66, .inl (mi_ald 0 67)), (67, .inl (mi_get 7 17 70)), (70, .inl (mi_push (.int 3) 71)), (71, .inl (mi_ild 3 72)), (72, .inl (mi_i2 (fun x y => x * y) 73)), (73, .inl (mi_ild 4 75)), (75, .inl (mi_i2 (fun x y => x + y) 76)), (76, .inl (mi_ald 0 77)), (77, .inl (mi_get 7 40 80)), (80, .inl (mi_ild 4 82)), (82, .inl (mi_iald 83)), (83, .inl (mi_iast 84)), (84, .inl (mi_push (.int 0) 85)), (85, .inl (mi_ist 5 87)), (87, .inl (mi_ild 5 89)), (89, .inl (mi_ald 0 90)), (90, .inl (mi_get 7 41 93)), (93, .inl (mi_push (.int 9) 95)), (95, .inl (mi_ild 4 97)), (97, .inl (mi_i2 (fun x y => x * y) 98)), (98, .inl (mi_iald 99)), (99, .inl (mi_b2 (fun x y => decide (y < x)) 138 102)), (102, .inl (mi_ald 0 103)), (103, .inl (mi_get 7 18 106)), (106, .inl (mi_push (.int 9) 108)), (108, .inl (mi_push (.int 3) 109)), (109, .inl (mi_ild 3 110)), (110, .inl (mi_i2 (fun x y => x * y) 111)), (111, .inl (mi_ild 4 113)), (113, .inl (mi_i2 (fun x y => x + y) 114)), (114, .inl (mi_i2 (fun x y => x * y) 115)), (115, .inl (mi_ild 5 117)), (117, .inl (mi_i2 (fun x y => x + y) 118)), (118, .inl (mi_ald 0 119)), (119, .inl (mi_get 7 41 122)), (122, .inl (mi_push (.int 9) 124)), (124, .inl (mi_ild 4 126)), (126, .inl (mi_i2 (fun x y => x * y) 127)), (127, .inl (mi_ild 5 129)), (129, .inl (mi_i2 (fun x y => x + y) 130)), (130, .inl (mi_iald 131)), (131, .inl (mi_iast 132)), (132, .inl (mi_inc 5 1 135)), (135, .inl (mi_go 87)), (138, .inl (mi_inc 4 1 141)), (141, .inl (mi_go 37)), (144, .inl (mi_ald 0 145)), (145, .inl (mi_get 7 9 148)), (148, .inl (mi_push (.int 1) 149)), (149, .inl (mi_dup2 150)), (150, .inl (mi_iald 151)), (151, .inl (mi_push (.int 1) 152)), (152, .inl (mi_i2 (fun x y => x + y) 153)), (153, .inl (mi_iast 154)), (154, .inl (mi_ald 0 155)), (155, .inl (mi_push (.int 4) 156)), (156, .inr (.inr (.inl (115, 2, some 7, [])))), (159, .inr (.inl 0))]
def m_X7_layArc : mD := (yX7_layArc, cX7_layArc, 6, none, [], t_X7_layArc)
def t_X7_readLine : mT := [(0, .inl (mi_ald 0 1)), (1, .inr (.inr (.inl (102, 1, some 7, [])))), (4, .inl (mi_ald 0 5)), (5, .inr (.inr (.inl (98, 1, some 7, [])))), (8, .inl (mi_ist 1 9)), (9, .inl (mi_ild 1 10)), (10, .inl (mi_push (.int 35) 12)), (12, .inl (mi_b2 (fun x y => decide (¬ x = y)) 22 15)), (15, .inl (mi_ald 0 16)), (16, .inr (.inr (.inl (116, 1, some 7, [])))), (19, .inl (mi_go 57)), (22, .inl (mi_ild 1 23)), (23, .inl (mi_push (.int 33) 25)), (25, .inl (mi_b2 (fun x y => decide (¬ x = y)) 35 28)), (28, .inl (mi_ald 0 29)), (29, .inr (.inr (.inl (117, 1, some 7, [])))), (32, .inl (mi_go 57)), (35, .inl (mi_ild 1 36)), (36, .inl (mi_push (.int 37) 38)), (38, .inl (mi_b2 (fun x y => decide (¬ x = y)) 48 41)), (41, .inl (mi_ald 0 42)), (42, .inr (.inr (.inl (118, 1, some 7, [])))), (45, .inl (mi_go 57)), (48, .inl (mi_ild 1 49)), (49, .inl (mi_push (.int (-1)) 50)), (50, .inl (mi_b2 (fun x y => decide (x = y)) 57 53)), (53, .inl (mi_ald 0 54)), (54, .inr (.inr (.inl (121, 1, some 7, [])))), (57, .inl (mi_ald 0 58)), (58, .inr (.inr (.inl (102, 1, some 7, [])))), (61, .inl (mi_ald 0 62)), (62, .inr (.inr (.inl (98, 1, some 7, [])))), (65, .inl (mi_push (.int (-1)) 66)), (66, .inl (mi_b2 (fun x y => decide (x = y)) 78 69)), (69, .inl (mi_ald 0 70)), (70, .inl (mi_push (.int 1) 71)), (71, .inl (mi_ald 0 72)), (72, .inl (mi_get 7 27 75)), (75, .inr (.inr (.inl (99, 3, some 7, [])))), (78, .inr (.inl 0))]
def m_X7_readLine : mD := (yX7_readLine, cX7_readLine, 2, none, [], t_X7_readLine)
def t_X7_guessKinds : mT := [(0, .inl (mi_push (.int 0) 1)), (1, .inl (mi_ist 1 2)), (2, .inl (mi_ild 1 3)), (3, .inl (mi_ald 0 4)), (4, .inl (mi_get 7 13 7)), (7, .inl (mi_push (.int 1) 8)), (8, .inl (mi_iald 9)), (9, .inl (mi_b2 (fun x y => decide (y ≤ x)) 94 12)), (12, .inl (mi_ald 0 13)), (13, .inl (mi_get 7 14 16)), (16, .inl (mi_push (.int 3) 17)), (17, .inl (mi_ild 1 18)), (18, .inl (mi_i2 (fun x y => x + y) 19)), (19, .inl (mi_iald 20)), (20, .inl (mi_push (.int 3) 21)), (21, .inl (mi_b2 (fun x y => decide (¬ x = y)) 88 24)), (24, .inl (mi_push (.int 1) 25)), (25, .inl (mi_ist 2 26)), (26, .inl (mi_push (.int 40) 28)), (28, .inl (mi_ist 3 29)), (29, .inl (mi_ild 3 30)), (30, .inl (mi_push (.int 40) 32)), (32, .inl (mi_ald 0 33)), (33, .inl (mi_get 7 9 36)), (36, .inl (mi_push (.int 1) 37)), (37, .inl (mi_iald 38)), (38, .inl (mi_i2 (fun x y => x + y) 39)), (39, .inl (mi_b2 (fun x y => decide (y ≤ x)) 77 42)), (42, .inl (mi_ald 0 43)), (43, .inl (mi_get 7 16 46)), (46, .inl (mi_push (.int 3) 47)), (47, .inl (mi_ild 3 48)), (48, .inl (mi_i2 (fun x y => x * y) 49)), (49, .inl (mi_ild 1 50)), (50, .inl (mi_i2 (fun x y => x + y) 51)), (51, .inl (mi_iald 52)), (52, .inl (mi_ild 2 53)), (53, .inl (mi_b2 (fun x y => decide (x ≤ y)) 69 56)), (56, .inl (mi_ald 0 57)), (57, .inl (mi_get 7 16 60)), (60, .inl (mi_push (.int 3) 61)), (61, .inl (mi_ild 3 62)), (62, .inl (mi_i2 (fun x y => x * y) 63)), (63, .inl (mi_ild 1 64)), (64, .inl (mi_i2 (fun x y => x + y) 65)), (65, .inl (mi_iald 66)), (66, .inl (mi_go 70)), (69, .inl (mi_ild 2 70)), (70, .inl (mi_ist 2 71)), (71, .inl (mi_inc 3 1 74)), (74, .inl (mi_go 29)), (77, .inl (mi_ald 0 78)), (78, .inl (mi_get 7 14 81)), (81, .inl (mi_push (.int 3) 82)), (82, .inl (mi_ild 1 83)), (83, .inl (mi_i2 (fun x y => x + y) 84)), (84, .inl (mi_ild 2 85)), (85, .inl (mi_push (.int 1) 86)), (86, .inl (mi_i2 (fun x y => x - y) 87)), (87, .inl (mi_iast 88)), (88, .inl (mi_inc 1 1 91)), (91, .inl (mi_go 2)), (94, .inr (.inl 0))]
def m_X7_guessKinds : mD := (yX7_guessKinds, cX7_guessKinds, 4, none, [], t_X7_guessKinds)
def t_X7_takeOver : mT := [(0, .inl (mi_ald 0 1)), (1, .inl (mi_push (.int 1) 2)), (2, .inl (mi_put 7 6 .boolean 5)), (5, .inl (mi_ald 0 6)), (6, .inl (mi_get 7 7 9)), (9, .inl (mi_push (.int 0) 10)), (10, .inl (mi_ald 0 11)), (11, .inl (mi_get 7 7 14)), (14, .inl (mi_push (.int 1) 15)), (15, .inl (mi_iald 16)), (16, .inl (mi_iast 17)), (17, .inl (mi_ald 0 18)), (18, .inl (mi_get 7 9 21)), (21, .inl (mi_push (.int 0) 22)), (22, .inl (mi_ald 0 23)), (23, .inl (mi_get 7 9 26)), (26, .inl (mi_push (.int 1) 27)), (27, .inl (mi_iald 28)), (28, .inl (mi_iast 29)), (29, .inl (mi_ald 0 30)), (30, .inl (mi_get 7 13 33)), (33, .inl (mi_push (.int 0) 34)), (34, .inl (mi_ald 0 35)), (35, .inl (mi_get 7 13 38)), (38, .inl (mi_push (.int 1) 39)), (39, .inl (mi_iald 40)), (40, .inl (mi_iast 41)), (41, .inl (mi_ald 0 42)), (42, .inl (mi_get 7 19 45)), (45, .inl (mi_push (.int 0) 46)), (46, .inl (mi_ald 0 47)), (47, .inl (mi_get 7 19 50)), (50, .inl (mi_push (.int 1) 51)), (51, .inl (mi_iald 52)), (52, .inl (mi_iast 53)), (53, .inl (mi_ald 0 54)), (54, .inl (mi_get 7 20 57)), (57, .inl (mi_push (.int 0) 58)), (58, .inl (mi_ald 0 59)), (59, .inl (mi_get 7 20 62)), (62, .inl (mi_push (.int 1) 63)), (63, .inl (mi_iald 64)), (64, .inl (mi_iast 65)), (65, .inl (mi_ald 0 66)), (66, .inl (mi_get 7 22 69)), (69, .inl (mi_push (.int 0) 70)), (70, .inl (mi_ald 0 71)), (71, .inl (mi_get 7 22 74)), (74, .inl (mi_push (.int 1) 75)), (75, .inl (mi_iald 76)), (76, .inl (mi_iast 77)), (77, .inl (mi_ald 0 78)), (78, .inl (mi_get 7 24 81)), (81, .inl (mi_push (.int 0) 82)), (82, .inl (mi_ald 0 83)), (83, .inl (mi_get 7 24 86)), (86, .inl (mi_push (.int 2) 87)), (87, .inl (mi_iald 88)), (88, .inl (mi_iast 89)), (89, .inl (mi_ald 0 90)), (90, .inl (mi_get 7 24 93)), (93, .inl (mi_push (.int 1) 94)), (94, .inl (mi_ald 0 95)), (95, .inl (mi_get 7 24 98)), (98, .inl (mi_push (.int 3) 99)), (99, .inl (mi_iald 100)), (100, .inl (mi_iast 101)), (101, .inl (mi_ald 0 102)), (102, .inl (mi_get 7 8 105)), (105, .inl (mi_push (.int 270) 108)), (108, .inr (.inr (.inl (126, 2, none, [])))), (111, .inl (mi_ald 0 112)), (112, .inl (mi_get 7 10 115)), (115, .inl (mi_push (.int 40) 117)), (117, .inr (.inr (.inl (126, 2, none, [])))), (120, .inl (mi_ald 0 121)), (121, .inl (mi_get 7 11 124)), (124, .inl (mi_push (.int 40) 126)), (126, .inr (.inr (.inl (126, 2, none, [])))), (129, .inl (mi_ald 0 130)), (130, .inl (mi_get 7 12 133)), (133, .inl (mi_push (.int 40) 135)), (135, .inr (.inr (.inl (126, 2, none, [])))), (138, .inl (mi_ald 0 139)), (139, .inl (mi_get 7 14 142)), (142, .inl (mi_push (.int 3) 143)), (143, .inr (.inr (.inl (126, 2, none, [])))), (146, .inl (mi_ald 0 147)), (147, .inl (mi_get 7 15 150)), (150, .inl (mi_push (.int 27) 152)), (152, .inr (.inr (.inl (126, 2, none, [])))), (155, .inl (mi_ald 0 156)), (156, .inl (mi_get 7 16 159)), (159, .inl (mi_push (.int 120) 161)), (161, .inr (.inr (.inl (126, 2, none, [])))), (164, .inl (mi_ald 0 165)), (165, .inl (mi_get 7 17 168)), (168, .inl (mi_push (.int 120) 170)), (170, .inr (.inr (.inl (126, 2, none, [])))), (173, .inl (mi_ald 0 174)), (174, .inl (mi_get 7 18 177)), (177, .inl (mi_push (.int 1080) 180)), (180, .inr (.inr (.inl (126, 2, none, [])))), (183, .inl (mi_ald 0 184)), (184, .inl (mi_get 7 21 187)), (187, .inl (mi_push (.int 6300) 190)), (190, .inr (.inr (.inl (126, 2, none, [])))), (193, .inl (mi_ald 0 194)), (194, .inl (mi_get 7 23 197)), (197, .inl (mi_push (.int 601) 200)), (200, .inr (.inr (.inl (126, 2, none, [])))), (203, .inr (.inl 0))]
def m_X7_takeOver : mD := (yX7_takeOver, cX7_takeOver, 1, none, [], t_X7_takeOver)
def t_X7_takeRow : mT := [(0, .inl (mi_push (.int 0) 1)), (1, .inl (mi_ist 2 2)), (2, .inl (mi_ild 2 3)), (3, .inl (mi_ild 1 4)), (4, .inl (mi_b2 (fun x y => decide (y ≤ x)) 21 7)), (7, .inl (mi_ald 0 8)), (8, .inl (mi_ild 2 9)), (9, .inl (mi_ald 0 10)), (10, .inl (mi_ild 1 11)), (11, .inl (mi_ild 2 12)), (12, .inl (mi_i2 (fun x y => x + y) 13)), (13, .inl (mi_iald 14)), (14, .inl (mi_iast 15)), (15, .inl (mi_inc 2 1 18)), (18, .inl (mi_go 2)), (21, .inr (.inl 0))]
def m_X7_takeRow : mD := (yX7_takeRow, cX7_takeRow, 3, none, [], t_X7_takeRow)
def t_X7_read : mT := [(0, .inl (mi_ald 0 1)), (1, .inl (mi_push (.int 0) 2)), (2, .inl (mi_put 7 0 .int 5)), (5, .inl (mi_ald 0 6)), (6, .inl (mi_push (.int 0) 7)), (7, .inl (mi_put 7 27 .int 10)), (10, .inl (mi_ald 0 11)), (11, .inl (mi_push (.int 1) 12)), (12, .inl (mi_put 7 28 .int 15)), (15, .inl (mi_ald 0 16)), (16, .inl (mi_push (.int 0) 17)), (17, .inl (mi_put 7 29 .int 20)), (20, .inl (mi_ald 0 21)), (21, .inl (mi_push (.int 0) 22)), (22, .inl (mi_put 7 30 .int 25)), (25, .inl (mi_ald 0 26)), (26, .inl (mi_push (.int 0) 27)), (27, .inl (mi_put 7 35 .boolean 30)), (30, .inl (mi_ald 0 31)), (31, .inl (mi_push (.int 0) 32)), (32, .inl (mi_put 7 38 .boolean 35)), (35, .inl (mi_ald 0 36)), (36, .inl (mi_get 7 7 39)), (39, .inl (mi_push (.int 1) 40)), (40, .inl (mi_push (.int 0) 41)), (41, .inl (mi_iast 42)), (42, .inl (mi_ald 0 43)), (43, .inl (mi_get 7 9 46)), (46, .inl (mi_push (.int 1) 47)), (47, .inl (mi_push (.int 0) 48)), (48, .inl (mi_iast 49)), (49, .inl (mi_ald 0 50)), (50, .inl (mi_get 7 13 53)), (53, .inl (mi_push (.int 1) 54)), (54, .inl (mi_push (.int 0) 55)), (55, .inl (mi_iast 56)), (56, .inl (mi_ald 0 57)), (57, .inl (mi_get 7 19 60)), (60, .inl (mi_push (.int 1) 61)), (61, .inl (mi_push (.int 0) 62)), (62, .inl (mi_iast 63)), (63, .inl (mi_ald 0 64)), (64, .inl (mi_get 7 20 67)), (67, .inl (mi_push (.int 1) 68)), (68, .inl (mi_push (.int 0) 69)), (69, .inl (mi_iast 70)), (70, .inl (mi_ald 0 71)), (71, .inl (mi_get 7 22 74)), (74, .inl (mi_push (.int 1) 75)), (75, .inl (mi_push (.int 0) 76)), (76, .inl (mi_iast 77)), (77, .inl (mi_ald 0 78)), (78, .inl (mi_get 7 2 81)), (81, .inl (mi_b1 (fun x => decide (x ≤ 0)) 88 84)), (84, .inl (mi_push (.int 1) 85)), (85, .inl (mi_go 89)), (88, .inl (mi_push (.int 0) 89)), (89, .inl (mi_ist 1 90)), (90, .inl (mi_ild 1 91)), (91, .inl (mi_b1 (fun x => decide (x = 0)) 159 94)), (94, .inl (mi_ald 0 95)), (95, .inr (.inr (.inl (123, 1, some 7, [])))), (98, .inl (mi_ald 0 99)), (99, .inl (mi_get 7 30 102)), (102, .inl (mi_b1 (fun x => decide (¬ x = 0)) 122 105)), (105, .inl (mi_ald 0 106)), (106, .inl (mi_get 7 27 109)), (109, .inl (mi_ald 0 110)), (110, .inl (mi_get 7 2 113)), (113, .inl (mi_push (.int 1) 114)), (114, .inl (mi_i2 (fun x y => x - y) 115)), (115, .inl (mi_b2 (fun x y => decide (y ≤ x)) 122 118)), (118, .inl (mi_push (.int 1) 119)), (119, .inl (mi_go 123)), (122, .inl (mi_push (.int 0) 123)), (123, .inl (mi_ist 1 124)), (124, .inl (mi_ild 1 125)), (125, .inl (mi_b1 (fun x => decide (x = 0)) 90 128)), (128, .inl (mi_ald 0 129)), (129, .inl (mi_dup 130)), (130, .inl (mi_get 7 27 133)), (133, .inl (mi_push (.int 1) 134)), (134, .inl (mi_i2 (fun x y => x + y) 135)), (135, .inl (mi_put 7 27 .int 138)), (138, .inl (mi_ald 0 139)), (139, .inl (mi_dup 140)), (140, .inl (mi_get 7 28 143)), (143, .inl (mi_push (.int 1) 144)), (144, .inl (mi_i2 (fun x y => x + y) 145)), (145, .inl (mi_put 7 28 .int 148)), (148, .inl (mi_ald 0 149)), (149, .inl (mi_ald 0 150)), (150, .inl (mi_get 7 27 153)), (153, .inl (mi_put 7 29 .int 156)), (156, .inl (mi_go 90)), (159, .inl (mi_ald 0 160)), (160, .inl (mi_ald 0 161)), (161, .inl (mi_get 7 7 164)), (164, .inl (mi_push (.int 1) 165)), (165, .inl (mi_iald 166)), (166, .inl (mi_push (.int 0) 167)), (167, .inr (.inr (.inl (128, 3, some 7, [])))), (170, .inl (mi_ald 0 171)), (171, .inl (mi_ald 0 172)), (172, .inl (mi_get 7 9 175)), (175, .inl (mi_push (.int 1) 176)), (176, .inl (mi_iald 177)), (177, .inl (mi_push (.int 1) 178)), (178, .inr (.inr (.inl (128, 3, some 7, [])))), (181, .inl (mi_ald 0 182)), (182, .inl (mi_push (.int 0) 183)), (183, .inl (mi_put 7 2 .int 186)), (186, .inl (mi_ald 0 187)), (187, .inl (mi_ald 0 188)), (188, .inl (mi_get 7 30 191)), (191, .inl (mi_b1 (fun x => decide (¬ x = 0)) 198 194)), (194, .inl (mi_push (.int (-1)) 195)), (195, .inl (mi_go 202)), (198, .inl (mi_ald 0 199)), (199, .inl (mi_get 7 28 202)), (202, .inl (mi_put 7 4 .int 205)), (205, .inl (mi_ald 0 206)), (206, .inl (mi_ald 0 207)), (207, .inl (mi_get 7 30 210)), (210, .inl (mi_b1 (fun x => decide (¬ x = 0)) 217 213)), (213, .inl (mi_push (.int (-1)) 214)), (214, .inl (mi_go 228)), (217, .inl (mi_ald 0 218)), (218, .inl (mi_get 7 31 221)), (221, .inl (mi_ald 0 222)), (222, .inl (mi_get 7 29 225)), (225, .inl (mi_i2 (fun x y => x - y) 226)), (226, .inl (mi_push (.int 1) 227)), (227, .inl (mi_i2 (fun x y => x + y) 228)), (228, .inl (mi_put 7 5 .int 231)), (231, .inl (mi_ald 0 232)), (232, .inl (mi_get 7 30 235)), (235, .inl (mi_b1 (fun x => decide (x ≤ 0)) 246 238)), (238, .inl (mi_push (.int (-10)) 240)), (240, .inl (mi_ald 0 241)), (241, .inl (mi_get 7 30 244)), (244, .inl (mi_i2 (fun x y => x - y) 245)), (245, .inr (.inl 1)), (246, .inl (mi_ald 0 247)), (247, .inr (.inr (.inl (124, 1, some 7, [])))), (250, .inl (mi_ald 0 251)), (251, .inr (.inr (.inl (125, 1, some 7, [])))), (254, .inl (mi_ald 0 255)), (255, .inl (mi_get 7 9 258)), (258, .inl (mi_push (.int 0) 259)), (259, .inl (mi_iald 260)), (260, .inr (.inl 1))]
def m_X7_read : mD := (yX7_read, cX7_read, 2, (some .int), [], t_X7_read)
def t_X7_lie : mT := [(0, .inl (mi_ald 0 1)), (1, .inl (mi_get 7 30 4)), (4, .inl (mi_b1 (fun x => decide (¬ x = 0)) 94 7)), (7, .inl (mi_ald 0 8)), (8, .inl (mi_get 7 35 11)), (11, .inl (mi_b1 (fun x => decide (x = 0)) 94 14)), (14, .inl (mi_ald 0 15)), (15, .inl (mi_get 7 24 18)), (18, .inl (mi_push (.int 2) 19)), (19, .inl (mi_ild 2 20)), (20, .inl (mi_i2 (fun x y => x + y) 21)), (21, .inl (mi_iald 22)), (22, .inl (mi_ild 1 23)), (23, .inl (mi_b2 (fun x y => decide (x = y)) 94 26)), (26, .inl (mi_ald 0 27)), (27, .inl (mi_push (.int 7) 29)), (29, .inl (mi_ald 0 30)), (30, .inl (mi_get 7 36 33)), (33, .inl (mi_ild 2 34)), (34, .inl (mi_iald 35)), (35, .inr (.inr (.inl (99, 3, some 7, [])))), (38, .inl (mi_ald 0 39)), (39, .inl (mi_ald 0 40)), (40, .inl (mi_get 7 37 43)), (43, .inl (mi_ild 2 44)), (44, .inl (mi_iald 45)), (45, .inl (mi_put 7 28 .int 48)), (48, .inl (mi_ald 0 49)), (49, .inl (mi_ald 0 50)), (50, .inl (mi_get 7 36 53)), (53, .inl (mi_ild 2 54)), (54, .inl (mi_iald 55)), (55, .inl (mi_put 7 29 .int 58)), (58, .inl (mi_ald 0 59)), (59, .inl (mi_get 7 29 62)), (62, .inl (mi_b1 (fun x => decide (x ≤ 0)) 94 65)), (65, .inl (mi_ald 0 66)), (66, .inl (mi_get 7 1 69)), (69, .inl (mi_ald 0 70)), (70, .inl (mi_get 7 29 73)), (73, .inl (mi_push (.int 1) 74)), (74, .inl (mi_i2 (fun x y => x - y) 75)), (75, .inl (mi_iald 76)), (76, .inl (mi_push (.int 10) 78)), (78, .inl (mi_b2 (fun x y => decide (x = y)) 94 81)), (81, .inl (mi_ald 0 82)), (82, .inl (mi_dup 83)), (83, .inl (mi_get 7 29 86)), (86, .inl (mi_push (.int 1) 87)), (87, .inl (mi_i2 (fun x y => x - y) 88)), (88, .inl (mi_put 7 29 .int 91)), (91, .inl (mi_go 58)), (94, .inr (.inl 0))]
def m_X7_lie : mD := (yX7_lie, cX7_lie, 3, none, [], t_X7_lie)
def t_X7_fault : mT := [(0, .inl (mi_ald 0 1)), (1, .inl (mi_push (.int 0) 2)), (2, .inl (mi_put 7 0 .int 5)), (5, .inl (mi_ild 1 6)), (6, .inl (mi_b1 (fun x => decide (¬ x = 0)) 16 9)), (9, .inl (mi_ald 0 10)), (10, .inl (mi_get 7 4 13)), (13, .inl (mi_go 30)), (16, .inl (mi_ild 1 17)), (17, .inl (mi_push (.int 1) 18)), (18, .inl (mi_b2 (fun x y => decide (¬ x = y)) 28 21)), (21, .inl (mi_ald 0 22)), (22, .inl (mi_get 7 5 25)), (25, .inl (mi_go 30)), (28, .inl (mi_push (.int (-102)) 30)), (30, .inr (.inl 1))]
def m_X7_fault : mD := (yX7_fault, cX7_fault, 2, (some .int), [], t_X7_fault)
def t_X7_manner : mT := [(0, .inl (mi_ald 0 1)), (1, .inl (mi_push (.int 0) 2)), (2, .inl (mi_put 7 0 .int 5)), (5, .inl (mi_ild 1 6)), (6, .inl (mi_push (.int 0) 7)), (7, .inl (mi_push (.int 2) 8)), (8, .inr (.inr (.inl (96, 3, none, [])))), (11, .inl (mi_b1 (fun x => decide (¬ x = 0)) 17 14)), (14, .inl (mi_push (.int (-102)) 16)), (16, .inr (.inl 1)), (17, .inl (mi_ald 0 18)), (18, .inl (mi_get 7 3 21)), (21, .inl (mi_ist 2 22)), (22, .inl (mi_ald 0 23)), (23, .inl (mi_ild 1 24)), (24, .inl (mi_put 7 3 .int 27)), (27, .inl (mi_ild 2 28)), (28, .inr (.inl 1))]
def m_X7_manner : mD := (yX7_manner, cX7_manner, 3, (some .int), [], t_X7_manner)
def t_X7_find : mT := [(0, .inl (mi_ald 0 1)), (1, .inl (mi_push (.int 0) 2)), (2, .inl (mi_put 7 0 .int 5)), (5, .inl (mi_push (.int (-1)) 6)), (6, .inl (mi_ist 1 7)), (7, .inl (mi_push (.int 0) 8)), (8, .inl (mi_ist 2 9)), (9, .inl (mi_ild 2 10)), (10, .inl (mi_ald 0 11)), (11, .inl (mi_get 7 7 14)), (14, .inl (mi_push (.int 0) 15)), (15, .inl (mi_iald 16)), (16, .inl (mi_b2 (fun x y => decide (y ≤ x)) 109 19)), (19, .inl (mi_ald 0 20)), (20, .inl (mi_get 7 8 23)), (23, .inl (mi_push (.int 9) 25)), (25, .inl (mi_ild 2 26)), (26, .inl (mi_i2 (fun x y => x * y) 27)), (27, .inl (mi_iald 28)), (28, .inl (mi_ald 0 29)), (29, .inl (mi_get 7 2 32)), (32, .inl (mi_b2 (fun x y => decide (¬ x = y)) 39 35)), (35, .inl (mi_push (.int 1) 36)), (36, .inl (mi_go 40)), (39, .inl (mi_push (.int 0) 40)), (40, .inl (mi_ist 3 41)), (41, .inl (mi_push (.int 0) 42)), (42, .inl (mi_ist 4 44)), (44, .inl (mi_ild 4 46)), (46, .inl (mi_ald 0 47)), (47, .inl (mi_get 7 2 50)), (50, .inl (mi_b2 (fun x y => decide (y ≤ x)) 93 53)), (53, .inl (mi_ild 3 54)), (54, .inl (mi_b1 (fun x => decide (x = 0)) 93 57)), (57, .inl (mi_ald 0 58)), (58, .inl (mi_get 7 8 61)), (61, .inl (mi_push (.int 9) 63)), (63, .inl (mi_ild 2 64)), (64, .inl (mi_i2 (fun x y => x * y) 65)), (65, .inl (mi_push (.int 1) 66)), (66, .inl (mi_i2 (fun x y => x + y) 67)), (67, .inl (mi_ild 4 69)), (69, .inl (mi_i2 (fun x y => x + y) 70)), (70, .inl (mi_iald 71)), (71, .inl (mi_ald 0 72)), (72, .inl (mi_get 7 1 75)), (75, .inl (mi_ild 4 77)), (77, .inl (mi_iald 78)), (78, .inl (mi_b2 (fun x y => decide (¬ x = y)) 85 81)), (81, .inl (mi_push (.int 1) 82)), (82, .inl (mi_go 86)), (85, .inl (mi_push (.int 0) 86)), (86, .inl (mi_ist 3 87)), (87, .inl (mi_inc 4 1 90)), (90, .inl (mi_go 44)), (93, .inl (mi_ild 3 94)), (94, .inl (mi_b1 (fun x => decide (x = 0)) 101 97)), (97, .inl (mi_ild 2 98)), (98, .inl (mi_go 102)), (101, .inl (mi_ild 1 102)), (102, .inl (mi_ist 1 103)), (103, .inl (mi_inc 2 1 106)), (106, .inl (mi_go 9)), (109, .inl (mi_ald 0 110)), (110, .inl (mi_push (.int 0) 111)), (111, .inl (mi_put 7 2 .int 114)), (114, .inl (mi_ild 1 115)), (115, .inr (.inl 1))]
def m_X7_find : mD := (yX7_find, cX7_find, 5, (some .int), [], t_X7_find)
def t_X7_node : mT := [(0, .inl (mi_ald 0 1)), (1, .inl (mi_push (.int 0) 2)), (2, .inl (mi_put 7 0 .int 5)), (5, .inl (mi_ild 1 6)), (6, .inl (mi_push (.int 0) 7)), (7, .inl (mi_ald 0 8)), (8, .inl (mi_get 7 7 11)), (11, .inl (mi_push (.int 0) 12)), (12, .inl (mi_iald 13)), (13, .inl (mi_push (.int 1) 14)), (14, .inl (mi_i2 (fun x y => x - y) 15)), (15, .inr (.inr (.inl (96, 3, none, [])))), (18, .inl (mi_b1 (fun x => decide (¬ x = 0)) 24 21)), (21, .inl (mi_push (.int (-101)) 23)), (23, .inr (.inl 1)), (24, .inl (mi_ald 0 25)), (25, .inl (mi_ild 2 26)), (26, .inl (mi_push (.int 0) 27)), (27, .inl (mi_ald 0 28)), (28, .inl (mi_get 7 8 31)), (31, .inl (mi_push (.int 9) 33)), (33, .inl (mi_ild 1 34)), (34, .inl (mi_i2 (fun x y => x * y) 35)), (35, .inl (mi_iald 36)), (36, .inl (mi_push (.int 1) 37)), (37, .inl (mi_i2 (fun x y => x - y) 38)), (38, .inr (.inr (.inl (96, 3, none, [])))), (41, .inl (mi_b1 (fun x => decide (x = 0)) 48 44)), (44, .inl (mi_push (.int 0) 45)), (45, .inl (mi_go 49)), (48, .inl (mi_push (.int 1) 49)), (49, .inl (mi_put 7 0 .int 52)), (52, .inl (mi_ald 0 53)), (53, .inl (mi_get 7 0 56)), (56, .inl (mi_b1 (fun x => decide (x ≤ 0)) 63 59)), (59, .inl (mi_push (.int 0) 60)), (60, .inl (mi_go 76)), (63, .inl (mi_ald 0 64)), (64, .inl (mi_get 7 8 67)), (67, .inl (mi_push (.int 9) 69)), (69, .inl (mi_ild 1 70)), (70, .inl (mi_i2 (fun x y => x * y) 71)), (71, .inl (mi_push (.int 1) 72)), (72, .inl (mi_i2 (fun x y => x + y) 73)), (73, .inl (mi_ild 2 74)), (74, .inl (mi_i2 (fun x y => x + y) 75)), (75, .inl (mi_iald 76)), (76, .inr (.inl 1))]
def m_X7_node : mD := (yX7_node, cX7_node, 3, (some .int), [], t_X7_node)
def t_X7_arc : mT := [(0, .inl (mi_ald 0 1)), (1, .inl (mi_push (.int 0) 2)), (2, .inl (mi_put 7 0 .int 5)), (5, .inl (mi_ild 1 6)), (6, .inl (mi_push (.int 0) 7)), (7, .inl (mi_ald 0 8)), (8, .inl (mi_get 7 9 11)), (11, .inl (mi_push (.int 0) 12)), (12, .inl (mi_iald 13)), (13, .inl (mi_push (.int 1) 14)), (14, .inl (mi_i2 (fun x y => x - y) 15)), (15, .inr (.inr (.inl (96, 3, none, [])))), (18, .inl (mi_b1 (fun x => decide (¬ x = 0)) 24 21)), (21, .inl (mi_push (.int (-101)) 23)), (23, .inr (.inl 1)), (24, .inl (mi_push (.int 0) 25)), (25, .inl (mi_ist 3 26)), (26, .inl (mi_push (.int 0) 27)), (27, .inl (mi_ist 4 29)), (29, .inl (mi_ild 4 31)), (31, .inl (mi_ald 0 32)), (32, .inl (mi_get 7 13 35)), (35, .inl (mi_push (.int 0) 36)), (36, .inl (mi_iald 37)), (37, .inl (mi_b2 (fun x y => decide (y ≤ x)) 68 40)), (40, .inl (mi_ild 3 41)), (41, .inl (mi_ald 0 42)), (42, .inl (mi_get 7 16 45)), (45, .inl (mi_push (.int 3) 46)), (46, .inl (mi_ild 1 47)), (47, .inl (mi_i2 (fun x y => x * y) 48)), (48, .inl (mi_ild 4 50)), (50, .inl (mi_i2 (fun x y => x + y) 51)), (51, .inl (mi_iald 52)), (52, .inl (mi_b1 (fun x => decide (¬ x = 0)) 59 55)), (55, .inl (mi_push (.int 1) 56)), (56, .inl (mi_go 60)), (59, .inl (mi_push (.int 0) 60)), (60, .inl (mi_i2 (fun x y => x + y) 61)), (61, .inl (mi_ist 3 62)), (62, .inl (mi_inc 4 1 65)), (65, .inl (mi_go 29)), (68, .inl (mi_ild 2 69)), (69, .inl (mi_b1 (fun x => decide (¬ x = 0)) 81 72)), (72, .inl (mi_ald 0 73)), (73, .inl (mi_get 7 10 76)), (76, .inl (mi_ild 1 77)), (77, .inl (mi_iald 78)), (78, .inl (mi_go 120)), (81, .inl (mi_ild 2 82)), (82, .inl (mi_push (.int 1) 83)), (83, .inl (mi_b2 (fun x y => decide (¬ x = y)) 95 86)), (86, .inl (mi_ald 0 87)), (87, .inl (mi_get 7 11 90)), (90, .inl (mi_ild 1 91)), (91, .inl (mi_iald 92)), (92, .inl (mi_go 120)), (95, .inl (mi_ild 2 96)), (96, .inl (mi_push (.int 2) 97)), (97, .inl (mi_b2 (fun x y => decide (¬ x = y)) 109 100)), (100, .inl (mi_ald 0 101)), (101, .inl (mi_get 7 12 104)), (104, .inl (mi_ild 1 105)), (105, .inl (mi_iald 106)), (106, .inl (mi_go 120)), (109, .inl (mi_ild 2 110)), (110, .inl (mi_push (.int 3) 111)), (111, .inl (mi_b2 (fun x y => decide (¬ x = y)) 118 114)), (114, .inl (mi_ild 3 115)), (115, .inl (mi_go 120)), (118, .inl (mi_push (.int (-102)) 120)), (120, .inr (.inl 1))]
def m_X7_arc : mD := (yX7_arc, cX7_arc, 5, (some .int), [], t_X7_arc)
def t_X7_isColumn : mT := [(0, .inl (mi_ild 1 1)), (1, .inl (mi_push (.int 0) 2)), (2, .inl (mi_ald 0 3)), (3, .inl (mi_get 7 13 6)), (6, .inl (mi_push (.int 0) 7)), (7, .inl (mi_iald 8)), (8, .inl (mi_push (.int 1) 9)), (9, .inl (mi_i2 (fun x y => x - y) 10)), (10, .inr (.inr (.inl (96, 3, none, [])))), (13, .inr (.inl 2))]
def m_X7_isColumn : mD := (yX7_isColumn, cX7_isColumn, 2, (some .boolean), [], t_X7_isColumn)
def t_X7_kind : mT := [(0, .inl (mi_ald 0 1)), (1, .inl (mi_push (.int 0) 2)), (2, .inl (mi_put 7 0 .int 5)), (5, .inl (mi_ald 0 6)), (6, .inl (mi_ild 1 7)), (7, .inr (.inr (.inl (134, 2, some 7, [])))), (10, .inl (mi_b1 (fun x => decide (x = 0)) 22 13)), (13, .inl (mi_ald 0 14)), (14, .inl (mi_get 7 14 17)), (17, .inl (mi_ild 1 18)), (18, .inl (mi_iald 19)), (19, .inl (mi_go 24)), (22, .inl (mi_push (.int (-101)) 24)), (24, .inr (.inl 1))]
def m_X7_kind : mD := (yX7_kind, cX7_kind, 2, (some .int), [], t_X7_kind)
def t_X7_head : mT := [(0, .inl (mi_ald 0 1)), (1, .inl (mi_push (.int 0) 2)), (2, .inl (mi_put 7 0 .int 5)), (5, .inl (mi_ald 0 6)), (6, .inl (mi_ild 1 7)), (7, .inr (.inr (.inl (134, 2, some 7, [])))), (10, .inl (mi_b1 (fun x => decide (¬ x = 0)) 16 13)), (13, .inl (mi_push (.int (-101)) 15)), (15, .inr (.inl 1)), (16, .inl (mi_ald 0 17)), (17, .inl (mi_ild 2 18)), (18, .inl (mi_push (.int 0) 19)), (19, .inl (mi_ald 0 20)), (20, .inl (mi_get 7 15 23)), (23, .inl (mi_push (.int 9) 25)), (25, .inl (mi_ild 1 26)), (26, .inl (mi_i2 (fun x y => x * y) 27)), (27, .inl (mi_iald 28)), (28, .inl (mi_push (.int 1) 29)), (29, .inl (mi_i2 (fun x y => x - y) 30)), (30, .inr (.inr (.inl (96, 3, none, [])))), (33, .inl (mi_b1 (fun x => decide (x = 0)) 40 36)), (36, .inl (mi_push (.int 0) 37)), (37, .inl (mi_go 41)), (40, .inl (mi_push (.int 1) 41)), (41, .inl (mi_put 7 0 .int 44)), (44, .inl (mi_ald 0 45)), (45, .inl (mi_get 7 0 48)), (48, .inl (mi_b1 (fun x => decide (x ≤ 0)) 55 51)), (51, .inl (mi_push (.int 0) 52)), (52, .inl (mi_go 68)), (55, .inl (mi_ald 0 56)), (56, .inl (mi_get 7 15 59)), (59, .inl (mi_push (.int 9) 61)), (61, .inl (mi_ild 1 62)), (62, .inl (mi_i2 (fun x y => x * y) 63)), (63, .inl (mi_push (.int 1) 64)), (64, .inl (mi_i2 (fun x y => x + y) 65)), (65, .inl (mi_ild 2 66)), (66, .inl (mi_i2 (fun x y => x + y) 67)), (67, .inl (mi_iald 68)), (68, .inr (.inl 1))]
def m_X7_head : mD := (yX7_head, cX7_head, 3, (some .int), [], t_X7_head)
def t_X7_value : mT := [(0, .inl (mi_ald 0 1)), (1, .inl (mi_push (.int 0) 2)), (2, .inl (mi_put 7 0 .int 5)), (5, .inl (mi_ild 1 6)), (6, .inl (mi_push (.int 0) 7)), (7, .inl (mi_ald 0 8)), (8, .inl (mi_get 7 9 11)), (11, .inl (mi_push (.int 0) 12)), (12, .inl (mi_iald 13)), (13, .inl (mi_push (.int 1) 14)), (14, .inl (mi_i2 (fun x y => x - y) 15)), (15, .inr (.inr (.inl (96, 3, none, [])))), (18, .inl (mi_b1 (fun x => decide (x = 0)) 29 21)), (21, .inl (mi_ald 0 22)), (22, .inl (mi_ild 2 23)), (23, .inr (.inr (.inl (134, 2, some 7, [])))), (26, .inl (mi_b1 (fun x => decide (¬ x = 0)) 32 29)), (29, .inl (mi_push (.int (-101)) 31)), (31, .inr (.inl 1)), (32, .inl (mi_ald 0 33)), (33, .inl (mi_ald 0 34)), (34, .inl (mi_get 7 16 37)), (37, .inl (mi_push (.int 3) 38)), (38, .inl (mi_ild 1 39)), (39, .inl (mi_i2 (fun x y => x * y) 40)), (40, .inl (mi_ild 2 41)), (41, .inl (mi_i2 (fun x y => x + y) 42)), (42, .inl (mi_iald 43)), (43, .inl (mi_b1 (fun x => decide (¬ x = 0)) 50 46)), (46, .inl (mi_push (.int 1) 47)), (47, .inl (mi_go 65)), (50, .inl (mi_ald 0 51)), (51, .inl (mi_get 7 14 54)), (54, .inl (mi_ild 2 55)), (55, .inl (mi_iald 56)), (56, .inl (mi_push (.int 2) 57)), (57, .inl (mi_b2 (fun x y => decide (¬ x = y)) 64 60)), (60, .inl (mi_push (.int 2) 61)), (61, .inl (mi_go 65)), (64, .inl (mi_push (.int 0) 65)), (65, .inl (mi_put 7 0 .int 68)), (68, .inl (mi_ald 0 69)), (69, .inl (mi_get 7 0 72)), (72, .inl (mi_b1 (fun x => decide (x ≤ 0)) 79 75)), (75, .inl (mi_push (.int 0) 76)), (76, .inl (mi_go 89)), (79, .inl (mi_ald 0 80)), (80, .inl (mi_get 7 17 83)), (83, .inl (mi_push (.int 3) 84)), (84, .inl (mi_ild 1 85)), (85, .inl (mi_i2 (fun x y => x * y) 86)), (86, .inl (mi_ild 2 87)), (87, .inl (mi_i2 (fun x y => x + y) 88)), (88, .inl (mi_iald 89)), (89, .inr (.inl 1))]
def m_X7_value : mD := (yX7_value, cX7_value, 3, (some .int), [], t_X7_value)
def t_X7_sign_ : mT := [(0, .inl (mi_ald 0 1)), (1, .inl (mi_push (.int 0) 2)), (2, .inl (mi_put 7 0 .int 5)), (5, .inl (mi_ild 1 6)), (6, .inl (mi_push (.int 0) 7)), (7, .inl (mi_ald 0 8)), (8, .inl (mi_get 7 9 11)), (11, .inl (mi_push (.int 0) 12)), (12, .inl (mi_iald 13)), (13, .inl (mi_push (.int 1) 14)), (14, .inl (mi_i2 (fun x y => x - y) 15)), (15, .inr (.inr (.inl (96, 3, none, [])))), (18, .inl (mi_b1 (fun x => decide (x = 0)) 29 21)), (21, .inl (mi_ald 0 22)), (22, .inl (mi_ild 2 23)), (23, .inr (.inr (.inl (134, 2, some 7, [])))), (26, .inl (mi_b1 (fun x => decide (¬ x = 0)) 32 29)), (29, .inl (mi_push (.int (-101)) 31)), (31, .inr (.inl 1)), (32, .inl (mi_push (.int 3) 33)), (33, .inl (mi_ild 1 34)), (34, .inl (mi_i2 (fun x y => x * y) 35)), (35, .inl (mi_ild 2 36)), (36, .inl (mi_i2 (fun x y => x + y) 37)), (37, .inl (mi_ist 4 39)), (39, .inl (mi_ald 0 40)), (40, .inl (mi_ald 0 41)), (41, .inl (mi_get 7 16 44)), (44, .inl (mi_ild 4 46)), (46, .inl (mi_iald 47)), (47, .inl (mi_b1 (fun x => decide (¬ x = 0)) 54 50)), (50, .inl (mi_push (.int 1) 51)), (51, .inl (mi_go 93)), (54, .inl (mi_ald 0 55)), (55, .inl (mi_get 7 14 58)), (58, .inl (mi_ild 2 59)), (59, .inl (mi_iald 60)), (60, .inl (mi_push (.int 2) 61)), (61, .inl (mi_b2 (fun x y => decide (y ≤ x)) 68 64)), (64, .inl (mi_push (.int 2) 65)), (65, .inl (mi_go 93)), (68, .inl (mi_ild 3 69)), (69, .inl (mi_push (.int 0) 70)), (70, .inl (mi_ald 0 71)), (71, .inl (mi_get 7 18 74)), (74, .inl (mi_push (.int 9) 76)), (76, .inl (mi_ild 4 78)), (78, .inl (mi_i2 (fun x y => x * y) 79)), (79, .inl (mi_iald 80)), (80, .inl (mi_push (.int 1) 81)), (81, .inl (mi_i2 (fun x y => x - y) 82)), (82, .inr (.inr (.inl (96, 3, none, [])))), (85, .inl (mi_b1 (fun x => decide (x = 0)) 92 88)), (88, .inl (mi_push (.int 0) 89)), (89, .inl (mi_go 93)), (92, .inl (mi_push (.int 3) 93)), (93, .inl (mi_put 7 0 .int 96)), (96, .inl (mi_ald 0 97)), (97, .inl (mi_get 7 0 100)), (100, .inl (mi_b1 (fun x => decide (x ≤ 0)) 107 103)), (103, .inl (mi_push (.int 0) 104)), (104, .inl (mi_go 121)), (107, .inl (mi_ald 0 108)), (108, .inl (mi_get 7 18 111)), (111, .inl (mi_push (.int 9) 113)), (113, .inl (mi_ild 4 115)), (115, .inl (mi_i2 (fun x y => x * y) 116)), (116, .inl (mi_push (.int 1) 117)), (117, .inl (mi_i2 (fun x y => x + y) 118)), (118, .inl (mi_ild 3 119)), (119, .inl (mi_i2 (fun x y => x + y) 120)), (120, .inl (mi_iald 121)), (121, .inr (.inl 1))]
def m_X7_sign_ : mD := (yX7_sign_, cX7_sign_, 5, (some .int), [], t_X7_sign_)
def t_X7_comment : mT := [(0, .inl (mi_ald 0 1)), (1, .inl (mi_push (.int 0) 2)), (2, .inl (mi_put 7 0 .int 5)), (5, .inl (mi_ild 1 6)), (6, .inl (mi_push (.int 0) 7)), (7, .inl (mi_ald 0 8)), (8, .inl (mi_get 7 20 11)), (11, .inl (mi_push (.int 0) 12)), (12, .inl (mi_iald 13)), (13, .inl (mi_push (.int 1) 14)), (14, .inl (mi_i2 (fun x y => x - y) 15)), (15, .inr (.inr (.inl (96, 3, none, [])))), (18, .inl (mi_b1 (fun x => decide (¬ x = 0)) 24 21)), (21, .inl (mi_push (.int (-101)) 23)), (23, .inr (.inl 1)), (24, .inl (mi_ald 0 25)), (25, .inl (mi_ild 2 26)), (26, .inl (mi_push (.int 0) 27)), (27, .inl (mi_ald 0 28)), (28, .inl (mi_get 7 21 31)), (31, .inl (mi_push (.int 21) 33)), (33, .inl (mi_ild 1 34)), (34, .inl (mi_i2 (fun x y => x * y) 35)), (35, .inl (mi_iald 36)), (36, .inl (mi_push (.int 1) 37)), (37, .inl (mi_i2 (fun x y => x - y) 38)), (38, .inr (.inr (.inl (96, 3, none, [])))), (41, .inl (mi_b1 (fun x => decide (x = 0)) 48 44)), (44, .inl (mi_push (.int 0) 45)), (45, .inl (mi_go 49)), (48, .inl (mi_push (.int 1) 49)), (49, .inl (mi_put 7 0 .int 52)), (52, .inl (mi_ald 0 53)), (53, .inl (mi_get 7 0 56)), (56, .inl (mi_b1 (fun x => decide (x ≤ 0)) 63 59)), (59, .inl (mi_push (.int 0) 60)), (60, .inl (mi_go 76)), (63, .inl (mi_ald 0 64)), (64, .inl (mi_get 7 21 67)), (67, .inl (mi_push (.int 21) 69)), (69, .inl (mi_ild 1 70)), (70, .inl (mi_i2 (fun x y => x * y) 71)), (71, .inl (mi_push (.int 1) 72)), (72, .inl (mi_i2 (fun x y => x + y) 73)), (73, .inl (mi_ild 2 74)), (74, .inl (mi_i2 (fun x y => x + y) 75)), (75, .inl (mi_iald 76)), (76, .inr (.inl 1))]
def m_X7_comment : mD := (yX7_comment, cX7_comment, 3, (some .int), [], t_X7_comment)
def t_X7_put : mT := [(0, .inl (mi_ald 0 1)), (1, .inl (mi_get 7 25 4)), (4, .inl (mi_ald 0 5)), (5, .inl (mi_get 7 26 8)), (8, .inl (mi_ild 1 9)), (9, .inl (mi_iast 10)), (10, .inl (mi_ald 0 11)), (11, .inl (mi_dup 12)), (12, .inl (mi_get 7 26 15)), (15, .inl (mi_push (.int 1) 16)), (16, .inl (mi_i2 (fun x y => x + y) 17)), (17, .inl (mi_put 7 26 .int 20)), (20, .inr (.inl 0))]
def m_X7_put : mD := (yX7_put, cX7_put, 2, none, [], t_X7_put)
def t_X7_putName : mT := [(0, .inl (mi_push (.int 1) 1)), (1, .inl (mi_ist 3 2)), (2, .inl (mi_push (.int 1) 3)), (3, .inl (mi_ist 4 5)), (5, .inl (mi_ild 4 7)), (7, .inl (mi_ald 1 8)), (8, .inl (mi_ild 2 9)), (9, .inl (mi_iald 10)), (10, .inl (mi_b2 (fun x y => decide (y < x)) 41 13)), (13, .inl (mi_ild 3 14)), (14, .inl (mi_b1 (fun x => decide (x = 0)) 33 17)), (17, .inl (mi_ald 1 18)), (18, .inl (mi_ild 2 19)), (19, .inl (mi_ild 4 21)), (21, .inl (mi_i2 (fun x y => x + y) 22)), (22, .inl (mi_iald 23)), (23, .inr (.inr (.inl (101, 1, none, [])))), (26, .inl (mi_b1 (fun x => decide (x = 0)) 33 29)), (29, .inl (mi_push (.int 1) 30)), (30, .inl (mi_go 34)), (33, .inl (mi_push (.int 0) 34)), (34, .inl (mi_ist 3 35)), (35, .inl (mi_inc 4 1 38)), (38, .inl (mi_go 5)), (41, .inl (mi_ild 3 42)), (42, .inl (mi_b1 (fun x => decide (¬ x = 0)) 51 45)), (45, .inl (mi_ald 0 46)), (46, .inl (mi_push (.int 34) 48)), (48, .inr (.inr (.inl (140, 2, some 7, [])))), (51, .inl (mi_push (.int 1) 52)), (52, .inl (mi_ist 4 54)), (54, .inl (mi_ild 4 56)), (56, .inl (mi_ald 1 57)), (57, .inl (mi_ild 2 58)), (58, .inl (mi_iald 59)), (59, .inl (mi_b2 (fun x y => decide (y < x)) 106 62)), (62, .inl (mi_ald 1 63)), (63, .inl (mi_ild 2 64)), (64, .inl (mi_ild 4 66)), (66, .inl (mi_i2 (fun x y => x + y) 67)), (67, .inl (mi_iald 68)), (68, .inl (mi_push (.int 34) 70)), (70, .inl (mi_b2 (fun x y => decide (x = y)) 84 73)), (73, .inl (mi_ald 1 74)), (74, .inl (mi_ild 2 75)), (75, .inl (mi_ild 4 77)), (77, .inl (mi_i2 (fun x y => x + y) 78)), (78, .inl (mi_iald 79)), (79, .inl (mi_push (.int 92) 81)), (81, .inl (mi_b2 (fun x y => decide (¬ x = y)) 90 84)), (84, .inl (mi_ald 0 85)), (85, .inl (mi_push (.int 92) 87)), (87, .inr (.inr (.inl (140, 2, some 7, [])))), (90, .inl (mi_ald 0 91)), (91, .inl (mi_ald 1 92)), (92, .inl (mi_ild 2 93)), (93, .inl (mi_ild 4 95)), (95, .inl (mi_i2 (fun x y => x + y) 96)), (96, .inl (mi_iald 97)), (97, .inr (.inr (.inl (140, 2, some 7, [])))), (100, .inl (mi_inc 4 1 103)), (103, .inl (mi_go 54)), (106, .inl (mi_ild 3 107)), (107, .inl (mi_b1 (fun x => decide (¬ x = 0)) 116 110)), (110, .inl (mi_ald 0 111)), (111, .inl (mi_push (.int 34) 113)), (113, .inr (.inr (.inl (140, 2, some 7, [])))), (116, .inr (.inl 0))]
def m_X7_putName : mD := (yX7_putName, cX7_putName, 5, none, [], t_X7_putName)
def t_X7_putWhole : mT := [(0, .inl (mi_push (.int 1) 1)), (1, .inl (mi_ist 2 2)), (2, .inl (mi_ild 1 3)), (3, .inl (mi_ild 2 4)), (4, .inl (mi_d2 (fun x y => x / y) 5)), (5, .inl (mi_push (.int 9) 7)), (7, .inl (mi_b2 (fun x y => decide (x ≤ y)) 18 10)), (10, .inl (mi_ild 2 11)), (11, .inl (mi_push (.int 10) 13)), (13, .inl (mi_i2 (fun x y => x * y) 14)), (14, .inl (mi_ist 2 15)), (15, .inl (mi_go 2)), (18, .inl (mi_ild 2 19)), (19, .inl (mi_b1 (fun x => decide (x ≤ 0)) 43 22)), (22, .inl (mi_ald 0 23)), (23, .inl (mi_push (.int 48) 25)), (25, .inl (mi_ild 1 26)), (26, .inl (mi_ild 2 27)), (27, .inl (mi_d2 (fun x y => x / y) 28)), (28, .inl (mi_push (.int 10) 30)), (30, .inl (mi_d2 mi_irem 31)), (31, .inl (mi_i2 (fun x y => x + y) 32)), (32, .inr (.inr (.inl (140, 2, some 7, [])))), (35, .inl (mi_ild 2 36)), (36, .inl (mi_push (.int 10) 38)), (38, .inl (mi_d2 (fun x y => x / y) 39)), (39, .inl (mi_ist 2 40)), (40, .inl (mi_go 18)), (43, .inr (.inl 0))]
def m_X7_putWhole : mD := (yX7_putWhole, cX7_putWhole, 3, none, [], t_X7_putWhole)
def t_X7_putNumber : mT := [(0, .inl (mi_ild 1 1)), (1, .inl (mi_b1 (fun x => decide (0 ≤ x)) 9 4)), (4, .inl (mi_ild 1 5)), (5, .inl (mi_i1 (fun x => -x) 6)), (6, .inl (mi_go 10)), (9, .inl (mi_ild 1 10)), (10, .inl (mi_ist 2 11)), (11, .inl (mi_ild 1 12)), (12, .inl (mi_b1 (fun x => decide (0 ≤ x)) 21 15)), (15, .inl (mi_ald 0 16)), (16, .inl (mi_push (.int 45) 18)), (18, .inr (.inr (.inl (140, 2, some 7, [])))), (21, .inl (mi_ald 0 22)), (22, .inl (mi_ild 2 23)), (23, .inl (mi_push (.int 1000) 26)), (26, .inl (mi_d2 (fun x y => x / y) 27)), (27, .inr (.inr (.inl (142, 2, some 7, [])))), (30, .inl (mi_ild 2 31)), (31, .inl (mi_push (.int 1000) 34)), (34, .inl (mi_d2 mi_irem 35)), (35, .inl (mi_ist 3 36)), (36, .inl (mi_ild 3 37)), (37, .inl (mi_b1 (fun x => decide (x ≤ 0)) 46 40)), (40, .inl (mi_ald 0 41)), (41, .inl (mi_push (.int 46) 43)), (43, .inr (.inr (.inl (140, 2, some 7, [])))), (46, .inl (mi_ild 3 47)), (47, .inl (mi_b1 (fun x => decide (x ≤ 0)) 72 50)), (50, .inl (mi_ald 0 51)), (51, .inl (mi_push (.int 48) 53)), (53, .inl (mi_ild 3 54)), (54, .inl (mi_push (.int 100) 56)), (56, .inl (mi_d2 (fun x y => x / y) 57)), (57, .inl (mi_i2 (fun x y => x + y) 58)), (58, .inr (.inr (.inl (140, 2, some 7, [])))), (61, .inl (mi_ild 3 62)), (62, .inl (mi_push (.int 100) 64)), (64, .inl (mi_d2 mi_irem 65)), (65, .inl (mi_push (.int 10) 67)), (67, .inl (mi_i2 (fun x y => x * y) 68)), (68, .inl (mi_ist 3 69)), (69, .inl (mi_go 46)), (72, .inr (.inl 0))]
def m_X7_putNumber : mD := (yX7_putNumber, cX7_putNumber, 4, none, [], t_X7_putNumber)
def t_X7_putArc : mT := [(0, .inl (mi_ald 0 1)), (1, .inl (mi_ald 0 2)), (2, .inl (mi_get 7 8 5)), (5, .inl (mi_push (.int 9) 7)), (7, .inl (mi_ald 0 8)), (8, .inl (mi_get 7 10 11)), (11, .inl (mi_ild 1 12)), (12, .inl (mi_iald 13)), (13, .inl (mi_i2 (fun x y => x * y) 14)), (14, .inr (.inr (.inl (141, 3, some 7, [])))), (17, .inl (mi_ald 0 18)), (18, .inl (mi_push (.int 32) 20)), (20, .inr (.inr (.inl (140, 2, some 7, [])))), (23, .inl (mi_ald 0 24)), (24, .inl (mi_ald 0 25)), (25, .inl (mi_get 7 8 28)), (28, .inl (mi_push (.int 9) 30)), (30, .inl (mi_ald 0 31)), (31, .inl (mi_get 7 11 34)), (34, .inl (mi_ild 1 35)), (35, .inl (mi_iald 36)), (36, .inl (mi_i2 (fun x y => x * y) 37)), (37, .inr (.inr (.inl (141, 3, some 7, [])))), (40, .inl (mi_push (.int 0) 41)), (41, .inl (mi_ist 2 42)), (42, .inl (mi_ild 2 43)), (43, .inl (mi_ald 0 44)), (44, .inl (mi_get 7 13 47)), (47, .inl (mi_push (.int 0) 48)), (48, .inl (mi_iald 49)), (49, .inl (mi_b2 (fun x y => decide (y ≤ x)) 123 52)), (52, .inl (mi_push (.int 3) 53)), (53, .inl (mi_ild 1 54)), (54, .inl (mi_i2 (fun x y => x * y) 55)), (55, .inl (mi_ild 2 56)), (56, .inl (mi_i2 (fun x y => x + y) 57)), (57, .inl (mi_ist 3 58)), (58, .inl (mi_ald 0 59)), (59, .inl (mi_push (.int 32) 61)), (61, .inr (.inr (.inl (140, 2, some 7, [])))), (64, .inl (mi_ald 0 65)), (65, .inl (mi_get 7 16 68)), (68, .inl (mi_ild 3 69)), (69, .inl (mi_iald 70)), (70, .inl (mi_b1 (fun x => decide (¬ x = 0)) 82 73)), (73, .inl (mi_ald 0 74)), (74, .inl (mi_push (.int 45) 76)), (76, .inr (.inr (.inl (140, 2, some 7, [])))), (79, .inl (mi_go 117)), (82, .inl (mi_ald 0 83)), (83, .inl (mi_get 7 14 86)), (86, .inl (mi_ild 2 87)), (87, .inl (mi_iald 88)), (88, .inl (mi_push (.int 2) 89)), (89, .inl (mi_b2 (fun x y => decide (¬ x = y)) 107 92)), (92, .inl (mi_ald 0 93)), (93, .inl (mi_ald 0 94)), (94, .inl (mi_get 7 18 97)), (97, .inl (mi_push (.int 9) 99)), (99, .inl (mi_ild 3 100)), (100, .inl (mi_i2 (fun x y => x * y) 101)), (101, .inr (.inr (.inl (141, 3, some 7, [])))), (104, .inl (mi_go 117)), (107, .inl (mi_ald 0 108)), (108, .inl (mi_ald 0 109)), (109, .inl (mi_get 7 17 112)), (112, .inl (mi_ild 3 113)), (113, .inl (mi_iald 114)), (114, .inr (.inr (.inl (143, 2, some 7, [])))), (117, .inl (mi_inc 2 1 120)), (120, .inl (mi_go 42)), (123, .inr (.inl 0))]
def m_X7_putArc : mD := (yX7_putArc, cX7_putArc, 4, none, [], t_X7_putArc)
def t_X7_print : mT := [(0, .inl (mi_ald 0 1)), (1, .inl (mi_push (.int 0) 2)), (2, .inl (mi_put 7 0 .int 5)), (5, .inl (mi_ald 0 6)), (6, .inl (mi_get 7 6 9)), (9, .inl (mi_b1 (fun x => decide (¬ x = 0)) 15 12)), (12, .inl (mi_push (.int (-103)) 14)), (14, .inr (.inl 1)), (15, .inl (mi_ald 0 16)), (16, .inl (mi_push (.int 0) 17)), (17, .inl (mi_put 7 26 .int 20)), (20, .inl (mi_push (.int 0) 21)), (21, .inl (mi_ist 1 22)), (22, .inl (mi_push (.int 0) 23)), (23, .inl (mi_ist 2 24)), (24, .inl (mi_push (.int 0) 25)), (25, .inl (mi_ist 3 26)), (26, .inl (mi_push (.int 0) 27)), (27, .inl (mi_ist 4 29)), (29, .inl (mi_ild 4 31)), (31, .inl (mi_ald 0 32)), (32, .inl (mi_get 7 22 35)), (35, .inl (mi_push (.int 0) 36)), (36, .inl (mi_iald 37)), (37, .inl (mi_b2 (fun x y => decide (y ≤ x)) 255 40)), (40, .inl (mi_ald 0 41)), (41, .inl (mi_get 7 23 44)), (44, .inl (mi_ild 4 46)), (46, .inl (mi_iald 47)), (47, .inl (mi_sw (mi_tab 1 3 [72, 123, 164] 235))), (72, .inl (mi_ald 0 73)), (73, .inl (mi_push (.int 35) 75)), (75, .inr (.inr (.inl (140, 2, some 7, [])))), (78, .inl (mi_push (.int 1) 79)), (79, .inl (mi_ist 5 81)), (81, .inl (mi_ild 5 83)), (83, .inl (mi_ald 0 84)), (84, .inl (mi_get 7 21 87)), (87, .inl (mi_push (.int 21) 89)), (89, .inl (mi_ild 1 90)), (90, .inl (mi_i2 (fun x y => x * y) 91)), (91, .inl (mi_iald 92)), (92, .inl (mi_b2 (fun x y => decide (y < x)) 117 95)), (95, .inl (mi_ald 0 96)), (96, .inl (mi_ald 0 97)), (97, .inl (mi_get 7 21 100)), (100, .inl (mi_push (.int 21) 102)), (102, .inl (mi_ild 1 103)), (103, .inl (mi_i2 (fun x y => x * y) 104)), (104, .inl (mi_ild 5 106)), (106, .inl (mi_i2 (fun x y => x + y) 107)), (107, .inl (mi_iald 108)), (108, .inr (.inr (.inl (140, 2, some 7, [])))), (111, .inl (mi_inc 5 1 114)), (114, .inl (mi_go 81)), (117, .inl (mi_inc 1 1 120)), (120, .inl (mi_go 243)), (123, .inl (mi_ald 0 124)), (124, .inl (mi_push (.int 33) 126)), (126, .inr (.inr (.inl (140, 2, some 7, [])))), (129, .inl (mi_ald 0 130)), (130, .inl (mi_push (.int 32) 132)), (132, .inr (.inr (.inl (140, 2, some 7, [])))), (135, .inl (mi_ald 0 136)), (136, .inl (mi_ald 0 137)), (137, .inl (mi_get 7 24 140)), (140, .inl (mi_push (.int 0) 141)), (141, .inl (mi_iald 142)), (142, .inr (.inr (.inl (142, 2, some 7, [])))), (145, .inl (mi_ald 0 146)), (146, .inl (mi_push (.int 32) 148)), (148, .inr (.inr (.inl (140, 2, some 7, [])))), (151, .inl (mi_ald 0 152)), (152, .inl (mi_ald 0 153)), (153, .inl (mi_get 7 24 156)), (156, .inl (mi_push (.int 1) 157)), (157, .inl (mi_iald 158)), (158, .inr (.inr (.inl (142, 2, some 7, [])))), (161, .inl (mi_go 243)), (164, .inl (mi_ald 0 165)), (165, .inl (mi_push (.int 37) 167)), (167, .inr (.inr (.inl (140, 2, some 7, [])))), (170, .inl (mi_ald 0 171)), (171, .inl (mi_push (.int 32) 173)), (173, .inr (.inr (.inl (140, 2, some 7, [])))), (176, .inl (mi_ald 0 177)), (177, .inl (mi_ald 0 178)), (178, .inl (mi_get 7 15 181)), (181, .inl (mi_push (.int 9) 183)), (183, .inl (mi_ild 2 184)), (184, .inl (mi_i2 (fun x y => x * y) 185)), (185, .inr (.inr (.inl (141, 3, some 7, [])))), (188, .inl (mi_ald 0 189)), (189, .inl (mi_push (.int 32) 191)), (191, .inr (.inr (.inl (140, 2, some 7, [])))), (194, .inl (mi_ald 0 195)), (195, .inl (mi_ald 0 196)), (196, .inl (mi_get 7 14 199)), (199, .inl (mi_ild 2 200)), (200, .inl (mi_iald 201)), (201, .inl (mi_b1 (fun x => decide (¬ x = 0)) 209 204)), (204, .inl (mi_push (.int 119) 206)), (206, .inl (mi_go 226)), (209, .inl (mi_ald 0 210)), (210, .inl (mi_get 7 14 213)), (213, .inl (mi_ild 2 214)), (214, .inl (mi_iald 215)), (215, .inl (mi_push (.int 1) 216)), (216, .inl (mi_b2 (fun x y => decide (¬ x = y)) 224 219)), (219, .inl (mi_push (.int 100) 221)), (221, .inl (mi_go 226)), (224, .inl (mi_push (.int 116) 226)), (226, .inr (.inr (.inl (140, 2, some 7, [])))), (229, .inl (mi_inc 2 1 232)), (232, .inl (mi_go 243)), (235, .inl (mi_ald 0 236)), (236, .inl (mi_ild 3 237)), (237, .inr (.inr (.inl (144, 2, some 7, [])))), (240, .inl (mi_inc 3 1 243)), (243, .inl (mi_ald 0 244)), (244, .inl (mi_push (.int 10) 246)), (246, .inr (.inr (.inl (140, 2, some 7, [])))), (249, .inl (mi_inc 4 1 252)), (252, .inl (mi_go 29)), (255, .inl (mi_ald 0 256)), (256, .inl (mi_get 7 26 259)), (259, .inr (.inl 1))]
def m_X7_print : mD := (yX7_print, cX7_print, 6, (some .int), [], t_X7_print)
def t_X7_out : mT := [(0, .inl (mi_ald 0 1)), (1, .inl (mi_ild 1 2)), (2, .inl (mi_push (.int 0) 3)), (3, .inl (mi_ald 0 4)), (4, .inl (mi_get 7 26 7)), (7, .inl (mi_push (.int 1) 8)), (8, .inl (mi_i2 (fun x y => x - y) 9)), (9, .inr (.inr (.inl (96, 3, none, [])))), (12, .inl (mi_b1 (fun x => decide (x = 0)) 19 15)), (15, .inl (mi_push (.int 0) 16)), (16, .inl (mi_go 20)), (19, .inl (mi_push (.int 1) 20)), (20, .inl (mi_put 7 0 .int 23)), (23, .inl (mi_ald 0 24)), (24, .inl (mi_get 7 0 27)), (27, .inl (mi_b1 (fun x => decide (x ≤ 0)) 34 30)), (30, .inl (mi_push (.int 0) 31)), (31, .inl (mi_go 40)), (34, .inl (mi_ald 0 35)), (35, .inl (mi_get 7 25 38)), (38, .inl (mi_ild 1 39)), (39, .inl (mi_iald 40)), (40, .inr (.inl 1))]
def m_X7_out : mD := (yX7_out, cX7_out, 2, (some .int), [], t_X7_out)
def t_X7_about : mT := [(0, .inl (mi_ald 0 1)), (1, .inl (mi_push (.int 0) 2)), (2, .inl (mi_put 7 0 .int 5)), (5, .inl (mi_ild 1 6)), (6, .inl (mi_sw (mi_tab 0 6 [48, 53, 60, 67, 74, 81, 88] 93))), (48, .inl (mi_ald 0 49)), (49, .inl (mi_get 7 2 52)), (52, .inr (.inl 1)), (53, .inl (mi_ald 0 54)), (54, .inl (mi_get 7 7 57)), (57, .inl (mi_push (.int 0) 58)), (58, .inl (mi_iald 59)), (59, .inr (.inl 1)), (60, .inl (mi_ald 0 61)), (61, .inl (mi_get 7 9 64)), (64, .inl (mi_push (.int 0) 65)), (65, .inl (mi_iald 66)), (66, .inr (.inl 1)), (67, .inl (mi_ald 0 68)), (68, .inl (mi_get 7 13 71)), (71, .inl (mi_push (.int 0) 72)), (72, .inl (mi_iald 73)), (73, .inr (.inl 1)), (74, .inl (mi_ald 0 75)), (75, .inl (mi_get 7 19 78)), (78, .inl (mi_push (.int 0) 79)), (79, .inl (mi_iald 80)), (80, .inr (.inl 1)), (81, .inl (mi_ald 0 82)), (82, .inl (mi_get 7 20 85)), (85, .inl (mi_push (.int 0) 86)), (86, .inl (mi_iald 87)), (87, .inr (.inl 1)), (88, .inl (mi_ald 0 89)), (89, .inl (mi_get 7 26 92)), (92, .inr (.inl 1)), (93, .inl (mi_push (.int (-102)) 95)), (95, .inr (.inl 1))]
def m_X7_about : mD := (yX7_about, cX7_about, 2, (some .int), [], t_X7_about)
def t_L_node : mT := [(0, .inl (mi_ald 3 1)), (1, .inl (mi_push (.int 0) 2)), (2, .inl (mi_ald 0 3)), (3, .inl (mi_ild 1 4)), (4, .inl (mi_ild 2 5)), (5, .inr (.inr (.inl (80, 3, some 6, [("java/lang/ArrayIndexOutOfBoundsException", 1)])))), (8, .inl (mi_il 9)), (9, .inl (mi_last 10)), (10, .inl (mi_go 17)), (13, .inl (mi_ast 4 15)), (15, .inl (mi_push (.int 1) 16)), (16, .inr (.inl 1)), (17, .inl (mi_push (.int 0) 18)), (18, .inr (.inl 1))]
def m_L_node : mD := (yL_node, cL_node, 5, (some .int), [(0, 10, 13, 13)], t_L_node)
def t_L_head : mT := [(0, .inl (mi_ald 3 1)), (1, .inl (mi_push (.int 0) 2)), (2, .inl (mi_ald 0 3)), (3, .inl (mi_ild 1 4)), (4, .inl (mi_ild 2 5)), (5, .inr (.inr (.inl (83, 3, some 6, [("java/lang/ArrayIndexOutOfBoundsException", 1)])))), (8, .inl (mi_il 9)), (9, .inl (mi_last 10)), (10, .inl (mi_go 17)), (13, .inl (mi_ast 4 15)), (15, .inl (mi_push (.int 1) 16)), (16, .inr (.inl 1)), (17, .inl (mi_push (.int 0) 18)), (18, .inr (.inl 1))]
def m_L_head : mD := (yL_head, cL_head, 5, (some .int), [(0, 10, 13, 13)], t_L_head)
def t_L_value : mT := [(0, .inl (mi_ald 3 1)), (1, .inl (mi_push (.int 0) 2)), (2, .inl (mi_ald 0 3)), (3, .inl (mi_ild 1 4)), (4, .inl (mi_ild 2 5)), (5, .inr (.inr (.inl (84, 3, some 6, [("java/lang/NullPointerException", 1), ("java/lang/ClassCastException", 2)])))), (8, .inl (mi_il 9)), (9, .inl (mi_last 10)), (10, .inl (mi_go 21)), (13, .inl (mi_ast 4 15)), (15, .inl (mi_push (.int 1) 16)), (16, .inr (.inl 1)), (17, .inl (mi_ast 4 19)), (19, .inl (mi_push (.int 2) 20)), (20, .inr (.inl 1)), (21, .inl (mi_push (.int 0) 22)), (22, .inr (.inl 1))]
def m_L_value : mD := (yL_value, cL_value, 5, (some .int), [(0, 10, 13, 21), (0, 10, 17, 23)], t_L_value)
def t_L_sign : mT := [(0, .inl (mi_ald 4 2)), (2, .inl (mi_push (.int 0) 3)), (3, .inl (mi_ald 0 4)), (4, .inl (mi_ild 1 5)), (5, .inl (mi_ild 2 6)), (6, .inl (mi_ild 3 7)), (7, .inr (.inr (.inl (85, 4, some 6, [("java/lang/NullPointerException", 1), ("java/lang/ClassCastException", 2), ("java/lang/ArrayIndexOutOfBoundsException", 3)])))), (10, .inl (mi_il 11)), (11, .inl (mi_last 12)), (12, .inl (mi_go 27)), (15, .inl (mi_ast 5 17)), (17, .inl (mi_push (.int 1) 18)), (18, .inr (.inl 1)), (19, .inl (mi_ast 5 21)), (21, .inl (mi_push (.int 2) 22)), (22, .inr (.inl 1)), (23, .inl (mi_ast 5 25)), (25, .inl (mi_push (.int 3) 26)), (26, .inr (.inl 1)), (27, .inl (mi_push (.int 0) 28)), (28, .inr (.inl 1))]
def m_L_sign : mD := (yL_sign, cL_sign, 6, (some .int), [(0, 12, 15, 21), (0, 12, 19, 23), (0, 12, 23, 13)], t_L_sign)
def t_L_comment : mT := [(0, .inl (mi_ald 3 1)), (1, .inl (mi_push (.int 0) 2)), (2, .inl (mi_ald 0 3)), (3, .inl (mi_ild 1 4)), (4, .inl (mi_ild 2 5)), (5, .inr (.inr (.inl (86, 3, some 6, [("java/lang/ArrayIndexOutOfBoundsException", 1)])))), (8, .inl (mi_il 9)), (9, .inl (mi_last 10)), (10, .inl (mi_go 17)), (13, .inl (mi_ast 4 15)), (15, .inl (mi_push (.int 1) 16)), (16, .inr (.inl 1)), (17, .inl (mi_push (.int 0) 18)), (18, .inr (.inl 1))]
def m_L_comment : mD := (yL_comment, cL_comment, 5, (some .int), [(0, 10, 13, 13)], t_L_comment)
def t_L_out : mT := [(0, .inl (mi_ald 2 1)), (1, .inl (mi_push (.int 0) 2)), (2, .inl (mi_ald 0 3)), (3, .inl (mi_ild 1 4)), (4, .inr (.inr (.inl (88, 2, some 6, [("java/lang/ArrayIndexOutOfBoundsException", 1)])))), (7, .inl (mi_il 8)), (8, .inl (mi_last 9)), (9, .inl (mi_go 15)), (12, .inl (mi_ast 3 13)), (13, .inl (mi_push (.int 1) 14)), (14, .inr (.inl 1)), (15, .inl (mi_push (.int 0) 16)), (16, .inr (.inl 1))]
def m_L_out : mD := (yL_out, cL_out, 4, (some .int), [(0, 9, 12, 13)], t_L_out)
def t_L_law : mT := [(0, .inl (mi_new 6 [.null, .null, .null, .null, .null, .null, .int 0, .int 0] 3)), (3, .inl (mi_dup 4)), (4, .inr (.inr (.inl (74, 1, some 6, [])))), (7, .inl (mi_ast 1 8)), (8, .inl (mi_new 7 [.int 0, .null, .int 0, .int 0, .int 0, .int 0, .int 0, .null, .null, .null, .null, .null, .null, .null, .null, .null, .null, .null, .null, .null, .null, .null, .null, .null, .null, .null, .int 0, .int 0, .int 0, .int 0, .int 0, .int 0, .null, .int 0, .int 0, .int 0, .null, .null, .int 0, .null, .null, .null] 11)), (11, .inl (mi_dup 12)), (12, .inr (.inr (.inl (94, 1, some 7, [])))), (15, .inl (mi_ast 2 16)), (16, .inl (mi_push (.int 1) 17)), (17, .inl (mi_newL 19)), (19, .inl (mi_ast 3 20)), (20, .inl (mi_push (.int 0) 21)), (21, .inl (mi_ist 4 23)), (23, .inl (mi_ild 4 25)), (25, .inl (mi_ald 0 26)), (26, .inl (mi_alen 27)), (27, .inl (mi_push (.int 4) 28)), (28, .inl (mi_i2 (fun x y => x - y) 29)), (29, .inl (mi_b2 (fun x y => decide (y < x)) 771 32)), (32, .inl (mi_ald 0 33)), (33, .inl (mi_ild 4 35)), (35, .inl (mi_iald 36)), (36, .inl (mi_push (.int 15) 38)), (38, .inl (mi_i2 (fun x y => x &&& y) 39)), (39, .inl (mi_sw (mi_tab 0 14 [112, 181, 194, 219, 244, 257, 325, 362, 387, 455, 523, 603, 671, 684, 740] 765))), (112, .inl (mi_ald 1 113)), (113, .inl (mi_ald 0 114)), (114, .inl (mi_ild 4 116)), (116, .inl (mi_push (.int 1) 117)), (117, .inl (mi_i2 (fun x y => x + y) 118)), (118, .inl (mi_iald 119)), (119, .inl (mi_ald 0 120)), (120, .inl (mi_ild 4 122)), (122, .inl (mi_push (.int 2) 123)), (123, .inl (mi_i2 (fun x y => x + y) 124)), (124, .inl (mi_iald 125)), (125, .inl (mi_il 126)), (126, .inl (mi_push (.int 32) 128)), (128, .inl (mi_ls mi_sshl 129)), (129, .inl (mi_ald 0 130)), (130, .inl (mi_ild 4 132)), (132, .inl (mi_push (.int 3) 133)), (133, .inl (mi_i2 (fun x y => x + y) 134)), (134, .inl (mi_iald 135)), (135, .inl (mi_il 136)), (136, .inl (mi_push (.long (4294967295)) 139)), (139, .inl (mi_l2 (fun x y => x &&& y) 140)), (140, .inl (mi_l2 (fun x y => x ||| y) 141)), (141, .inr (.inr (.inl (75, 3, some 6, [])))), (144, .inl (mi_ald 2 145)), (145, .inl (mi_ald 0 146)), (146, .inl (mi_ild 4 148)), (148, .inl (mi_push (.int 1) 149)), (149, .inl (mi_i2 (fun x y => x + y) 150)), (150, .inl (mi_iald 151)), (151, .inl (mi_ald 0 152)), (152, .inl (mi_ild 4 154)), (154, .inl (mi_push (.int 2) 155)), (155, .inl (mi_i2 (fun x y => x + y) 156)), (156, .inl (mi_iald 157)), (157, .inl (mi_il 158)), (158, .inl (mi_push (.int 32) 160)), (160, .inl (mi_ls mi_sshl 161)), (161, .inl (mi_ald 0 162)), (162, .inl (mi_ild 4 164)), (164, .inl (mi_push (.int 3) 165)), (165, .inl (mi_i2 (fun x y => x + y) 166)), (166, .inl (mi_iald 167)), (167, .inl (mi_il 168)), (168, .inl (mi_push (.long (4294967295)) 171)), (171, .inl (mi_l2 (fun x y => x &&& y) 172)), (172, .inl (mi_l2 (fun x y => x ||| y) 173)), (173, .inr (.inr (.inl (97, 3, some 7, [])))), (176, .inl (mi_b2 (fun x y => decide (x = y)) 765 179)), (179, .inl (mi_push (.int 0) 180)), (180, .inr (.inl 2)), (181, .inl (mi_ald 1 182)), (182, .inr (.inr (.inl (76, 1, some 6, [])))), (185, .inl (mi_ald 2 186)), (186, .inr (.inr (.inl (127, 1, some 7, [])))), (189, .inl (mi_b2 (fun x y => decide (x = y)) 765 192)), (192, .inl (mi_push (.int 0) 193)), (193, .inr (.inl 2)), (194, .inl (mi_ald 1 195)), (195, .inl (mi_ald 0 196)), (196, .inl (mi_ild 4 198)), (198, .inl (mi_push (.int 1) 199)), (199, .inl (mi_i2 (fun x y => x + y) 200)), (200, .inl (mi_iald 201)), (201, .inr (.inr (.inl (77, 2, some 6, [])))), (204, .inl (mi_ald 2 205)), (205, .inl (mi_ald 0 206)), (206, .inl (mi_ild 4 208)), (208, .inl (mi_push (.int 1) 209)), (209, .inl (mi_i2 (fun x y => x + y) 210)), (210, .inl (mi_iald 211)), (211, .inr (.inr (.inl (129, 2, some 7, [])))), (214, .inl (mi_b2 (fun x y => decide (x = y)) 765 217)), (217, .inl (mi_push (.int 0) 218)), (218, .inr (.inl 2)), (219, .inl (mi_ald 1 220)), (220, .inl (mi_ald 0 221)), (221, .inl (mi_ild 4 223)), (223, .inl (mi_push (.int 1) 224)), (224, .inl (mi_i2 (fun x y => x + y) 225)), (225, .inl (mi_iald 226)), (226, .inr (.inr (.inl (78, 2, some 6, [])))), (229, .inl (mi_ald 2 230)), (230, .inl (mi_ald 0 231)), (231, .inl (mi_ild 4 233)), (233, .inl (mi_push (.int 1) 234)), (234, .inl (mi_i2 (fun x y => x + y) 235)), (235, .inl (mi_iald 236)), (236, .inr (.inr (.inl (130, 2, some 7, [])))), (239, .inl (mi_b2 (fun x y => decide (x = y)) 765 242)), (242, .inl (mi_push (.int 0) 243)), (243, .inr (.inl 2)), (244, .inl (mi_ald 1 245)), (245, .inr (.inr (.inl (79, 1, some 6, [])))), (248, .inl (mi_ald 2 249)), (249, .inr (.inr (.inl (131, 1, some 7, [])))), (252, .inl (mi_b2 (fun x y => decide (x = y)) 765 255)), (255, .inl (mi_push (.int 0) 256)), (256, .inr (.inl 2)), (257, .inl (mi_ald 1 258)), (258, .inl (mi_ald 0 259)), (259, .inl (mi_ild 4 261)), (261, .inl (mi_push (.int 1) 262)), (262, .inl (mi_i2 (fun x y => x + y) 263)), (263, .inl (mi_iald 264)), (264, .inl (mi_ald 0 265)), (265, .inl (mi_ild 4 267)), (267, .inl (mi_push (.int 2) 268)), (268, .inl (mi_i2 (fun x y => x + y) 269)), (269, .inl (mi_iald 270)), (270, .inl (mi_ald 3 271)), (271, .inr (.inr (.inl (148, 4, none, [])))), (274, .inl (mi_ist 5 276)), (276, .inl (mi_ald 2 277)), (277, .inl (mi_ald 0 278)), (278, .inl (mi_ild 4 280)), (280, .inl (mi_push (.int 1) 281)), (281, .inl (mi_i2 (fun x y => x + y) 282)), (282, .inl (mi_iald 283)), (283, .inl (mi_ald 0 284)), (284, .inl (mi_ild 4 286)), (286, .inl (mi_push (.int 2) 287)), (287, .inl (mi_i2 (fun x y => x + y) 288)), (288, .inl (mi_iald 289)), (289, .inr (.inr (.inl (132, 3, some 7, [])))), (292, .inl (mi_ist 6 294)), (294, .inl (mi_ald 2 295)), (295, .inr (.inr (.inl (95, 1, some 7, [])))), (298, .inl (mi_ild 5 300)), (300, .inl (mi_b2 (fun x y => decide (x = y)) 305 303)), (303, .inl (mi_push (.int 0) 304)), (304, .inr (.inl 2)), (305, .inl (mi_ild 5 307)), (307, .inl (mi_b1 (fun x => decide (¬ x = 0)) 322 310)), (310, .inl (mi_ald 3 311)), (311, .inl (mi_push (.int 0) 312)), (312, .inl (mi_lald 313)), (313, .inl (mi_ild 6 315)), (315, .inl (mi_il 316)), (316, .inl (mi_lc 317)), (317, .inl (mi_b1 (fun x => decide (x = 0)) 322 320)), (320, .inl (mi_push (.int 0) 321)), (321, .inr (.inl 2)), (322, .inl (mi_go 765)), (325, .inl (mi_ald 1 326)), (326, .inl (mi_ald 0 327)), (327, .inl (mi_ild 4 329)), (329, .inl (mi_push (.int 1) 330)), (330, .inl (mi_i2 (fun x y => x + y) 331)), (331, .inl (mi_iald 332)), (332, .inl (mi_ald 0 333)), (333, .inl (mi_ild 4 335)), (335, .inl (mi_push (.int 2) 336)), (336, .inl (mi_i2 (fun x y => x + y) 337)), (337, .inl (mi_iald 338)), (338, .inr (.inr (.inl (81, 3, some 6, [])))), (341, .inl (mi_ald 2 342)), (342, .inl (mi_ald 0 343)), (343, .inl (mi_ild 4 345)), (345, .inl (mi_push (.int 1) 346)), (346, .inl (mi_i2 (fun x y => x + y) 347)), (347, .inl (mi_iald 348)), (348, .inl (mi_ald 0 349)), (349, .inl (mi_ild 4 351)), (351, .inl (mi_push (.int 2) 352)), (352, .inl (mi_i2 (fun x y => x + y) 353)), (353, .inl (mi_iald 354)), (354, .inr (.inr (.inl (133, 3, some 7, [])))), (357, .inl (mi_b2 (fun x y => decide (x = y)) 765 360)), (360, .inl (mi_push (.int 0) 361)), (361, .inr (.inl 2)), (362, .inl (mi_ald 1 363)), (363, .inl (mi_ald 0 364)), (364, .inl (mi_ild 4 366)), (366, .inl (mi_push (.int 1) 367)), (367, .inl (mi_i2 (fun x y => x + y) 368)), (368, .inl (mi_iald 369)), (369, .inr (.inr (.inl (82, 2, some 6, [])))), (372, .inl (mi_ald 2 373)), (373, .inl (mi_ald 0 374)), (374, .inl (mi_ild 4 376)), (376, .inl (mi_push (.int 1) 377)), (377, .inl (mi_i2 (fun x y => x + y) 378)), (378, .inl (mi_iald 379)), (379, .inr (.inr (.inl (135, 2, some 7, [])))), (382, .inl (mi_b2 (fun x y => decide (x = y)) 765 385)), (385, .inl (mi_push (.int 0) 386)), (386, .inr (.inl 2)), (387, .inl (mi_ald 1 388)), (388, .inl (mi_ald 0 389)), (389, .inl (mi_ild 4 391)), (391, .inl (mi_push (.int 1) 392)), (392, .inl (mi_i2 (fun x y => x + y) 393)), (393, .inl (mi_iald 394)), (394, .inl (mi_ald 0 395)), (395, .inl (mi_ild 4 397)), (397, .inl (mi_push (.int 2) 398)), (398, .inl (mi_i2 (fun x y => x + y) 399)), (399, .inl (mi_iald 400)), (400, .inl (mi_ald 3 401)), (401, .inr (.inr (.inl (149, 4, none, [])))), (404, .inl (mi_ist 5 406)), (406, .inl (mi_ald 2 407)), (407, .inl (mi_ald 0 408)), (408, .inl (mi_ild 4 410)), (410, .inl (mi_push (.int 1) 411)), (411, .inl (mi_i2 (fun x y => x + y) 412)), (412, .inl (mi_iald 413)), (413, .inl (mi_ald 0 414)), (414, .inl (mi_ild 4 416)), (416, .inl (mi_push (.int 2) 417)), (417, .inl (mi_i2 (fun x y => x + y) 418)), (418, .inl (mi_iald 419)), (419, .inr (.inr (.inl (136, 3, some 7, [])))), (422, .inl (mi_ist 6 424)), (424, .inl (mi_ald 2 425)), (425, .inr (.inr (.inl (95, 1, some 7, [])))), (428, .inl (mi_ild 5 430)), (430, .inl (mi_b2 (fun x y => decide (x = y)) 435 433)), (433, .inl (mi_push (.int 0) 434)), (434, .inr (.inl 2)), (435, .inl (mi_ild 5 437)), (437, .inl (mi_b1 (fun x => decide (¬ x = 0)) 452 440)), (440, .inl (mi_ald 3 441)), (441, .inl (mi_push (.int 0) 442)), (442, .inl (mi_lald 443)), (443, .inl (mi_ild 6 445)), (445, .inl (mi_il 446)), (446, .inl (mi_lc 447)), (447, .inl (mi_b1 (fun x => decide (x = 0)) 452 450)), (450, .inl (mi_push (.int 0) 451)), (451, .inr (.inl 2)), (452, .inl (mi_go 765)), (455, .inl (mi_ald 1 456)), (456, .inl (mi_ald 0 457)), (457, .inl (mi_ild 4 459)), (459, .inl (mi_push (.int 1) 460)), (460, .inl (mi_i2 (fun x y => x + y) 461)), (461, .inl (mi_iald 462)), (462, .inl (mi_ald 0 463)), (463, .inl (mi_ild 4 465)), (465, .inl (mi_push (.int 2) 466)), (466, .inl (mi_i2 (fun x y => x + y) 467)), (467, .inl (mi_iald 468)), (468, .inl (mi_ald 3 469)), (469, .inr (.inr (.inl (150, 4, none, [])))), (472, .inl (mi_ist 5 474)), (474, .inl (mi_ald 2 475)), (475, .inl (mi_ald 0 476)), (476, .inl (mi_ild 4 478)), (478, .inl (mi_push (.int 1) 479)), (479, .inl (mi_i2 (fun x y => x + y) 480)), (480, .inl (mi_iald 481)), (481, .inl (mi_ald 0 482)), (482, .inl (mi_ild 4 484)), (484, .inl (mi_push (.int 2) 485)), (485, .inl (mi_i2 (fun x y => x + y) 486)), (486, .inl (mi_iald 487)), (487, .inr (.inr (.inl (137, 3, some 7, [])))), (490, .inl (mi_ist 6 492)), (492, .inl (mi_ald 2 493)), (493, .inr (.inr (.inl (95, 1, some 7, [])))), (496, .inl (mi_ild 5 498)), (498, .inl (mi_b2 (fun x y => decide (x = y)) 503 501)), (501, .inl (mi_push (.int 0) 502)), (502, .inr (.inl 2)), (503, .inl (mi_ild 5 505)), (505, .inl (mi_b1 (fun x => decide (¬ x = 0)) 520 508)), (508, .inl (mi_ald 3 509)), (509, .inl (mi_push (.int 0) 510)), (510, .inl (mi_lald 511)), (511, .inl (mi_ild 6 513)), (513, .inl (mi_il 514)), (514, .inl (mi_lc 515)), (515, .inl (mi_b1 (fun x => decide (x = 0)) 520 518)), (518, .inl (mi_push (.int 0) 519)), (519, .inr (.inl 2)), (520, .inl (mi_go 765)), (523, .inl (mi_ald 1 524)), (524, .inl (mi_ald 0 525)), (525, .inl (mi_ild 4 527)), (527, .inl (mi_push (.int 1) 528)), (528, .inl (mi_i2 (fun x y => x + y) 529)), (529, .inl (mi_iald 530)), (530, .inl (mi_ald 0 531)), (531, .inl (mi_ild 4 533)), (533, .inl (mi_push (.int 2) 534)), (534, .inl (mi_i2 (fun x y => x + y) 535)), (535, .inl (mi_iald 536)), (536, .inl (mi_ald 0 537)), (537, .inl (mi_ild 4 539)), (539, .inl (mi_push (.int 3) 540)), (540, .inl (mi_i2 (fun x y => x + y) 541)), (541, .inl (mi_iald 542)), (542, .inl (mi_ald 3 543)), (543, .inr (.inr (.inl (151, 5, none, [])))), (546, .inl (mi_ist 5 548)), (548, .inl (mi_ald 2 549)), (549, .inl (mi_ald 0 550)), (550, .inl (mi_ild 4 552)), (552, .inl (mi_push (.int 1) 553)), (553, .inl (mi_i2 (fun x y => x + y) 554)), (554, .inl (mi_iald 555)), (555, .inl (mi_ald 0 556)), (556, .inl (mi_ild 4 558)), (558, .inl (mi_push (.int 2) 559)), (559, .inl (mi_i2 (fun x y => x + y) 560)), (560, .inl (mi_iald 561)), (561, .inl (mi_ald 0 562)), (562, .inl (mi_ild 4 564)), (564, .inl (mi_push (.int 3) 565)), (565, .inl (mi_i2 (fun x y => x + y) 566)), (566, .inl (mi_iald 567)), (567, .inr (.inr (.inl (138, 4, some 7, [])))), (570, .inl (mi_ist 6 572)), (572, .inl (mi_ald 2 573)), (573, .inr (.inr (.inl (95, 1, some 7, [])))), (576, .inl (mi_ild 5 578)), (578, .inl (mi_b2 (fun x y => decide (x = y)) 583 581)), (581, .inl (mi_push (.int 0) 582)), (582, .inr (.inl 2)), (583, .inl (mi_ild 5 585)), (585, .inl (mi_b1 (fun x => decide (¬ x = 0)) 600 588)), (588, .inl (mi_ald 3 589)), (589, .inl (mi_push (.int 0) 590)), (590, .inl (mi_lald 591)), (591, .inl (mi_ild 6 593)), (593, .inl (mi_il 594)), (594, .inl (mi_lc 595)), (595, .inl (mi_b1 (fun x => decide (x = 0)) 600 598)), (598, .inl (mi_push (.int 0) 599)), (599, .inr (.inl 2)), (600, .inl (mi_go 765)), (603, .inl (mi_ald 1 604)), (604, .inl (mi_ald 0 605)), (605, .inl (mi_ild 4 607)), (607, .inl (mi_push (.int 1) 608)), (608, .inl (mi_i2 (fun x y => x + y) 609)), (609, .inl (mi_iald 610)), (610, .inl (mi_ald 0 611)), (611, .inl (mi_ild 4 613)), (613, .inl (mi_push (.int 2) 614)), (614, .inl (mi_i2 (fun x y => x + y) 615)), (615, .inl (mi_iald 616)), (616, .inl (mi_ald 3 617)), (617, .inr (.inr (.inl (152, 4, none, [])))), (620, .inl (mi_ist 5 622)), (622, .inl (mi_ald 2 623)), (623, .inl (mi_ald 0 624)), (624, .inl (mi_ild 4 626)), (626, .inl (mi_push (.int 1) 627)), (627, .inl (mi_i2 (fun x y => x + y) 628)), (628, .inl (mi_iald 629)), (629, .inl (mi_ald 0 630)), (630, .inl (mi_ild 4 632)), (632, .inl (mi_push (.int 2) 633)), (633, .inl (mi_i2 (fun x y => x + y) 634)), (634, .inl (mi_iald 635)), (635, .inr (.inr (.inl (139, 3, some 7, [])))), (638, .inl (mi_ist 6 640)), (640, .inl (mi_ald 2 641)), (641, .inr (.inr (.inl (95, 1, some 7, [])))), (644, .inl (mi_ild 5 646)), (646, .inl (mi_b2 (fun x y => decide (x = y)) 651 649)), (649, .inl (mi_push (.int 0) 650)), (650, .inr (.inl 2)), (651, .inl (mi_ild 5 653)), (653, .inl (mi_b1 (fun x => decide (¬ x = 0)) 668 656)), (656, .inl (mi_ald 3 657)), (657, .inl (mi_push (.int 0) 658)), (658, .inl (mi_lald 659)), (659, .inl (mi_ild 6 661)), (661, .inl (mi_il 662)), (662, .inl (mi_lc 663)), (663, .inl (mi_b1 (fun x => decide (x = 0)) 668 666)), (666, .inl (mi_push (.int 0) 667)), (667, .inr (.inl 2)), (668, .inl (mi_go 765)), (671, .inl (mi_ald 1 672)), (672, .inr (.inr (.inl (87, 1, some 6, [])))), (675, .inl (mi_ald 2 676)), (676, .inr (.inr (.inl (145, 1, some 7, [])))), (679, .inl (mi_b2 (fun x y => decide (x = y)) 765 682)), (682, .inl (mi_push (.int 0) 683)), (683, .inr (.inl 2)), (684, .inl (mi_ald 1 685)), (685, .inl (mi_ald 0 686)), (686, .inl (mi_ild 4 688)), (688, .inl (mi_push (.int 1) 689)), (689, .inl (mi_i2 (fun x y => x + y) 690)), (690, .inl (mi_iald 691)), (691, .inl (mi_ald 3 692)), (692, .inr (.inr (.inl (153, 3, none, [])))), (695, .inl (mi_ist 5 697)), (697, .inl (mi_ald 2 698)), (698, .inl (mi_ald 0 699)), (699, .inl (mi_ild 4 701)), (701, .inl (mi_push (.int 1) 702)), (702, .inl (mi_i2 (fun x y => x + y) 703)), (703, .inl (mi_iald 704)), (704, .inr (.inr (.inl (146, 2, some 7, [])))), (707, .inl (mi_ist 6 709)), (709, .inl (mi_ald 2 710)), (710, .inr (.inr (.inl (95, 1, some 7, [])))), (713, .inl (mi_ild 5 715)), (715, .inl (mi_b2 (fun x y => decide (x = y)) 720 718)), (718, .inl (mi_push (.int 0) 719)), (719, .inr (.inl 2)), (720, .inl (mi_ild 5 722)), (722, .inl (mi_b1 (fun x => decide (¬ x = 0)) 737 725)), (725, .inl (mi_ald 3 726)), (726, .inl (mi_push (.int 0) 727)), (727, .inl (mi_lald 728)), (728, .inl (mi_ild 6 730)), (730, .inl (mi_il 731)), (731, .inl (mi_lc 732)), (732, .inl (mi_b1 (fun x => decide (x = 0)) 737 735)), (735, .inl (mi_push (.int 0) 736)), (736, .inr (.inl 2)), (737, .inl (mi_go 765)), (740, .inl (mi_ald 1 741)), (741, .inl (mi_ald 0 742)), (742, .inl (mi_ild 4 744)), (744, .inl (mi_push (.int 1) 745)), (745, .inl (mi_i2 (fun x y => x + y) 746)), (746, .inl (mi_iald 747)), (747, .inr (.inr (.inl (89, 2, some 6, [])))), (750, .inl (mi_ald 2 751)), (751, .inl (mi_ald 0 752)), (752, .inl (mi_ild 4 754)), (754, .inl (mi_push (.int 1) 755)), (755, .inl (mi_i2 (fun x y => x + y) 756)), (756, .inl (mi_iald 757)), (757, .inr (.inr (.inl (147, 2, some 7, [])))), (760, .inl (mi_b2 (fun x y => decide (x = y)) 765 763)), (763, .inl (mi_push (.int 0) 764)), (764, .inr (.inl 2)), (765, .inl (mi_inc 4 4 768)), (768, .inl (mi_go 23)), (771, .inl (mi_push (.int 1) 772)), (772, .inr (.inl 2))]
def mi_ms : List mD := [m_X0_init, m_X0_start, m_X0_hasLine, m_X0_nextLine, m_X0_step, m_X0_skipBlanks, m_X0_isWordEnd, m_X0_placeOf, m_X0_wrong, m_X0_wrongElsewhere, m_X1_init, m_X1_clear, m_X1_arcCount, m_X1_hasValue, m_X1_roomOf, m_X1_missingOf, m_X1_hasArc, m_X1_addArc, m_X1_addValue, m_X1_leaveArcOut, m_X1_settleKinds, m_X1_guessKind, m_X2_init, m_X2_readText, m_X2_countIsTrue, m_X2_readLine, m_X2_readComment, m_X2_readCount, m_X2_readNumber, m_X2_readHead, m_X2_kindOfLetter, m_X2_readEnds, m_X2_endArc, m_X2_takeNode, m_X2_readValues, m_X2_readValue, m_X2_readFigures, m_X2_readFraction, m_X2_readGuessed, m_X2_figuresOnly, m_X2_thousandthsRead, m_X2_readName, m_X2_readPlain, m_X2_readQuoted, m_X2_readGap, m_X2_readLineEnd, m_X3_init, m_X3_clear, m_X3_cut, m_X3_add, m_X3_put, m_X3_has, m_X3_at, m_X4_init, m_X4_clear, m_X4_cut, m_X4_add, m_X4_has, m_X4_lengthOf, m_X4_signAt, m_X4_indexOf, m_X4_isSame, m_X4_isPlainName, m_X5_init, m_X5_writeGraph, m_X5_writeComment, m_X5_writeCount, m_X5_writeHead, m_X5_letterOfKind, m_X5_writeArc, m_X5_writeValue, m_X5_writeName, m_X5_writeThousandths, m_X5_writeWhole, m_X6_init, m_X6_feed, m_X6_read, m_X6_fault, m_X6_manner, m_X6_find, m_X6_node, m_X6_arc, m_X6_kind, m_X6_head, m_X6_value, m_X6_sign, m_X6_comment, m_X6_print, m_X6_out, m_X6_about, m_X6_signOfSpan, m_X6_isFigure, m_X6_isPlain, m_X6_isPrintable, m_X7_init, m_X7_thrown, m_X7_in, m_X7_feed, m_X7_here, m_X7_wrong, m_X7_isFigure, m_X7_isPlain, m_X7_blanks, m_X7_ended, m_X7_sign, m_X7_readName, m_X7_readQuoted, m_X7_readNumber, m_X7_readDecimals, m_X7_plainSort, m_X7_readPlainDecimal, m_X7_readValue, m_X7_readAny, m_X7_isSame, m_X7_layName, m_X7_laySort, m_X7_readComment, m_X7_readCount, m_X7_readHead, m_X7_nodeOf, m_X7_isDoubled, m_X7_readArc, m_X7_layArc, m_X7_readLine, m_X7_guessKinds, m_X7_takeOver, m_X7_takeRow, m_X7_read, m_X7_lie, m_X7_fault, m_X7_manner, m_X7_find, m_X7_node, m_X7_arc, m_X7_isColumn, m_X7_kind, m_X7_head, m_X7_value, m_X7_sign_, m_X7_comment, m_X7_put, m_X7_putName, m_X7_putWhole, m_X7_putNumber, m_X7_putArc, m_X7_print, m_X7_out, m_X7_about, m_L_node, m_L_head, m_L_value, m_L_sign, m_L_comment, m_L_out]
end MI8
end
section
section MI9
theorem mi_gd0 {w : Cond} (N : Nat) (h : (k2_sels lw_privs)[N]? = some w) (hg : goodWord w = true) : w ∈ mi_good := List.mem_filter.mpr ⟨List.mem_append_left _ (List.mem_of_getElem? h), hg⟩
theorem mi_in1 {w : Cond} (h : w ∈ tables_1_1) : w ∈ lw_tbl := List.mem_append_right _ (List.mem_append_left _ h)
theorem mi_gd1 {w : Cond} (N : Nat) (h : tables_1_1[N]? = some w) (hg : goodWord w = true) : w ∈ mi_good := List.mem_filter.mpr ⟨mi_in1 (List.mem_of_getElem? h), hg⟩
theorem mi_nd1 {w : Cond} (N : Nat) (h : tables_1_1[N]? = some w) (hg : mi_isNest w = true) : w ∈ mi_nw := List.mem_filter.mpr ⟨mi_in1 (List.mem_of_getElem? h), hg⟩
theorem mi_in2 {w : Cond} (h : w ∈ tables_1_2) : w ∈ lw_tbl := List.mem_append_right _ (List.mem_append_right _ (List.mem_append_left _ h))
theorem mi_gd2 {w : Cond} (N : Nat) (h : tables_1_2[N]? = some w) (hg : goodWord w = true) : w ∈ mi_good := List.mem_filter.mpr ⟨mi_in2 (List.mem_of_getElem? h), hg⟩
theorem mi_nd2 {w : Cond} (N : Nat) (h : tables_1_2[N]? = some w) (hg : mi_isNest w = true) : w ∈ mi_nw := List.mem_filter.mpr ⟨mi_in2 (List.mem_of_getElem? h), hg⟩
theorem mi_in3 {w : Cond} (h : w ∈ tables_1_3) : w ∈ lw_tbl := List.mem_append_right _ (List.mem_append_right _ (List.mem_append_right _ (List.mem_append_left _ h)))
theorem mi_gd3 {w : Cond} (N : Nat) (h : tables_1_3[N]? = some w) (hg : goodWord w = true) : w ∈ mi_good := List.mem_filter.mpr ⟨mi_in3 (List.mem_of_getElem? h), hg⟩
theorem mi_nd3 {w : Cond} (N : Nat) (h : tables_1_3[N]? = some w) (hg : mi_isNest w = true) : w ∈ mi_nw := List.mem_filter.mpr ⟨mi_in3 (List.mem_of_getElem? h), hg⟩
theorem mi_in4 {w : Cond} (h : w ∈ tables_1_4) : w ∈ lw_tbl := List.mem_append_right _ (List.mem_append_right _ (List.mem_append_right _ (List.mem_append_right _ (List.mem_append_left _ h))))
theorem mi_gd4 {w : Cond} (N : Nat) (h : tables_1_4[N]? = some w) (hg : goodWord w = true) : w ∈ mi_good := List.mem_filter.mpr ⟨mi_in4 (List.mem_of_getElem? h), hg⟩
theorem mi_nd4 {w : Cond} (N : Nat) (h : tables_1_4[N]? = some w) (hg : mi_isNest w = true) : w ∈ mi_nw := List.mem_filter.mpr ⟨mi_in4 (List.mem_of_getElem? h), hg⟩
theorem mi_in5 {w : Cond} (h : w ∈ tables_1_5) : w ∈ lw_tbl := List.mem_append_right _ (List.mem_append_right _ (List.mem_append_right _ (List.mem_append_right _ (List.mem_append_right _ (h)))))
theorem mi_gd5 {w : Cond} (N : Nat) (h : tables_1_5[N]? = some w) (hg : goodWord w = true) : w ∈ mi_good := List.mem_filter.mpr ⟨mi_in5 (List.mem_of_getElem? h), hg⟩
theorem mi_nd5 {w : Cond} (N : Nat) (h : tables_1_5[N]? = some w) (hg : mi_isNest w = true) : w ∈ mi_nw := List.mem_filter.mpr ⟨mi_in5 (List.mem_of_getElem? h), hg⟩
theorem mi_lookx (pc : Nat) (d0 : Int) (dt : Nat) (x : Int32) (hd : (pc : Int) + d0 = dt) : ∀ (ps : List (Int × Int)) (ts : List (Int × Nat)), ps.map (fun q => (q.1, (pc : Int) + q.2)) = ts.map (fun q => (q.1, (q.2 : Int))) → (pc : Int) + Op.lookupswitch.offset ps d0 x.toInt = (mi_look ts dt x : Int)
  | [], [], _ => hd
  | [], _ :: _, h => by simp at h
  | _ :: _, [], h => by simp at h
  | (a, o) :: ps, (a2, o2) :: ts, h => by
    simp only [List.map_cons, List.cons.injEq, Prod.mk.injEq] at h
    obtain ⟨⟨h1, h2⟩, h3⟩ := h
    subst h1
    rw [Op.lookupswitch.offset_cons]
    unfold mi_look
    by_cases hc : a = x.toInt
    · rw [if_pos hc, if_pos hc.symm]; exact h2
    · rw [if_neg hc, if_neg (fun q => hc q.symm)]
      exact mi_lookx pc d0 dt x hd ps ts h3
theorem cf_X0 : mi_CF 0 RX0 TX0 8 tyX0 := ⟨rfl, by decide +kernel, tyX0_ok, nmX0⟩
theorem cf_X1 : mi_CF 1 RX1 TX1 15 tyX1 := ⟨rfl, by decide +kernel, tyX1_ok, nmX1⟩
theorem cf_X2 : mi_CF 2 RX2 TX2 16 tyX2 := ⟨rfl, by decide +kernel, tyX2_ok, nmX2⟩
theorem cf_X3 : mi_CF 3 RX3 TX3 2 tyX3 := ⟨rfl, by decide +kernel, tyX3_ok, nmX3⟩
theorem cf_X4 : mi_CF 4 RX4 TX4 4 tyX4 := ⟨rfl, by decide +kernel, tyX4_ok, nmX4⟩
theorem cf_X5 : mi_CF 5 RX5 TX5 1 tyX5 := ⟨rfl, by decide +kernel, tyX5_ok, nmX5⟩
theorem cf_X6 : mi_CF 6 RX6 TX6 8 tyX6 := ⟨rfl, by decide +kernel, tyX6_ok, nmX6⟩
theorem cf_X7 : mi_CF 7 RX7 TX7 42 tyX7 := ⟨rfl, by decide +kernel, tyX7_ok, nmX7⟩
set_option maxRecDepth 100000 in
theorem fl_X0_9 : mi_FL RX0 9 0 0 (.object "GraphTexts$Row") false := ⟨_, _, _, _, cf_X0, by decide, rfl, rfl, rfl, Or.inl (mi_gd1 181 rfl rfl)⟩
set_option maxRecDepth 100000 in
theorem fl_X0_15 : mi_FL RX0 15 0 1 .int false := ⟨_, _, _, _, cf_X0, by decide, rfl, rfl, rfl, Or.inl (mi_gd1 182 rfl rfl)⟩
set_option maxRecDepth 100000 in
theorem fl_X0_19 : mi_FL RX0 19 0 2 .int false := ⟨_, _, _, _, cf_X0, by decide, rfl, rfl, rfl, Or.inl (mi_gd1 184 rfl rfl)⟩
set_option maxRecDepth 100000 in
theorem fl_X0_22 : mi_FL RX0 22 0 3 .int false := ⟨_, _, _, _, cf_X0, by decide, rfl, rfl, rfl, Or.inl (mi_gd1 186 rfl rfl)⟩
set_option maxRecDepth 100000 in
theorem fl_X0_25 : mi_FL RX0 25 0 4 .int false := ⟨_, _, _, _, cf_X0, by decide, rfl, rfl, rfl, Or.inl (mi_gd1 188 rfl rfl)⟩
set_option maxRecDepth 100000 in
theorem fl_X0_28 : mi_FL RX0 28 0 5 .int false := ⟨_, _, _, _, cf_X0, by decide, rfl, rfl, rfl, Or.inl (mi_gd1 189 rfl rfl)⟩
set_option maxRecDepth 100000 in
theorem fl_X0_31 : mi_FL RX0 31 0 6 .int false := ⟨_, _, _, _, cf_X0, by decide, rfl, rfl, rfl, Or.inl (mi_gd1 191 rfl rfl)⟩
set_option maxRecDepth 100000 in
theorem fl_X0_34 : mi_FL RX0 34 0 7 .int false := ⟨_, _, _, _, cf_X0, by decide, rfl, rfl, rfl, Or.inl (mi_gd1 193 rfl rfl)⟩
set_option maxRecDepth 100000 in
theorem fl_X0_40 : mi_FL RX0 40 3 1 .int false := ⟨_, _, _, _, cf_X3, by decide, rfl, rfl, rfl, Or.inr ⟨"GraphTexts", (mi_nd1 41 rfl rfl)⟩⟩
set_option maxRecDepth 100000 in
theorem fl_X0_48 : mi_FL RX0 48 3 0 (.array .int) true := ⟨_, _, _, _, cf_X3, by decide, rfl, rfl, rfl, Or.inr ⟨"GraphTexts", (mi_nd1 36 rfl rfl)⟩⟩
set_option maxRecDepth 100000 in
theorem fl_X1_14 : mi_FL RX1 14 1 0 (.object "GraphTexts$Row") true := ⟨_, _, _, _, cf_X1, by decide, rfl, rfl, rfl, Or.inl (mi_gd1 92 rfl rfl)⟩
set_option maxRecDepth 100000 in
theorem fl_X1_25 : mi_FL RX1 25 1 1 (.object "GraphTexts$Spans") true := ⟨_, _, _, _, cf_X1, by decide, rfl, rfl, rfl, Or.inl (mi_gd1 94 rfl rfl)⟩
set_option maxRecDepth 100000 in
theorem fl_X1_29 : mi_FL RX1 29 1 2 (.object "GraphTexts$Spans") true := ⟨_, _, _, _, cf_X1, by decide, rfl, rfl, rfl, Or.inl (mi_gd1 98 rfl rfl)⟩
set_option maxRecDepth 100000 in
theorem fl_X1_32 : mi_FL RX1 32 1 3 (.object "GraphTexts$Spans") true := ⟨_, _, _, _, cf_X1, by decide, rfl, rfl, rfl, Or.inl (mi_gd1 102 rfl rfl)⟩
set_option maxRecDepth 100000 in
theorem fl_X1_35 : mi_FL RX1 35 1 4 (.object "GraphTexts$Row") true := ⟨_, _, _, _, cf_X1, by decide, rfl, rfl, rfl, Or.inl (mi_gd1 106 rfl rfl)⟩
set_option maxRecDepth 100000 in
theorem fl_X1_38 : mi_FL RX1 38 1 5 (.object "GraphTexts$Row") true := ⟨_, _, _, _, cf_X1, by decide, rfl, rfl, rfl, Or.inl (mi_gd1 110 rfl rfl)⟩
set_option maxRecDepth 100000 in
theorem fl_X1_41 : mi_FL RX1 41 1 6 (.object "GraphTexts$Row") true := ⟨_, _, _, _, cf_X1, by decide, rfl, rfl, rfl, Or.inl (mi_gd1 113 rfl rfl)⟩
set_option maxRecDepth 100000 in
theorem fl_X1_44 : mi_FL RX1 44 1 7 (.object "GraphTexts$Row") true := ⟨_, _, _, _, cf_X1, by decide, rfl, rfl, rfl, Or.inl (mi_gd1 116 rfl rfl)⟩
set_option maxRecDepth 100000 in
theorem fl_X1_47 : mi_FL RX1 47 1 8 (.object "GraphTexts$Spans") true := ⟨_, _, _, _, cf_X1, by decide, rfl, rfl, rfl, Or.inl (mi_gd1 118 rfl rfl)⟩
set_option maxRecDepth 100000 in
theorem fl_X1_50 : mi_FL RX1 50 1 9 (.object "GraphTexts$Row") true := ⟨_, _, _, _, cf_X1, by decide, rfl, rfl, rfl, Or.inl (mi_gd1 121 rfl rfl)⟩
set_option maxRecDepth 100000 in
theorem fl_X1_53 : mi_FL RX1 53 1 10 (.object "GraphTexts$Row") true := ⟨_, _, _, _, cf_X1, by decide, rfl, rfl, rfl, Or.inl (mi_gd1 124 rfl rfl)⟩
set_option maxRecDepth 100000 in
theorem fl_X1_56 : mi_FL RX1 56 1 11 (.object "GraphTexts$Row") true := ⟨_, _, _, _, cf_X1, by decide, rfl, rfl, rfl, Or.inl (mi_gd1 127 rfl rfl)⟩
set_option maxRecDepth 100000 in
theorem fl_X1_59 : mi_FL RX1 59 1 12 .int false := ⟨_, _, _, _, cf_X1, by decide, rfl, rfl, rfl, Or.inl (mi_gd1 130 rfl rfl)⟩
set_option maxRecDepth 100000 in
theorem fl_X1_63 : mi_FL RX1 63 1 13 .int false := ⟨_, _, _, _, cf_X1, by decide, rfl, rfl, rfl, Or.inl (mi_gd1 132 rfl rfl)⟩
set_option maxRecDepth 100000 in
theorem fl_X1_66 : mi_FL RX1 66 1 14 .int false := ⟨_, _, _, _, cf_X1, by decide, rfl, rfl, rfl, Or.inl (mi_gd1 135 rfl rfl)⟩
set_option maxRecDepth 100000 in
theorem fl_X1_73 : mi_FL RX1 73 3 1 .int false := ⟨_, _, _, _, cf_X3, by decide, rfl, rfl, rfl, Or.inr ⟨"GraphTexts", (mi_nd1 40 rfl rfl)⟩⟩
set_option maxRecDepth 100000 in
theorem fl_X1_81 : mi_FL RX1 81 4 3 .int false := ⟨_, _, _, _, cf_X4, by decide, rfl, rfl, rfl, Or.inr ⟨"GraphTexts", (mi_nd1 81 rfl rfl)⟩⟩
set_option maxRecDepth 100000 in
theorem fl_X2_14 : mi_FL RX2 14 2 0 (.object "GraphTexts$Cursor") true := ⟨_, _, _, _, cf_X2, by decide, rfl, rfl, rfl, Or.inl (mi_gd1 212 rfl rfl)⟩
set_option maxRecDepth 100000 in
theorem fl_X2_20 : mi_FL RX2 20 2 1 (.object "GraphTexts$Graph") false := ⟨_, _, _, _, cf_X2, by decide, rfl, rfl, rfl, Or.inl (mi_gd1 214 rfl rfl)⟩
set_option maxRecDepth 100000 in
theorem fl_X2_32 : mi_FL RX2 32 2 2 .int false := ⟨_, _, _, _, cf_X2, by decide, rfl, rfl, rfl, Or.inl (mi_gd1 215 rfl rfl)⟩
set_option maxRecDepth 100000 in
theorem fl_X2_36 : mi_FL RX2 36 2 3 .boolean false := ⟨_, _, _, _, cf_X2, by decide, rfl, rfl, rfl, Or.inl (mi_gd1 216 rfl rfl)⟩
set_option maxRecDepth 100000 in
theorem fl_X2_40 : mi_FL RX2 40 2 4 .int false := ⟨_, _, _, _, cf_X2, by decide, rfl, rfl, rfl, Or.inl (mi_gd1 217 rfl rfl)⟩
set_option maxRecDepth 100000 in
theorem fl_X2_59 : mi_FL RX2 59 1 13 .int false := ⟨_, _, _, _, cf_X1, by decide, rfl, rfl, rfl, Or.inr ⟨"GraphTexts", (mi_nd1 133 rfl rfl)⟩⟩
set_option maxRecDepth 100000 in
theorem fl_X2_62 : mi_FL RX2 62 1 1 (.object "GraphTexts$Spans") true := ⟨_, _, _, _, cf_X1, by decide, rfl, rfl, rfl, Or.inr ⟨"GraphTexts", (mi_nd1 95 rfl rfl)⟩⟩
set_option maxRecDepth 100000 in
theorem fl_X2_66 : mi_FL RX2 66 4 3 .int false := ⟨_, _, _, _, cf_X4, by decide, rfl, rfl, rfl, Or.inr ⟨"GraphTexts", (mi_nd1 80 rfl rfl)⟩⟩
set_option maxRecDepth 100000 in
theorem fl_X2_71 : mi_FL RX2 71 2 5 .int false := ⟨_, _, _, _, cf_X2, by decide, rfl, rfl, rfl, Or.inl (mi_gd1 218 rfl rfl)⟩
set_option maxRecDepth 100000 in
theorem fl_X2_78 : mi_FL RX2 78 1 14 .int false := ⟨_, _, _, _, cf_X1, by decide, rfl, rfl, rfl, Or.inr ⟨"GraphTexts", (mi_nd1 136 rfl rfl)⟩⟩
set_option maxRecDepth 100000 in
theorem fl_X2_85 : mi_FL RX2 85 2 6 .int false := ⟨_, _, _, _, cf_X2, by decide, rfl, rfl, rfl, Or.inl (mi_gd1 219 rfl rfl)⟩
set_option maxRecDepth 100000 in
theorem fl_X2_91 : mi_FL RX2 91 0 2 .int false := ⟨_, _, _, _, cf_X0, by decide, rfl, rfl, rfl, Or.inr ⟨"GraphTexts", (mi_nd1 185 rfl rfl)⟩⟩
set_option maxRecDepth 100000 in
theorem fl_X2_115 : mi_FL RX2 115 1 0 (.object "GraphTexts$Row") true := ⟨_, _, _, _, cf_X1, by decide, rfl, rfl, rfl, Or.inr ⟨"GraphTexts", (mi_nd1 93 rfl rfl)⟩⟩
set_option maxRecDepth 100000 in
theorem fl_X2_119 : mi_FL RX2 119 3 1 .int false := ⟨_, _, _, _, cf_X3, by decide, rfl, rfl, rfl, Or.inr ⟨"GraphTexts", (mi_nd1 43 rfl rfl)⟩⟩
set_option maxRecDepth 100000 in
theorem fl_X2_128 : mi_FL RX2 128 0 1 .int false := ⟨_, _, _, _, cf_X0, by decide, rfl, rfl, rfl, Or.inr ⟨"GraphTexts", (mi_nd1 183 rfl rfl)⟩⟩
set_option maxRecDepth 100000 in
theorem fl_X2_139 : mi_FL RX2 139 1 3 (.object "GraphTexts$Spans") true := ⟨_, _, _, _, cf_X1, by decide, rfl, rfl, rfl, Or.inr ⟨"GraphTexts", (mi_nd1 104 rfl rfl)⟩⟩
set_option maxRecDepth 100000 in
theorem fl_X2_145 : mi_FL RX2 145 1 11 (.object "GraphTexts$Row") true := ⟨_, _, _, _, cf_X1, by decide, rfl, rfl, rfl, Or.inr ⟨"GraphTexts", (mi_nd1 129 rfl rfl)⟩⟩
set_option maxRecDepth 100000 in
theorem fl_X2_148 : mi_FL RX2 148 0 3 .int false := ⟨_, _, _, _, cf_X0, by decide, rfl, rfl, rfl, Or.inr ⟨"GraphTexts", (mi_nd1 187 rfl rfl)⟩⟩
set_option maxRecDepth 100000 in
theorem fl_X2_161 : mi_FL RX2 161 2 7 .int false := ⟨_, _, _, _, cf_X2, by decide, rfl, rfl, rfl, Or.inl (mi_gd1 220 rfl rfl)⟩
set_option maxRecDepth 100000 in
theorem fl_X2_170 : mi_FL RX2 170 1 2 (.object "GraphTexts$Spans") true := ⟨_, _, _, _, cf_X1, by decide, rfl, rfl, rfl, Or.inr ⟨"GraphTexts", (mi_nd1 100 rfl rfl)⟩⟩
set_option maxRecDepth 100000 in
theorem fl_X2_176 : mi_FL RX2 176 2 9 .int false := ⟨_, _, _, _, cf_X2, by decide, rfl, rfl, rfl, Or.inl (mi_gd1 222 rfl rfl)⟩
set_option maxRecDepth 100000 in
theorem fl_X2_183 : mi_FL RX2 183 2 8 .int false := ⟨_, _, _, _, cf_X2, by decide, rfl, rfl, rfl, Or.inl (mi_gd1 221 rfl rfl)⟩
set_option maxRecDepth 100000 in
theorem fl_X2_189 : mi_FL RX2 189 1 4 (.object "GraphTexts$Row") true := ⟨_, _, _, _, cf_X1, by decide, rfl, rfl, rfl, Or.inr ⟨"GraphTexts", (mi_nd1 108 rfl rfl)⟩⟩
set_option maxRecDepth 100000 in
theorem fl_X2_192 : mi_FL RX2 192 2 12 .int false := ⟨_, _, _, _, cf_X2, by decide, rfl, rfl, rfl, Or.inl (mi_gd1 225 rfl rfl)⟩
set_option maxRecDepth 100000 in
theorem fl_X2_198 : mi_FL RX2 198 2 13 .int false := ⟨_, _, _, _, cf_X2, by decide, rfl, rfl, rfl, Or.inl (mi_gd1 226 rfl rfl)⟩
set_option maxRecDepth 100000 in
theorem fl_X2_201 : mi_FL RX2 201 2 14 .int false := ⟨_, _, _, _, cf_X2, by decide, rfl, rfl, rfl, Or.inl (mi_gd1 227 rfl rfl)⟩
set_option maxRecDepth 100000 in
theorem fl_X2_207 : mi_FL RX2 207 2 15 .boolean false := ⟨_, _, _, _, cf_X2, by decide, rfl, rfl, rfl, Or.inl (mi_gd1 228 rfl rfl)⟩
set_option maxRecDepth 100000 in
theorem fl_X2_222 : mi_FL RX2 222 2 10 .int false := ⟨_, _, _, _, cf_X2, by decide, rfl, rfl, rfl, Or.inl (mi_gd1 223 rfl rfl)⟩
set_option maxRecDepth 100000 in
theorem fl_X2_228 : mi_FL RX2 228 2 11 .int false := ⟨_, _, _, _, cf_X2, by decide, rfl, rfl, rfl, Or.inl (mi_gd1 224 rfl rfl)⟩
set_option maxRecDepth 100000 in
theorem fl_X3_15 : mi_FL RX3 15 3 0 (.array .int) true := ⟨_, _, _, _, cf_X3, by decide, rfl, rfl, rfl, Or.inl (mi_gd1 35 rfl rfl)⟩
set_option maxRecDepth 100000 in
theorem fl_X3_21 : mi_FL RX3 21 3 1 .int false := ⟨_, _, _, _, cf_X3, by decide, rfl, rfl, rfl, Or.inl (mi_gd1 37 rfl rfl)⟩
set_option maxRecDepth 100000 in
theorem fl_X4_9 : mi_FL RX4 9 4 0 (.object "GraphTexts$Row") true := ⟨_, _, _, _, cf_X4, by decide, rfl, rfl, rfl, Or.inl (mi_gd1 76 rfl rfl)⟩
set_option maxRecDepth 100000 in
theorem fl_X4_20 : mi_FL RX4 20 4 1 (.object "GraphTexts$Row") true := ⟨_, _, _, _, cf_X4, by decide, rfl, rfl, rfl, Or.inl (mi_gd1 77 rfl rfl)⟩
set_option maxRecDepth 100000 in
theorem fl_X4_23 : mi_FL RX4 23 4 2 (.object "GraphTexts$Row") true := ⟨_, _, _, _, cf_X4, by decide, rfl, rfl, rfl, Or.inl (mi_gd1 78 rfl rfl)⟩
set_option maxRecDepth 100000 in
theorem fl_X4_26 : mi_FL RX4 26 4 3 .int false := ⟨_, _, _, _, cf_X4, by decide, rfl, rfl, rfl, Or.inl (mi_gd1 79 rfl rfl)⟩
set_option maxRecDepth 100000 in
theorem fl_X4_36 : mi_FL RX4 36 3 1 .int false := ⟨_, _, _, _, cf_X3, by decide, rfl, rfl, rfl, Or.inr ⟨"GraphTexts", (mi_nd1 42 rfl rfl)⟩⟩
set_option maxRecDepth 100000 in
theorem fl_X5_9 : mi_FL RX5 9 5 0 (.object "GraphTexts$Row") true := ⟨_, _, _, _, cf_X5, by decide, rfl, rfl, rfl, Or.inl (mi_gd1 56 rfl rfl)⟩
set_option maxRecDepth 100000 in
theorem fl_X5_20 : mi_FL RX5 20 1 11 (.object "GraphTexts$Row") true := ⟨_, _, _, _, cf_X1, by decide, rfl, rfl, rfl, Or.inr ⟨"GraphTexts", (mi_nd1 128 rfl rfl)⟩⟩
set_option maxRecDepth 100000 in
theorem fl_X5_25 : mi_FL RX5 25 3 1 .int false := ⟨_, _, _, _, cf_X3, by decide, rfl, rfl, rfl, Or.inr ⟨"GraphTexts", (mi_nd1 39 rfl rfl)⟩⟩
set_option maxRecDepth 100000 in
theorem fl_X5_51 : mi_FL RX5 51 1 3 (.object "GraphTexts$Spans") true := ⟨_, _, _, _, cf_X1, by decide, rfl, rfl, rfl, Or.inr ⟨"GraphTexts", (mi_nd1 103 rfl rfl)⟩⟩
set_option maxRecDepth 100000 in
theorem fl_X5_64 : mi_FL RX5 64 1 13 .int false := ⟨_, _, _, _, cf_X1, by decide, rfl, rfl, rfl, Or.inr ⟨"GraphTexts", (mi_nd1 134 rfl rfl)⟩⟩
set_option maxRecDepth 100000 in
theorem fl_X5_70 : mi_FL RX5 70 1 14 .int false := ⟨_, _, _, _, cf_X1, by decide, rfl, rfl, rfl, Or.inr ⟨"GraphTexts", (mi_nd1 137 rfl rfl)⟩⟩
set_option maxRecDepth 100000 in
theorem fl_X5_73 : mi_FL RX5 73 1 2 (.object "GraphTexts$Spans") true := ⟨_, _, _, _, cf_X1, by decide, rfl, rfl, rfl, Or.inr ⟨"GraphTexts", (mi_nd1 99 rfl rfl)⟩⟩
set_option maxRecDepth 100000 in
theorem fl_X5_80 : mi_FL RX5 80 1 4 (.object "GraphTexts$Row") true := ⟨_, _, _, _, cf_X1, by decide, rfl, rfl, rfl, Or.inr ⟨"GraphTexts", (mi_nd1 107 rfl rfl)⟩⟩
set_option maxRecDepth 100000 in
theorem fl_X5_86 : mi_FL RX5 86 1 1 (.object "GraphTexts$Spans") true := ⟨_, _, _, _, cf_X1, by decide, rfl, rfl, rfl, Or.inr ⟨"GraphTexts", (mi_nd1 97 rfl rfl)⟩⟩
set_option maxRecDepth 100000 in
theorem fl_X5_89 : mi_FL RX5 89 1 5 (.object "GraphTexts$Row") true := ⟨_, _, _, _, cf_X1, by decide, rfl, rfl, rfl, Or.inr ⟨"GraphTexts", (mi_nd1 111 rfl rfl)⟩⟩
set_option maxRecDepth 100000 in
theorem fl_X5_92 : mi_FL RX5 92 1 6 (.object "GraphTexts$Row") true := ⟨_, _, _, _, cf_X1, by decide, rfl, rfl, rfl, Or.inr ⟨"GraphTexts", (mi_nd1 114 rfl rfl)⟩⟩
set_option maxRecDepth 100000 in
theorem fl_X5_102 : mi_FL RX5 102 1 9 (.object "GraphTexts$Row") true := ⟨_, _, _, _, cf_X1, by decide, rfl, rfl, rfl, Or.inr ⟨"GraphTexts", (mi_nd1 122 rfl rfl)⟩⟩
set_option maxRecDepth 100000 in
theorem fl_X5_105 : mi_FL RX5 105 1 8 (.object "GraphTexts$Spans") true := ⟨_, _, _, _, cf_X1, by decide, rfl, rfl, rfl, Or.inr ⟨"GraphTexts", (mi_nd1 119 rfl rfl)⟩⟩
set_option maxRecDepth 100000 in
theorem fl_X5_108 : mi_FL RX5 108 1 10 (.object "GraphTexts$Row") true := ⟨_, _, _, _, cf_X1, by decide, rfl, rfl, rfl, Or.inr ⟨"GraphTexts", (mi_nd1 125 rfl rfl)⟩⟩
set_option maxRecDepth 100000 in
theorem fl_X6_14 : mi_FL RX6 14 6 0 (.object "GraphTexts$Row") true := ⟨_, _, _, _, cf_X6, by decide, rfl, rfl, rfl, Or.inl (mi_gd2 22 rfl rfl)⟩
set_option maxRecDepth 100000 in
theorem fl_X6_18 : mi_FL RX6 18 6 1 (.object "GraphTexts$Row") true := ⟨_, _, _, _, cf_X6, by decide, rfl, rfl, rfl, Or.inl (mi_gd2 23 rfl rfl)⟩
set_option maxRecDepth 100000 in
theorem fl_X6_26 : mi_FL RX6 26 6 3 (.object "GraphTexts$Writer") true := ⟨_, _, _, _, cf_X6, by decide, rfl, rfl, rfl, Or.inl (mi_gd2 25 rfl rfl)⟩
set_option maxRecDepth 100000 in
theorem fl_X6_33 : mi_FL RX6 33 6 4 (.object "GraphTexts$Graph") false := ⟨_, _, _, _, cf_X6, by decide, rfl, rfl, rfl, Or.inl (mi_gd2 26 rfl rfl)⟩
set_option maxRecDepth 100000 in
theorem fl_X6_37 : mi_FL RX6 37 6 5 (.object "GraphTexts$Graph") false := ⟨_, _, _, _, cf_X6, by decide, rfl, rfl, rfl, Or.inl (mi_gd2 27 rfl rfl)⟩
set_option maxRecDepth 100000 in
theorem fl_X6_45 : mi_FL RX6 45 6 2 (.object "GraphTexts$Reader") true := ⟨_, _, _, _, cf_X6, by decide, rfl, rfl, rfl, Or.inl (mi_gd2 24 rfl rfl)⟩
set_option maxRecDepth 100000 in
theorem fl_X6_49 : mi_FL RX6 49 6 6 .boolean false := ⟨_, _, _, _, cf_X6, by decide, rfl, rfl, rfl, Or.inl (mi_gd2 28 rfl rfl)⟩
set_option maxRecDepth 100000 in
theorem fl_X6_53 : mi_FL RX6 53 6 7 .int false := ⟨_, _, _, _, cf_X6, by decide, rfl, rfl, rfl, Or.inl (mi_gd2 29 rfl rfl)⟩
set_option maxRecDepth 100000 in
theorem fl_X6_57 : mi_FL RX6 57 3 1 .int false := ⟨_, _, _, _, cf_X3, by decide, rfl, rfl, rfl, Or.inr ⟨"GraphTexts", (mi_nd1 38 rfl rfl)⟩⟩
set_option maxRecDepth 100000 in
theorem fl_X6_72 : mi_FL RX6 72 2 0 (.object "GraphTexts$Cursor") true := ⟨_, _, _, _, cf_X2, by decide, rfl, rfl, rfl, Or.inr ⟨"GraphTexts", (mi_nd1 213 rfl rfl)⟩⟩
set_option maxRecDepth 100000 in
theorem fl_X6_76 : mi_FL RX6 76 0 5 .int false := ⟨_, _, _, _, cf_X0, by decide, rfl, rfl, rfl, Or.inr ⟨"GraphTexts", (mi_nd1 190 rfl rfl)⟩⟩
set_option maxRecDepth 100000 in
theorem fl_X6_85 : mi_FL RX6 85 0 6 .int false := ⟨_, _, _, _, cf_X0, by decide, rfl, rfl, rfl, Or.inr ⟨"GraphTexts", (mi_nd1 192 rfl rfl)⟩⟩
set_option maxRecDepth 100000 in
theorem fl_X6_88 : mi_FL RX6 88 0 7 .int false := ⟨_, _, _, _, cf_X0, by decide, rfl, rfl, rfl, Or.inr ⟨"GraphTexts", (mi_nd1 194 rfl rfl)⟩⟩
set_option maxRecDepth 100000 in
theorem fl_X6_91 : mi_FL RX6 91 1 1 (.object "GraphTexts$Spans") true := ⟨_, _, _, _, cf_X1, by decide, rfl, rfl, rfl, Or.inr ⟨"GraphTexts", (mi_nd1 96 rfl rfl)⟩⟩
set_option maxRecDepth 100000 in
theorem fl_X6_105 : mi_FL RX6 105 1 5 (.object "GraphTexts$Row") true := ⟨_, _, _, _, cf_X1, by decide, rfl, rfl, rfl, Or.inr ⟨"GraphTexts", (mi_nd1 112 rfl rfl)⟩⟩
set_option maxRecDepth 100000 in
theorem fl_X6_116 : mi_FL RX6 116 1 6 (.object "GraphTexts$Row") true := ⟨_, _, _, _, cf_X1, by decide, rfl, rfl, rfl, Or.inr ⟨"GraphTexts", (mi_nd1 115 rfl rfl)⟩⟩
set_option maxRecDepth 100000 in
theorem fl_X6_119 : mi_FL RX6 119 1 7 (.object "GraphTexts$Row") true := ⟨_, _, _, _, cf_X1, by decide, rfl, rfl, rfl, Or.inr ⟨"GraphTexts", (mi_nd1 117 rfl rfl)⟩⟩
set_option maxRecDepth 100000 in
theorem fl_X6_125 : mi_FL RX6 125 1 4 (.object "GraphTexts$Row") true := ⟨_, _, _, _, cf_X1, by decide, rfl, rfl, rfl, Or.inr ⟨"GraphTexts", (mi_nd1 109 rfl rfl)⟩⟩
set_option maxRecDepth 100000 in
theorem fl_X6_128 : mi_FL RX6 128 1 2 (.object "GraphTexts$Spans") true := ⟨_, _, _, _, cf_X1, by decide, rfl, rfl, rfl, Or.inr ⟨"GraphTexts", (mi_nd1 101 rfl rfl)⟩⟩
set_option maxRecDepth 100000 in
theorem fl_X6_139 : mi_FL RX6 139 1 9 (.object "GraphTexts$Row") true := ⟨_, _, _, _, cf_X1, by decide, rfl, rfl, rfl, Or.inr ⟨"GraphTexts", (mi_nd1 123 rfl rfl)⟩⟩
set_option maxRecDepth 100000 in
theorem fl_X6_154 : mi_FL RX6 154 1 10 (.object "GraphTexts$Row") true := ⟨_, _, _, _, cf_X1, by decide, rfl, rfl, rfl, Or.inr ⟨"GraphTexts", (mi_nd1 126 rfl rfl)⟩⟩
set_option maxRecDepth 100000 in
theorem fl_X6_159 : mi_FL RX6 159 1 8 (.object "GraphTexts$Spans") true := ⟨_, _, _, _, cf_X1, by decide, rfl, rfl, rfl, Or.inr ⟨"GraphTexts", (mi_nd1 120 rfl rfl)⟩⟩
set_option maxRecDepth 100000 in
theorem fl_X6_162 : mi_FL RX6 162 1 3 (.object "GraphTexts$Spans") true := ⟨_, _, _, _, cf_X1, by decide, rfl, rfl, rfl, Or.inr ⟨"GraphTexts", (mi_nd1 105 rfl rfl)⟩⟩
set_option maxRecDepth 100000 in
theorem fl_X6_174 : mi_FL RX6 174 4 3 .int false := ⟨_, _, _, _, cf_X4, by decide, rfl, rfl, rfl, Or.inr ⟨"GraphTexts", (mi_nd1 82 rfl rfl)⟩⟩
set_option maxRecDepth 100000 in
theorem fl_X6_177 : mi_FL RX6 177 1 12 .int false := ⟨_, _, _, _, cf_X1, by decide, rfl, rfl, rfl, Or.inr ⟨"GraphTexts", (mi_nd1 131 rfl rfl)⟩⟩
set_option maxRecDepth 100000 in
theorem fl_X7_7 : mi_FL RX7 7 7 1 (.array .int) true := ⟨_, _, _, _, cf_X7, by decide, rfl, rfl, rfl, Or.inl (mi_gd4 105 rfl rfl)⟩
set_option maxRecDepth 100000 in
theorem fl_X7_13 : mi_FL RX7 13 7 4 .int false := ⟨_, _, _, _, cf_X7, by decide, rfl, rfl, rfl, Or.inl (mi_gd4 108 rfl rfl)⟩
set_option maxRecDepth 100000 in
theorem fl_X7_17 : mi_FL RX7 17 7 5 .int false := ⟨_, _, _, _, cf_X7, by decide, rfl, rfl, rfl, Or.inl (mi_gd4 109 rfl rfl)⟩
set_option maxRecDepth 100000 in
theorem fl_X7_20 : mi_FL RX7 20 7 7 (.array .int) true := ⟨_, _, _, _, cf_X7, by decide, rfl, rfl, rfl, Or.inl (mi_gd4 111 rfl rfl)⟩
set_option maxRecDepth 100000 in
theorem fl_X7_23 : mi_FL RX7 23 7 8 (.array .int) true := ⟨_, _, _, _, cf_X7, by decide, rfl, rfl, rfl, Or.inl (mi_gd4 112 rfl rfl)⟩
set_option maxRecDepth 100000 in
theorem fl_X7_26 : mi_FL RX7 26 7 9 (.array .int) true := ⟨_, _, _, _, cf_X7, by decide, rfl, rfl, rfl, Or.inl (mi_gd4 113 rfl rfl)⟩
set_option maxRecDepth 100000 in
theorem fl_X7_29 : mi_FL RX7 29 7 10 (.array .int) true := ⟨_, _, _, _, cf_X7, by decide, rfl, rfl, rfl, Or.inl (mi_gd4 114 rfl rfl)⟩
set_option maxRecDepth 100000 in
theorem fl_X7_32 : mi_FL RX7 32 7 11 (.array .int) true := ⟨_, _, _, _, cf_X7, by decide, rfl, rfl, rfl, Or.inl (mi_gd4 115 rfl rfl)⟩
set_option maxRecDepth 100000 in
theorem fl_X7_35 : mi_FL RX7 35 7 12 (.array .int) true := ⟨_, _, _, _, cf_X7, by decide, rfl, rfl, rfl, Or.inl (mi_gd4 116 rfl rfl)⟩
set_option maxRecDepth 100000 in
theorem fl_X7_38 : mi_FL RX7 38 7 13 (.array .int) true := ⟨_, _, _, _, cf_X7, by decide, rfl, rfl, rfl, Or.inl (mi_gd4 117 rfl rfl)⟩
set_option maxRecDepth 100000 in
theorem fl_X7_41 : mi_FL RX7 41 7 14 (.array .int) true := ⟨_, _, _, _, cf_X7, by decide, rfl, rfl, rfl, Or.inl (mi_gd4 118 rfl rfl)⟩
set_option maxRecDepth 100000 in
theorem fl_X7_44 : mi_FL RX7 44 7 15 (.array .int) true := ⟨_, _, _, _, cf_X7, by decide, rfl, rfl, rfl, Or.inl (mi_gd4 119 rfl rfl)⟩
set_option maxRecDepth 100000 in
theorem fl_X7_47 : mi_FL RX7 47 7 16 (.array .int) true := ⟨_, _, _, _, cf_X7, by decide, rfl, rfl, rfl, Or.inl (mi_gd4 120 rfl rfl)⟩
set_option maxRecDepth 100000 in
theorem fl_X7_50 : mi_FL RX7 50 7 17 (.array .int) true := ⟨_, _, _, _, cf_X7, by decide, rfl, rfl, rfl, Or.inl (mi_gd4 121 rfl rfl)⟩
set_option maxRecDepth 100000 in
theorem fl_X7_53 : mi_FL RX7 53 7 18 (.array .int) true := ⟨_, _, _, _, cf_X7, by decide, rfl, rfl, rfl, Or.inl (mi_gd4 122 rfl rfl)⟩
set_option maxRecDepth 100000 in
theorem fl_X7_56 : mi_FL RX7 56 7 19 (.array .int) true := ⟨_, _, _, _, cf_X7, by decide, rfl, rfl, rfl, Or.inl (mi_gd4 123 rfl rfl)⟩
set_option maxRecDepth 100000 in
theorem fl_X7_59 : mi_FL RX7 59 7 20 (.array .int) true := ⟨_, _, _, _, cf_X7, by decide, rfl, rfl, rfl, Or.inl (mi_gd4 124 rfl rfl)⟩
set_option maxRecDepth 100000 in
theorem fl_X7_62 : mi_FL RX7 62 7 21 (.array .int) true := ⟨_, _, _, _, cf_X7, by decide, rfl, rfl, rfl, Or.inl (mi_gd4 125 rfl rfl)⟩
set_option maxRecDepth 100000 in
theorem fl_X7_65 : mi_FL RX7 65 7 22 (.array .int) true := ⟨_, _, _, _, cf_X7, by decide, rfl, rfl, rfl, Or.inl (mi_gd4 126 rfl rfl)⟩
set_option maxRecDepth 100000 in
theorem fl_X7_68 : mi_FL RX7 68 7 23 (.array .int) true := ⟨_, _, _, _, cf_X7, by decide, rfl, rfl, rfl, Or.inl (mi_gd4 127 rfl rfl)⟩
set_option maxRecDepth 100000 in
theorem fl_X7_71 : mi_FL RX7 71 7 24 (.array .int) true := ⟨_, _, _, _, cf_X7, by decide, rfl, rfl, rfl, Or.inl (mi_gd4 128 rfl rfl)⟩
set_option maxRecDepth 100000 in
theorem fl_X7_74 : mi_FL RX7 74 7 25 (.array .int) true := ⟨_, _, _, _, cf_X7, by decide, rfl, rfl, rfl, Or.inl (mi_gd4 129 rfl rfl)⟩
set_option maxRecDepth 100000 in
theorem fl_X7_77 : mi_FL RX7 77 7 32 (.array .int) true := ⟨_, _, _, _, cf_X7, by decide, rfl, rfl, rfl, Or.inl (mi_gd4 136 rfl rfl)⟩
set_option maxRecDepth 100000 in
theorem fl_X7_80 : mi_FL RX7 80 7 36 (.array .int) true := ⟨_, _, _, _, cf_X7, by decide, rfl, rfl, rfl, Or.inl (mi_gd4 140 rfl rfl)⟩
set_option maxRecDepth 100000 in
theorem fl_X7_83 : mi_FL RX7 83 7 37 (.array .int) true := ⟨_, _, _, _, cf_X7, by decide, rfl, rfl, rfl, Or.inl (mi_gd4 141 rfl rfl)⟩
set_option maxRecDepth 100000 in
theorem fl_X7_86 : mi_FL RX7 86 7 39 (.array .int) true := ⟨_, _, _, _, cf_X7, by decide, rfl, rfl, rfl, Or.inl (mi_gd4 143 rfl rfl)⟩
set_option maxRecDepth 100000 in
theorem fl_X7_89 : mi_FL RX7 89 7 40 (.array .int) true := ⟨_, _, _, _, cf_X7, by decide, rfl, rfl, rfl, Or.inl (mi_gd4 144 rfl rfl)⟩
set_option maxRecDepth 100000 in
theorem fl_X7_92 : mi_FL RX7 92 7 41 (.array .int) true := ⟨_, _, _, _, cf_X7, by decide, rfl, rfl, rfl, Or.inl (mi_gd4 145 rfl rfl)⟩
set_option maxRecDepth 100000 in
theorem fl_X7_95 : mi_FL RX7 95 7 2 .int false := ⟨_, _, _, _, cf_X7, by decide, rfl, rfl, rfl, Or.inl (mi_gd4 106 rfl rfl)⟩
set_option maxRecDepth 100000 in
theorem fl_X7_98 : mi_FL RX7 98 7 0 .int false := ⟨_, _, _, _, cf_X7, by decide, rfl, rfl, rfl, Or.inl (mi_gd4 104 rfl rfl)⟩
set_option maxRecDepth 100000 in
theorem fl_X7_105 : mi_FL RX7 105 7 27 .int false := ⟨_, _, _, _, cf_X7, by decide, rfl, rfl, rfl, Or.inl (mi_gd4 131 rfl rfl)⟩
set_option maxRecDepth 100000 in
theorem fl_X7_108 : mi_FL RX7 108 7 30 .int false := ⟨_, _, _, _, cf_X7, by decide, rfl, rfl, rfl, Or.inl (mi_gd4 134 rfl rfl)⟩
set_option maxRecDepth 100000 in
theorem fl_X7_111 : mi_FL RX7 111 7 31 .int false := ⟨_, _, _, _, cf_X7, by decide, rfl, rfl, rfl, Or.inl (mi_gd4 135 rfl rfl)⟩
set_option maxRecDepth 100000 in
theorem fl_X7_138 : mi_FL RX7 138 7 33 .int false := ⟨_, _, _, _, cf_X7, by decide, rfl, rfl, rfl, Or.inl (mi_gd4 137 rfl rfl)⟩
set_option maxRecDepth 100000 in
theorem fl_X7_141 : mi_FL RX7 141 7 34 .int false := ⟨_, _, _, _, cf_X7, by decide, rfl, rfl, rfl, Or.inl (mi_gd4 138 rfl rfl)⟩
set_option maxRecDepth 100000 in
theorem fl_X7_167 : mi_FL RX7 167 7 35 .boolean false := ⟨_, _, _, _, cf_X7, by decide, rfl, rfl, rfl, Or.inl (mi_gd4 139 rfl rfl)⟩
set_option maxRecDepth 100000 in
theorem fl_X7_174 : mi_FL RX7 174 7 28 .int false := ⟨_, _, _, _, cf_X7, by decide, rfl, rfl, rfl, Or.inl (mi_gd4 132 rfl rfl)⟩
set_option maxRecDepth 100000 in
theorem fl_X7_177 : mi_FL RX7 177 7 38 .boolean false := ⟨_, _, _, _, cf_X7, by decide, rfl, rfl, rfl, Or.inl (mi_gd4 142 rfl rfl)⟩
set_option maxRecDepth 100000 in
theorem fl_X7_196 : mi_FL RX7 196 7 3 .int false := ⟨_, _, _, _, cf_X7, by decide, rfl, rfl, rfl, Or.inl (mi_gd4 107 rfl rfl)⟩
set_option maxRecDepth 100000 in
theorem fl_X7_217 : mi_FL RX7 217 7 6 .boolean false := ⟨_, _, _, _, cf_X7, by decide, rfl, rfl, rfl, Or.inl (mi_gd4 110 rfl rfl)⟩
set_option maxRecDepth 100000 in
theorem fl_X7_223 : mi_FL RX7 223 7 29 .int false := ⟨_, _, _, _, cf_X7, by decide, rfl, rfl, rfl, Or.inl (mi_gd4 133 rfl rfl)⟩
set_option maxRecDepth 100000 in
theorem fl_X7_241 : mi_FL RX7 241 7 26 .int false := ⟨_, _, _, _, cf_X7, by decide, rfl, rfl, rfl, Or.inl (mi_gd4 130 rfl rfl)⟩
set_option maxRecDepth 100000 in
theorem okM_X0_init : mi_OkM m_X0_init := ⟨by decide, (mi_gd1 179 rfl rfl), (mi_gd1 8 rfl rfl), by decide, by decide, by decide⟩
set_option maxRecDepth 100000 in
theorem okM_X0_start : mi_OkM m_X0_start := ⟨by decide, (mi_gd2 67 rfl rfl), (mi_gd1 8 rfl rfl), by decide, by decide, by decide⟩
set_option maxRecDepth 100000 in
theorem okM_X0_hasLine : mi_OkM m_X0_hasLine := ⟨by decide, (mi_gd2 92 rfl rfl), (mi_gd1 8 rfl rfl), by decide, by decide, by decide⟩
set_option maxRecDepth 100000 in
theorem okM_X0_nextLine : mi_OkM m_X0_nextLine := ⟨by decide, (mi_gd2 71 rfl rfl), (mi_gd1 8 rfl rfl), by decide, by decide, by decide⟩
set_option maxRecDepth 100000 in
theorem okM_X0_step : mi_OkM m_X0_step := ⟨by decide, (mi_gd2 75 rfl rfl), (mi_gd1 8 rfl rfl), by decide, by decide, by decide⟩
set_option maxRecDepth 100000 in
theorem okM_X0_skipBlanks : mi_OkM m_X0_skipBlanks := ⟨by decide, (mi_gd2 100 rfl rfl), (mi_gd1 8 rfl rfl), by decide, by decide, by decide⟩
set_option maxRecDepth 100000 in
theorem okM_X0_isWordEnd : mi_OkM m_X0_isWordEnd := ⟨by decide, (mi_gd2 201 rfl rfl), (mi_gd1 8 rfl rfl), by decide, by decide, by decide⟩
set_option maxRecDepth 100000 in
theorem okM_X0_placeOf : mi_OkM m_X0_placeOf := ⟨by decide, (mi_gd2 130 rfl rfl), (mi_gd1 8 rfl rfl), by decide, by decide, by decide⟩
set_option maxRecDepth 100000 in
theorem okM_X0_wrong : mi_OkM m_X0_wrong := ⟨by decide, (mi_gd2 112 rfl rfl), (mi_gd1 8 rfl rfl), by decide, by decide, by decide⟩
set_option maxRecDepth 100000 in
theorem okM_X0_wrongElsewhere : mi_OkM m_X0_wrongElsewhere := ⟨by decide, (mi_gd3 40 rfl rfl), (mi_gd1 8 rfl rfl), by decide, by decide, by decide⟩
set_option maxRecDepth 100000 in
theorem okM_X1_init : mi_OkM m_X1_init := ⟨by decide, (mi_gd1 64 rfl rfl), (mi_gd1 5 rfl rfl), by decide, by decide, by decide⟩
set_option maxRecDepth 100000 in
theorem okM_X1_clear : mi_OkM m_X1_clear := ⟨by decide, (mi_gd2 79 rfl rfl), (mi_gd1 5 rfl rfl), by decide, by decide, by decide⟩
set_option maxRecDepth 100000 in
theorem okM_X1_arcCount : mi_OkM m_X1_arcCount := ⟨by decide, (mi_gd3 15 rfl rfl), (mi_gd1 5 rfl rfl), by decide, by decide, by decide⟩
set_option maxRecDepth 100000 in
theorem okM_X1_hasValue : mi_OkM m_X1_hasValue := ⟨by decide, (mi_gd4 62 rfl rfl), (mi_gd1 5 rfl rfl), by decide, by decide, by decide⟩
set_option maxRecDepth 100000 in
theorem okM_X1_roomOf : mi_OkM m_X1_roomOf := ⟨by decide, (mi_gd2 239 rfl rfl), (mi_gd1 5 rfl rfl), by decide, by decide, by decide⟩
set_option maxRecDepth 100000 in
theorem okM_X1_missingOf : mi_OkM m_X1_missingOf := ⟨by decide, (mi_gd3 68 rfl rfl), (mi_gd1 5 rfl rfl), by decide, by decide, by decide⟩
set_option maxRecDepth 100000 in
theorem okM_X1_hasArc : mi_OkM m_X1_hasArc := ⟨by decide, (mi_gd2 187 rfl rfl), (mi_gd1 5 rfl rfl), by decide, by decide, by decide⟩
set_option maxRecDepth 100000 in
theorem okM_X1_addArc : mi_OkM m_X1_addArc := ⟨by decide, (mi_gd3 19 rfl rfl), (mi_gd1 5 rfl rfl), by decide, by decide, by decide⟩
set_option maxRecDepth 100000 in
theorem okM_X1_addValue : mi_OkM m_X1_addValue := ⟨by decide, (mi_gd2 225 rfl rfl), (mi_gd1 5 rfl rfl), by decide, by decide, by decide⟩
set_option maxRecDepth 100000 in
theorem okM_X1_leaveArcOut : mi_OkM m_X1_leaveArcOut := ⟨by decide, (mi_gd2 235 rfl rfl), (mi_gd1 5 rfl rfl), by decide, by decide, by decide⟩
set_option maxRecDepth 100000 in
theorem okM_X1_settleKinds : mi_OkM m_X1_settleKinds := ⟨by decide, (mi_gd3 24 rfl rfl), (mi_gd1 5 rfl rfl), by decide, by decide, by decide⟩
set_option maxRecDepth 100000 in
theorem okM_X1_guessKind : mi_OkM m_X1_guessKind := ⟨by decide, (mi_gd3 28 rfl rfl), (mi_gd1 5 rfl rfl), by decide, by decide, by decide⟩
set_option maxRecDepth 100000 in
theorem okM_X2_init : mi_OkM m_X2_init := ⟨by decide, (mi_gd1 173 rfl rfl), (mi_gd1 7 rfl rfl), by decide, by decide, by decide⟩
set_option maxRecDepth 100000 in
theorem okM_X2_readText : mi_OkM m_X2_readText := ⟨by decide, (mi_gd2 63 rfl rfl), (mi_gd1 7 rfl rfl), by decide, by decide, by decide⟩
set_option maxRecDepth 100000 in
theorem okM_X2_countIsTrue : mi_OkM m_X2_countIsTrue := ⟨by decide, (mi_gd3 36 rfl rfl), (mi_gd1 7 rfl rfl), by decide, by decide, by decide⟩
set_option maxRecDepth 100000 in
theorem okM_X2_readLine : mi_OkM m_X2_readLine := ⟨by decide, (mi_gd2 96 rfl rfl), (mi_gd1 7 rfl rfl), by decide, by decide, by decide⟩
set_option maxRecDepth 100000 in
theorem okM_X2_readComment : mi_OkM m_X2_readComment := ⟨by decide, (mi_gd2 104 rfl rfl), (mi_gd1 7 rfl rfl), by decide, by decide, by decide⟩
set_option maxRecDepth 100000 in
theorem okM_X2_readCount : mi_OkM m_X2_readCount := ⟨by decide, (mi_gd2 122 rfl rfl), (mi_gd1 7 rfl rfl), by decide, by decide, by decide⟩
set_option maxRecDepth 100000 in
theorem okM_X2_readNumber : mi_OkM m_X2_readNumber := ⟨by decide, (mi_gd2 134 rfl rfl), (mi_gd1 7 rfl rfl), by decide, by decide, by decide⟩
set_option maxRecDepth 100000 in
theorem okM_X2_readHead : mi_OkM m_X2_readHead := ⟨by decide, (mi_gd2 145 rfl rfl), (mi_gd1 7 rfl rfl), by decide, by decide, by decide⟩
set_option maxRecDepth 100000 in
theorem okM_X2_kindOfLetter : mi_OkM m_X2_kindOfLetter := ⟨by decide, (mi_gd2 175 rfl rfl), (mi_gd1 7 rfl rfl), by decide, by decide, by decide⟩
set_option maxRecDepth 100000 in
theorem okM_X2_readEnds : mi_OkM m_X2_readEnds := ⟨by decide, (mi_gd2 179 rfl rfl), (mi_gd1 7 rfl rfl), by decide, by decide, by decide⟩
set_option maxRecDepth 100000 in
theorem okM_X2_endArc : mi_OkM m_X2_endArc := ⟨by decide, (mi_gd2 231 rfl rfl), (mi_gd1 7 rfl rfl), by decide, by decide, by decide⟩
set_option maxRecDepth 100000 in
theorem okM_X2_takeNode : mi_OkM m_X2_takeNode := ⟨by decide, (mi_gd2 183 rfl rfl), (mi_gd1 7 rfl rfl), by decide, by decide, by decide⟩
set_option maxRecDepth 100000 in
theorem okM_X2_readValues : mi_OkM m_X2_readValues := ⟨by decide, (mi_gd2 192 rfl rfl), (mi_gd1 7 rfl rfl), by decide, by decide, by decide⟩
set_option maxRecDepth 100000 in
theorem okM_X2_readValue : mi_OkM m_X2_readValue := ⟨by decide, (mi_gd2 197 rfl rfl), (mi_gd1 7 rfl rfl), by decide, by decide, by decide⟩
set_option maxRecDepth 100000 in
theorem okM_X2_readFigures : mi_OkM m_X2_readFigures := ⟨by decide, (mi_gd2 217 rfl rfl), (mi_gd1 7 rfl rfl), by decide, by decide, by decide⟩
set_option maxRecDepth 100000 in
theorem okM_X2_readFraction : mi_OkM m_X2_readFraction := ⟨by decide, (mi_gd2 213 rfl rfl), (mi_gd1 7 rfl rfl), by decide, by decide, by decide⟩
set_option maxRecDepth 100000 in
theorem okM_X2_readGuessed : mi_OkM m_X2_readGuessed := ⟨by decide, (mi_gd2 205 rfl rfl), (mi_gd1 7 rfl rfl), by decide, by decide, by decide⟩
set_option maxRecDepth 100000 in
theorem okM_X2_figuresOnly : mi_OkM m_X2_figuresOnly := ⟨by decide, (mi_gd2 209 rfl rfl), (mi_gd1 7 rfl rfl), by decide, by decide, by decide⟩
set_option maxRecDepth 100000 in
theorem okM_X2_thousandthsRead : mi_OkM m_X2_thousandthsRead := ⟨by decide, (mi_gd2 221 rfl rfl), (mi_gd1 7 rfl rfl), by decide, by decide, by decide⟩
set_option maxRecDepth 100000 in
theorem okM_X2_readName : mi_OkM m_X2_readName := ⟨by decide, (mi_gd2 149 rfl rfl), (mi_gd1 7 rfl rfl), by decide, by decide, by decide⟩
set_option maxRecDepth 100000 in
theorem okM_X2_readPlain : mi_OkM m_X2_readPlain := ⟨by decide, (mi_gd2 157 rfl rfl), (mi_gd1 7 rfl rfl), by decide, by decide, by decide⟩
set_option maxRecDepth 100000 in
theorem okM_X2_readQuoted : mi_OkM m_X2_readQuoted := ⟨by decide, (mi_gd2 153 rfl rfl), (mi_gd1 7 rfl rfl), by decide, by decide, by decide⟩
set_option maxRecDepth 100000 in
theorem okM_X2_readGap : mi_OkM m_X2_readGap := ⟨by decide, (mi_gd2 126 rfl rfl), (mi_gd1 7 rfl rfl), by decide, by decide, by decide⟩
set_option maxRecDepth 100000 in
theorem okM_X2_readLineEnd : mi_OkM m_X2_readLineEnd := ⟨by decide, (mi_gd2 141 rfl rfl), (mi_gd1 7 rfl rfl), by decide, by decide, by decide⟩
set_option maxRecDepth 100000 in
theorem okM_X3_init : mi_OkM m_X3_init := ⟨by decide, (mi_gd1 30 rfl rfl), (mi_gd1 2 rfl rfl), by decide, by decide, by decide⟩
set_option maxRecDepth 100000 in
theorem okM_X3_clear : mi_OkM m_X3_clear := ⟨by decide, (mi_gd2 83 rfl rfl), (mi_gd1 2 rfl rfl), by decide, by decide, by decide⟩
set_option maxRecDepth 100000 in
theorem okM_X3_cut : mi_OkM m_X3_cut := ⟨by decide, (mi_gd3 3 rfl rfl), (mi_gd1 2 rfl rfl), by decide, by decide, by decide⟩
set_option maxRecDepth 100000 in
theorem okM_X3_add : mi_OkM m_X3_add := ⟨by decide, (mi_gd2 55 rfl rfl), (mi_gd1 2 rfl rfl), by decide, by decide, by decide⟩
set_option maxRecDepth 100000 in
theorem okM_X3_put : mi_OkM m_X3_put := ⟨by decide, (mi_gd3 32 rfl rfl), (mi_gd1 2 rfl rfl), by decide, by decide, by decide⟩
set_option maxRecDepth 100000 in
theorem okM_X3_has : mi_OkM m_X3_has := ⟨by decide, (mi_gd3 63 rfl rfl), (mi_gd1 2 rfl rfl), by decide, by decide, by decide⟩
set_option maxRecDepth 100000 in
theorem okM_X3_at : mi_OkM m_X3_at := ⟨by decide, (mi_gd2 172 rfl rfl), (mi_gd1 2 rfl rfl), by decide, by decide, by decide⟩
set_option maxRecDepth 100000 in
theorem okM_X4_init : mi_OkM m_X4_init := ⟨by decide, (mi_gd1 72 rfl rfl), (mi_gd1 6 rfl rfl), by decide, by decide, by decide⟩
set_option maxRecDepth 100000 in
theorem okM_X4_clear : mi_OkM m_X4_clear := ⟨by decide, (mi_gd2 87 rfl rfl), (mi_gd1 6 rfl rfl), by decide, by decide, by decide⟩
set_option maxRecDepth 100000 in
theorem okM_X4_cut : mi_OkM m_X4_cut := ⟨by decide, (mi_gd3 10 rfl rfl), (mi_gd1 6 rfl rfl), by decide, by decide, by decide⟩
set_option maxRecDepth 100000 in
theorem okM_X4_add : mi_OkM m_X4_add := ⟨by decide, (mi_gd2 117 rfl rfl), (mi_gd1 6 rfl rfl), by decide, by decide, by decide⟩
set_option maxRecDepth 100000 in
theorem okM_X4_has : mi_OkM m_X4_has := ⟨by decide, (mi_gd3 239 rfl rfl), (mi_gd1 6 rfl rfl), by decide, by decide, by decide⟩
set_option maxRecDepth 100000 in
theorem okM_X4_lengthOf : mi_OkM m_X4_lengthOf := ⟨by decide, (mi_gd3 91 rfl rfl), (mi_gd1 6 rfl rfl), by decide, by decide, by decide⟩
set_option maxRecDepth 100000 in
theorem okM_X4_signAt : mi_OkM m_X4_signAt := ⟨by decide, (mi_gd3 95 rfl rfl), (mi_gd1 6 rfl rfl), by decide, by decide, by decide⟩
set_option maxRecDepth 100000 in
theorem okM_X4_indexOf : mi_OkM m_X4_indexOf := ⟨by decide, (mi_gd2 164 rfl rfl), (mi_gd1 6 rfl rfl), by decide, by decide, by decide⟩
set_option maxRecDepth 100000 in
theorem okM_X4_isSame : mi_OkM m_X4_isSame := ⟨by decide, (mi_gd2 168 rfl rfl), (mi_gd1 6 rfl rfl), by decide, by decide, by decide⟩
set_option maxRecDepth 100000 in
theorem okM_X4_isPlainName : mi_OkM m_X4_isPlainName := ⟨by decide, (mi_gd3 116 rfl rfl), (mi_gd1 6 rfl rfl), by decide, by decide, by decide⟩
set_option maxRecDepth 100000 in
theorem okM_X5_init : mi_OkM m_X5_init := ⟨by decide, (mi_gd1 54 rfl rfl), (mi_gd1 4 rfl rfl), by decide, by decide, by decide⟩
set_option maxRecDepth 100000 in
theorem okM_X5_writeGraph : mi_OkM m_X5_writeGraph := ⟨by decide, (mi_gd3 80 rfl rfl), (mi_gd1 4 rfl rfl), by decide, by decide, by decide⟩
set_option maxRecDepth 100000 in
theorem okM_X5_writeComment : mi_OkM m_X5_writeComment := ⟨by decide, (mi_gd3 86 rfl rfl), (mi_gd1 4 rfl rfl), by decide, by decide, by decide⟩
set_option maxRecDepth 100000 in
theorem okM_X5_writeCount : mi_OkM m_X5_writeCount := ⟨by decide, (mi_gd3 99 rfl rfl), (mi_gd1 4 rfl rfl), by decide, by decide, by decide⟩
set_option maxRecDepth 100000 in
theorem okM_X5_writeHead : mi_OkM m_X5_writeHead := ⟨by decide, (mi_gd3 108 rfl rfl), (mi_gd1 4 rfl rfl), by decide, by decide, by decide⟩
set_option maxRecDepth 100000 in
theorem okM_X5_letterOfKind : mi_OkM m_X5_letterOfKind := ⟨by decide, (mi_gd3 122 rfl rfl), (mi_gd1 4 rfl rfl), by decide, by decide, by decide⟩
set_option maxRecDepth 100000 in
theorem okM_X5_writeArc : mi_OkM m_X5_writeArc := ⟨by decide, (mi_gd3 126 rfl rfl), (mi_gd1 4 rfl rfl), by decide, by decide, by decide⟩
set_option maxRecDepth 100000 in
theorem okM_X5_writeValue : mi_OkM m_X5_writeValue := ⟨by decide, (mi_gd3 131 rfl rfl), (mi_gd1 4 rfl rfl), by decide, by decide, by decide⟩
set_option maxRecDepth 100000 in
theorem okM_X5_writeName : mi_OkM m_X5_writeName := ⟨by decide, (mi_gd3 112 rfl rfl), (mi_gd1 4 rfl rfl), by decide, by decide, by decide⟩
set_option maxRecDepth 100000 in
theorem okM_X5_writeThousandths : mi_OkM m_X5_writeThousandths := ⟨by decide, (mi_gd3 135 rfl rfl), (mi_gd1 4 rfl rfl), by decide, by decide, by decide⟩
set_option maxRecDepth 100000 in
theorem okM_X5_writeWhole : mi_OkM m_X5_writeWhole := ⟨by decide, (mi_gd3 103 rfl rfl), (mi_gd1 4 rfl rfl), by decide, by decide, by decide⟩
set_option maxRecDepth 100000 in
theorem okM_X6_init : mi_OkM m_X6_init := ⟨by decide, (mi_gd1 22 rfl rfl), (mi_gd1 1 rfl rfl), by decide, by decide, by decide⟩
set_option maxRecDepth 100000 in
theorem okM_X6_feed : mi_OkM m_X6_feed := ⟨by decide, (mi_gd2 50 rfl rfl), (mi_gd1 1 rfl rfl), by decide, by decide, by decide⟩
set_option maxRecDepth 100000 in
theorem okM_X6_read : mi_OkM m_X6_read := ⟨by decide, (mi_gd2 59 rfl rfl), (mi_gd1 1 rfl rfl), by decide, by decide, by decide⟩
set_option maxRecDepth 100000 in
theorem okM_X6_fault : mi_OkM m_X6_fault := ⟨by decide, (mi_gd3 46 rfl rfl), (mi_gd1 1 rfl rfl), by decide, by decide, by decide⟩
set_option maxRecDepth 100000 in
theorem okM_X6_manner : mi_OkM m_X6_manner := ⟨by decide, (mi_gd3 50 rfl rfl), (mi_gd1 1 rfl rfl), by decide, by decide, by decide⟩
set_option maxRecDepth 100000 in
theorem okM_X6_find : mi_OkM m_X6_find := ⟨by decide, (mi_gd3 54 rfl rfl), (mi_gd1 1 rfl rfl), by decide, by decide, by decide⟩
set_option maxRecDepth 100000 in
theorem okM_X6_node : mi_OkM m_X6_node := ⟨by decide, (mi_gd3 232 rfl rfl), (mi_gd1 1 rfl rfl), by decide, by decide, by decide⟩
set_option maxRecDepth 100000 in
theorem okM_X6_arc : mi_OkM m_X6_arc := ⟨by decide, (mi_gd3 59 rfl rfl), (mi_gd1 1 rfl rfl), by decide, by decide, by decide⟩
set_option maxRecDepth 100000 in
theorem okM_X6_kind : mi_OkM m_X6_kind := ⟨by decide, (mi_gd3 72 rfl rfl), (mi_gd1 1 rfl rfl), by decide, by decide, by decide⟩
set_option maxRecDepth 100000 in
theorem okM_X6_head : mi_OkM m_X6_head := ⟨by decide, (mi_gd4 11 rfl rfl), (mi_gd1 1 rfl rfl), by decide, by decide, by decide⟩
set_option maxRecDepth 100000 in
theorem okM_X6_value : mi_OkM m_X6_value := ⟨by decide, (mi_gd4 58 rfl rfl), (mi_gd1 1 rfl rfl), by decide, by decide, by decide⟩
set_option maxRecDepth 100000 in
theorem okM_X6_sign : mi_OkM m_X6_sign := ⟨by decide, (mi_gd4 81 rfl rfl), (mi_gd1 1 rfl rfl), by decide, by decide, by decide⟩
set_option maxRecDepth 100000 in
theorem okM_X6_comment : mi_OkM m_X6_comment := ⟨by decide, (mi_gd4 89 rfl rfl), (mi_gd1 1 rfl rfl), by decide, by decide, by decide⟩
set_option maxRecDepth 100000 in
theorem okM_X6_print : mi_OkM m_X6_print := ⟨by decide, (mi_gd3 76 rfl rfl), (mi_gd1 1 rfl rfl), by decide, by decide, by decide⟩
set_option maxRecDepth 100000 in
theorem okM_X6_out : mi_OkM m_X6_out := ⟨by decide, (mi_gd4 96 rfl rfl), (mi_gd1 1 rfl rfl), by decide, by decide, by decide⟩
set_option maxRecDepth 100000 in
theorem okM_X6_about : mi_OkM m_X6_about := ⟨by decide, (mi_gd3 139 rfl rfl), (mi_gd1 1 rfl rfl), by decide, by decide, by decide⟩
set_option maxRecDepth 100000 in
theorem okM_X6_signOfSpan : mi_OkM m_X6_signOfSpan := ⟨by decide, (mi_gd3 235 rfl rfl), (mi_gd1 1 rfl rfl), by decide, by decide, by decide⟩
set_option maxRecDepth 100000 in
theorem okM_X6_isFigure : mi_OkM m_X6_isFigure := ⟨by decide, (mi_gd2 137 rfl rfl), (mi_gd1 1 rfl rfl), by decide, by decide, by decide⟩
set_option maxRecDepth 100000 in
theorem okM_X6_isPlain : mi_OkM m_X6_isPlain := ⟨by decide, (mi_gd2 160 rfl rfl), (mi_gd1 1 rfl rfl), by decide, by decide, by decide⟩
set_option maxRecDepth 100000 in
theorem okM_X6_isPrintable : mi_OkM m_X6_isPrintable := ⟨by decide, (mi_gd2 108 rfl rfl), (mi_gd1 1 rfl rfl), by decide, by decide, by decide⟩
set_option maxRecDepth 100000 in
theorem okM_X7_init : mi_OkM m_X7_init := ⟨by decide, (mi_gd4 102 rfl rfl), (mi_gd1 9 rfl rfl), by decide, by decide, by decide⟩
set_option maxRecDepth 100000 in
theorem okM_X7_thrown : mi_OkM m_X7_thrown := ⟨by decide, (mi_gd4 234 rfl rfl), (mi_gd1 9 rfl rfl), by decide, by decide, by decide⟩
set_option maxRecDepth 100000 in
theorem okM_X7_in : mi_OkM m_X7_in := ⟨by decide, (mi_gd5 1 rfl rfl), (mi_gd1 9 rfl rfl), by decide, by decide, by decide⟩
set_option maxRecDepth 100000 in
theorem okM_X7_feed : mi_OkM m_X7_feed := ⟨by decide, (mi_gd4 238 rfl rfl), (mi_gd1 9 rfl rfl), by decide, by decide, by decide⟩
set_option maxRecDepth 100000 in
theorem okM_X7_here : mi_OkM m_X7_here := ⟨by decide, (mi_gd5 17 rfl rfl), (mi_gd1 9 rfl rfl), by decide, by decide, by decide⟩
set_option maxRecDepth 100000 in
theorem okM_X7_wrong : mi_OkM m_X7_wrong := ⟨by decide, (mi_gd5 25 rfl rfl), (mi_gd1 9 rfl rfl), by decide, by decide, by decide⟩
set_option maxRecDepth 100000 in
theorem okM_X7_isFigure : mi_OkM m_X7_isFigure := ⟨by decide, (mi_gd5 40 rfl rfl), (mi_gd1 9 rfl rfl), by decide, by decide, by decide⟩
set_option maxRecDepth 100000 in
theorem okM_X7_isPlain : mi_OkM m_X7_isPlain := ⟨by decide, (mi_gd5 59 rfl rfl), (mi_gd1 9 rfl rfl), by decide, by decide, by decide⟩
set_option maxRecDepth 100000 in
theorem okM_X7_blanks : mi_OkM m_X7_blanks := ⟨by decide, (mi_gd5 13 rfl rfl), (mi_gd1 9 rfl rfl), by decide, by decide, by decide⟩
set_option maxRecDepth 100000 in
theorem okM_X7_ended : mi_OkM m_X7_ended := ⟨by decide, (mi_gd5 37 rfl rfl), (mi_gd1 9 rfl rfl), by decide, by decide, by decide⟩
set_option maxRecDepth 100000 in
theorem okM_X7_sign : mi_OkM m_X7_sign := ⟨by decide, (mi_gd5 56 rfl rfl), (mi_gd1 9 rfl rfl), by decide, by decide, by decide⟩
set_option maxRecDepth 100000 in
theorem okM_X7_readName : mi_OkM m_X7_readName := ⟨by decide, (mi_gd5 48 rfl rfl), (mi_gd1 9 rfl rfl), by decide, by decide, by decide⟩
set_option maxRecDepth 100000 in
theorem okM_X7_readQuoted : mi_OkM m_X7_readQuoted := ⟨by decide, (mi_gd5 52 rfl rfl), (mi_gd1 9 rfl rfl), by decide, by decide, by decide⟩
set_option maxRecDepth 100000 in
theorem okM_X7_readNumber : mi_OkM m_X7_readNumber := ⟨by decide, (mi_gd5 87 rfl rfl), (mi_gd1 9 rfl rfl), by decide, by decide, by decide⟩
set_option maxRecDepth 100000 in
theorem okM_X7_readDecimals : mi_OkM m_X7_readDecimals := ⟨by decide, (mi_gd5 91 rfl rfl), (mi_gd1 9 rfl rfl), by decide, by decide, by decide⟩
set_option maxRecDepth 100000 in
theorem okM_X7_plainSort : mi_OkM m_X7_plainSort := ⟨by decide, (mi_gd5 99 rfl rfl), (mi_gd1 9 rfl rfl), by decide, by decide, by decide⟩
set_option maxRecDepth 100000 in
theorem okM_X7_readPlainDecimal : mi_OkM m_X7_readPlainDecimal := ⟨by decide, (mi_gd5 103 rfl rfl), (mi_gd1 9 rfl rfl), by decide, by decide, by decide⟩
set_option maxRecDepth 100000 in
theorem okM_X7_readValue : mi_OkM m_X7_readValue := ⟨by decide, (mi_gd5 83 rfl rfl), (mi_gd1 9 rfl rfl), by decide, by decide, by decide⟩
set_option maxRecDepth 100000 in
theorem okM_X7_readAny : mi_OkM m_X7_readAny := ⟨by decide, (mi_gd5 95 rfl rfl), (mi_gd1 9 rfl rfl), by decide, by decide, by decide⟩
set_option maxRecDepth 100000 in
theorem okM_X7_isSame : mi_OkM m_X7_isSame := ⟨by decide, (mi_gd5 63 rfl rfl), (mi_gd1 9 rfl rfl), by decide, by decide, by decide⟩
set_option maxRecDepth 100000 in
theorem okM_X7_layName : mi_OkM m_X7_layName := ⟨by decide, (mi_gd5 67 rfl rfl), (mi_gd1 9 rfl rfl), by decide, by decide, by decide⟩
set_option maxRecDepth 100000 in
theorem okM_X7_laySort : mi_OkM m_X7_laySort := ⟨by decide, (mi_gd5 29 rfl rfl), (mi_gd1 9 rfl rfl), by decide, by decide, by decide⟩
set_option maxRecDepth 100000 in
theorem okM_X7_readComment : mi_OkM m_X7_readComment := ⟨by decide, (mi_gd5 21 rfl rfl), (mi_gd1 9 rfl rfl), by decide, by decide, by decide⟩
set_option maxRecDepth 100000 in
theorem okM_X7_readCount : mi_OkM m_X7_readCount := ⟨by decide, (mi_gd5 33 rfl rfl), (mi_gd1 9 rfl rfl), by decide, by decide, by decide⟩
set_option maxRecDepth 100000 in
theorem okM_X7_readHead : mi_OkM m_X7_readHead := ⟨by decide, (mi_gd5 44 rfl rfl), (mi_gd1 9 rfl rfl), by decide, by decide, by decide⟩
set_option maxRecDepth 100000 in
theorem okM_X7_nodeOf : mi_OkM m_X7_nodeOf := ⟨by decide, (mi_gd5 75 rfl rfl), (mi_gd1 9 rfl rfl), by decide, by decide, by decide⟩
set_option maxRecDepth 100000 in
theorem okM_X7_isDoubled : mi_OkM m_X7_isDoubled := ⟨by decide, (mi_gd5 79 rfl rfl), (mi_gd1 9 rfl rfl), by decide, by decide, by decide⟩
set_option maxRecDepth 100000 in
theorem okM_X7_readArc : mi_OkM m_X7_readArc := ⟨by decide, (mi_gd5 71 rfl rfl), (mi_gd1 9 rfl rfl), by decide, by decide, by decide⟩
set_option maxRecDepth 100000 in
theorem okM_X7_layArc : mi_OkM m_X7_layArc := ⟨by decide, (mi_gd5 107 rfl rfl), (mi_gd1 9 rfl rfl), by decide, by decide, by decide⟩
set_option maxRecDepth 100000 in
theorem okM_X7_readLine : mi_OkM m_X7_readLine := ⟨by decide, (mi_gd5 9 rfl rfl), (mi_gd1 9 rfl rfl), by decide, by decide, by decide⟩
set_option maxRecDepth 100000 in
theorem okM_X7_guessKinds : mi_OkM m_X7_guessKinds := ⟨by decide, (mi_gd5 115 rfl rfl), (mi_gd1 9 rfl rfl), by decide, by decide, by decide⟩
set_option maxRecDepth 100000 in
theorem okM_X7_takeOver : mi_OkM m_X7_takeOver := ⟨by decide, (mi_gd5 119 rfl rfl), (mi_gd1 9 rfl rfl), by decide, by decide, by decide⟩
set_option maxRecDepth 100000 in
theorem okM_X7_takeRow : mi_OkM m_X7_takeRow := ⟨by decide, (mi_gd5 122 rfl rfl), (mi_gd1 9 rfl rfl), by decide, by decide, by decide⟩
set_option maxRecDepth 100000 in
theorem okM_X7_read : mi_OkM m_X7_read := ⟨by decide, (mi_gd5 5 rfl rfl), (mi_gd1 9 rfl rfl), by decide, by decide, by decide⟩
set_option maxRecDepth 100000 in
theorem okM_X7_lie : mi_OkM m_X7_lie := ⟨by decide, (mi_gd5 111 rfl rfl), (mi_gd1 9 rfl rfl), by decide, by decide, by decide⟩
set_option maxRecDepth 100000 in
theorem okM_X7_fault : mi_OkM m_X7_fault := ⟨by decide, (mi_gd5 126 rfl rfl), (mi_gd1 9 rfl rfl), by decide, by decide, by decide⟩
set_option maxRecDepth 100000 in
theorem okM_X7_manner : mi_OkM m_X7_manner := ⟨by decide, (mi_gd5 130 rfl rfl), (mi_gd1 9 rfl rfl), by decide, by decide, by decide⟩
set_option maxRecDepth 100000 in
theorem okM_X7_find : mi_OkM m_X7_find := ⟨by decide, (mi_gd5 134 rfl rfl), (mi_gd1 9 rfl rfl), by decide, by decide, by decide⟩
set_option maxRecDepth 100000 in
theorem okM_X7_node : mi_OkM m_X7_node := ⟨by decide, (mi_gd5 138 rfl rfl), (mi_gd1 9 rfl rfl), by decide, by decide, by decide⟩
set_option maxRecDepth 100000 in
theorem okM_X7_arc : mi_OkM m_X7_arc := ⟨by decide, (mi_gd5 142 rfl rfl), (mi_gd1 9 rfl rfl), by decide, by decide, by decide⟩
set_option maxRecDepth 100000 in
theorem okM_X7_isColumn : mi_OkM m_X7_isColumn := ⟨by decide, (mi_gd5 150 rfl rfl), (mi_gd1 9 rfl rfl), by decide, by decide, by decide⟩
set_option maxRecDepth 100000 in
theorem okM_X7_kind : mi_OkM m_X7_kind := ⟨by decide, (mi_gd5 146 rfl rfl), (mi_gd1 9 rfl rfl), by decide, by decide, by decide⟩
set_option maxRecDepth 100000 in
theorem okM_X7_head : mi_OkM m_X7_head := ⟨by decide, (mi_gd5 154 rfl rfl), (mi_gd1 9 rfl rfl), by decide, by decide, by decide⟩
set_option maxRecDepth 100000 in
theorem okM_X7_value : mi_OkM m_X7_value := ⟨by decide, (mi_gd5 158 rfl rfl), (mi_gd1 9 rfl rfl), by decide, by decide, by decide⟩
set_option maxRecDepth 100000 in
theorem okM_X7_sign_ : mi_OkM m_X7_sign_ := ⟨by decide, (mi_gd5 162 rfl rfl), (mi_gd1 9 rfl rfl), by decide, by decide, by decide⟩
set_option maxRecDepth 100000 in
theorem okM_X7_comment : mi_OkM m_X7_comment := ⟨by decide, (mi_gd5 166 rfl rfl), (mi_gd1 9 rfl rfl), by decide, by decide, by decide⟩
set_option maxRecDepth 100000 in
theorem okM_X7_put : mi_OkM m_X7_put := ⟨by decide, (mi_gd5 174 rfl rfl), (mi_gd1 9 rfl rfl), by decide, by decide, by decide⟩
set_option maxRecDepth 100000 in
theorem okM_X7_putName : mi_OkM m_X7_putName := ⟨by decide, (mi_gd5 182 rfl rfl), (mi_gd1 9 rfl rfl), by decide, by decide, by decide⟩
set_option maxRecDepth 100000 in
theorem okM_X7_putWhole : mi_OkM m_X7_putWhole := ⟨by decide, (mi_gd5 178 rfl rfl), (mi_gd1 9 rfl rfl), by decide, by decide, by decide⟩
set_option maxRecDepth 100000 in
theorem okM_X7_putNumber : mi_OkM m_X7_putNumber := ⟨by decide, (mi_gd5 190 rfl rfl), (mi_gd1 9 rfl rfl), by decide, by decide, by decide⟩
set_option maxRecDepth 100000 in
theorem okM_X7_putArc : mi_OkM m_X7_putArc := ⟨by decide, (mi_gd5 186 rfl rfl), (mi_gd1 9 rfl rfl), by decide, by decide, by decide⟩
set_option maxRecDepth 100000 in
theorem okM_X7_print : mi_OkM m_X7_print := ⟨by decide, (mi_gd5 170 rfl rfl), (mi_gd1 9 rfl rfl), by decide, by decide, by decide⟩
set_option maxRecDepth 100000 in
theorem okM_X7_out : mi_OkM m_X7_out := ⟨by decide, (mi_gd5 194 rfl rfl), (mi_gd1 9 rfl rfl), by decide, by decide, by decide⟩
set_option maxRecDepth 100000 in
theorem okM_X7_about : mi_OkM m_X7_about := ⟨by decide, (mi_gd5 198 rfl rfl), (mi_gd1 9 rfl rfl), by decide, by decide, by decide⟩
end MI9
end
section
section MJ0
theorem mi_cI {Ms : List mD} {own : String} {cc : ByteArray} {nL : Nat} {ini : Bool} {ret : Option FieldType} {pc : Nat} {f : mF} {t : mT} (h : mi_Ok own cc nL ini pc f) (ht : ∀ q ∈ t, mi_OkE Ms own cc nL ini ret q) : ∀ q ∈ (pc, (.inl f : mE)) :: t, mi_OkE Ms own cc nL ini ret q := List.forall_mem_cons.mpr ⟨h, ht⟩
theorem mi_cR {Ms : List mD} {own : String} {cc : ByteArray} {nL : Nat} {ini : Bool} {ret : Option FieldType} {pc k : Nat} {t : mT} (h : mi_OkR ret cc pc k) (ht : ∀ q ∈ t, mi_OkE Ms own cc nL ini ret q) : ∀ q ∈ (pc, (.inr (.inl k) : mE)) :: t, mi_OkE Ms own cc nL ini ret q := List.forall_mem_cons.mpr ⟨h, ht⟩
theorem mi_cC {Ms : List mD} {own : String} {cc : ByteArray} {nL : Nat} {ini : Bool} {ret : Option FieldType} {pc : Nat} {ca : mA} {t : mT} (h : mi_OkC Ms own cc pc ca) (ht : ∀ q ∈ t, mi_OkE Ms own cc nL ini ret q) : ∀ q ∈ (pc, (.inr (.inr (.inl ca)) : mE)) :: t, mi_OkE Ms own cc nL ini ret q := List.forall_mem_cons.mpr ⟨h, ht⟩
theorem mi_cT {Ms : List mD} {own : String} {cc : ByteArray} {nL : Nat} {ini : Bool} {ret : Option FieldType} {pc : Nat} {E : String} {t : mT} (ht : ∀ q ∈ t, mi_OkE Ms own cc nL ini ret q) : ∀ q ∈ (pc, (.inr (.inr (.inr E)) : mE)) :: t, mi_OkE Ms own cc nL ini ret q := List.forall_mem_cons.mpr ⟨trivial, ht⟩
theorem mi_cN {Ms : List mD} {own : String} {cc : ByteArray} {nL : Nat} {ini : Bool} {ret : Option FieldType} : ∀ q ∈ ([] : mT), mi_OkE Ms own cc nL ini ret q := fun _ h => absurd h List.not_mem_nil
set_option maxRecDepth 100000 in
set_option maxHeartbeats 4000000 in
theorem ok_X0_init : ∀ q ∈ t_X0_init, mi_OkE mi_ms RX0 cX0_init 2 true none q :=
  mi_cI (mi_aload_n_ok (k := 0) (by decide +kernel) rfl rfl) <|
  mi_cI (mi_obj_ok (index := 3) (by decide +kernel) (mi_gd1 180 rfl rfl) (mi_gd1 24 rfl rfl) (mi_gd1 25 rfl rfl) rfl) <|
  mi_cI (mi_aload_n_ok (k := 0) (by decide +kernel) rfl rfl) <|
  mi_cI (mi_aload_n_ok (k := 1) (by decide +kernel) rfl rfl) <|
  mi_cI (mi_put_ok (by decide +kernel) fl_X0_9 rfl rfl) <|
  mi_cI (mi_aload_n_ok (k := 0) (by decide +kernel) rfl rfl) <|
  mi_cI (mi_iconst_ok (n := 0) (by decide) (by decide +kernel) rfl) <|
  mi_cI (mi_put_ok (by decide +kernel) fl_X0_15 rfl rfl) <|
  mi_cI (mi_aload_n_ok (k := 0) (by decide +kernel) rfl rfl) <|
  mi_cI (mi_iconst_ok (n := (-1)) (by decide) (by decide +kernel) rfl) <|
  mi_cI (mi_put_ok (by decide +kernel) fl_X0_19 rfl rfl) <|
  mi_cI (mi_aload_n_ok (k := 0) (by decide +kernel) rfl rfl) <|
  mi_cI (mi_iconst_ok (n := 0) (by decide) (by decide +kernel) rfl) <|
  mi_cI (mi_put_ok (by decide +kernel) fl_X0_22 rfl rfl) <|
  mi_cI (mi_aload_n_ok (k := 0) (by decide +kernel) rfl rfl) <|
  mi_cI (mi_iconst_ok (n := 0) (by decide) (by decide +kernel) rfl) <|
  mi_cI (mi_put_ok (by decide +kernel) fl_X0_25 rfl rfl) <|
  mi_cI (mi_aload_n_ok (k := 0) (by decide +kernel) rfl rfl) <|
  mi_cI (mi_iconst_ok (n := 0) (by decide) (by decide +kernel) rfl) <|
  mi_cI (mi_put_ok (by decide +kernel) fl_X0_28 rfl rfl) <|
  mi_cI (mi_aload_n_ok (k := 0) (by decide +kernel) rfl rfl) <|
  mi_cI (mi_iconst_ok (n := 0) (by decide) (by decide +kernel) rfl) <|
  mi_cI (mi_put_ok (by decide +kernel) fl_X0_31 rfl rfl) <|
  mi_cI (mi_aload_n_ok (k := 0) (by decide +kernel) rfl rfl) <|
  mi_cI (mi_iconst_ok (n := 0) (by decide) (by decide +kernel) rfl) <|
  mi_cI (mi_put_ok (by decide +kernel) fl_X0_34 rfl rfl) <|
  mi_cR (Or.inl ⟨rfl, (by decide +kernel), rfl⟩) <| mi_cN
set_option maxRecDepth 100000 in
set_option maxHeartbeats 4000000 in
theorem ok_X0_start : ∀ q ∈ t_X0_start, mi_OkE mi_ms RX0 cX0_start 2 false none q :=
  mi_cI (mi_aload_n_ok (k := 0) (by decide +kernel) rfl rfl) <|
  mi_cI (mi_aload_n_ok (k := 1) (by decide +kernel) rfl rfl) <|
  mi_cI (mi_put_ok (by decide +kernel) fl_X0_9 rfl rfl) <|
  mi_cI (mi_aload_n_ok (k := 0) (by decide +kernel) rfl rfl) <|
  mi_cI (mi_iconst_ok (n := (-1)) (by decide) (by decide +kernel) rfl) <|
  mi_cI (mi_put_ok (by decide +kernel) fl_X0_15 rfl rfl) <|
  mi_cI (mi_aload_n_ok (k := 0) (by decide +kernel) rfl rfl) <|
  mi_cI (mi_iconst_ok (n := 0) (by decide) (by decide +kernel) rfl) <|
  mi_cI (mi_put_ok (by decide +kernel) fl_X0_22 rfl rfl) <|
  mi_cI (mi_aload_n_ok (k := 0) (by decide +kernel) rfl rfl) <|
  mi_cI (mi_iconst_ok (n := 0) (by decide) (by decide +kernel) rfl) <|
  mi_cI (mi_put_ok (by decide +kernel) fl_X0_28 rfl rfl) <|
  mi_cI (mi_aload_n_ok (k := 0) (by decide +kernel) rfl rfl) <|
  mi_cC ⟨m_X0_nextLine, rfl, okM_X0_nextLine, 37, 0, by decide +kernel, Or.inl ⟨(by decide +kernel), rfl, (mi_gd2 68 rfl rfl), (mi_gd2 69 rfl rfl), (mi_gd2 70 rfl rfl), 0, _, _, rfl, rfl⟩⟩ <|
  mi_cR (Or.inl ⟨rfl, (by decide +kernel), rfl⟩) <| mi_cN
set_option maxRecDepth 100000 in
set_option maxHeartbeats 4000000 in
theorem ok_X0_hasLine : ∀ q ∈ t_X0_hasLine, mi_OkE mi_ms RX0 cX0_hasLine 1 false (some .boolean) q :=
  mi_cI (mi_aload_n_ok (k := 0) (by decide +kernel) rfl rfl) <|
  mi_cI (mi_get_ok (by decide +kernel) fl_X0_15 rfl) <|
  mi_cI (mi_aload_n_ok (k := 0) (by decide +kernel) rfl rfl) <|
  mi_cI (mi_get_ok (by decide +kernel) fl_X0_9 rfl) <|
  mi_cI (mi_get_ok (by decide +kernel) fl_X0_40 rfl) <|
  mi_cI (mi_icmp_ge_ok (off := 7) (by decide +kernel) (by decide) rfl) <|
  mi_cI (mi_iconst_ok (n := 1) (by decide) (by decide +kernel) rfl) <|
  mi_cI (mi_goto_ok (off := 4) (by decide +kernel) (by decide)) <|
  mi_cI (mi_iconst_ok (n := 0) (by decide) (by decide +kernel) rfl) <|
  mi_cR (Or.inr (Or.inr (Or.inl ⟨rfl, (by decide +kernel), rfl⟩))) <| mi_cN
set_option maxRecDepth 100000 in
set_option maxHeartbeats 4000000 in
theorem ok_X0_nextLine : ∀ q ∈ t_X0_nextLine, mi_OkE mi_ms RX0 cX0_nextLine 1 false none q :=
  mi_cI (mi_aload_n_ok (k := 0) (by decide +kernel) rfl rfl) <|
  mi_cC ⟨m_X0_step, rfl, okM_X0_step, 45, 0, by decide +kernel, Or.inl ⟨(by decide +kernel), rfl, (mi_gd2 72 rfl rfl), (mi_gd2 73 rfl rfl), (mi_gd2 74 rfl rfl), 0, _, _, rfl, rfl⟩⟩ <|
  mi_cI (mi_aload_n_ok (k := 0) (by decide +kernel) rfl rfl) <|
  mi_cI (mi_dup_ok (by decide +kernel) rfl) <|
  mi_cI (mi_get_ok (by decide +kernel) fl_X0_22 rfl) <|
  mi_cI (mi_iconst_ok (n := 1) (by decide) (by decide +kernel) rfl) <|
  mi_cI (mi_iadd_ok (by decide +kernel) rfl) <|
  mi_cI (mi_put_ok (by decide +kernel) fl_X0_22 rfl rfl) <|
  mi_cI (mi_aload_n_ok (k := 0) (by decide +kernel) rfl rfl) <|
  mi_cI (mi_aload_n_ok (k := 0) (by decide +kernel) rfl rfl) <|
  mi_cI (mi_get_ok (by decide +kernel) fl_X0_15 rfl) <|
  mi_cI (mi_put_ok (by decide +kernel) fl_X0_25 rfl rfl) <|
  mi_cR (Or.inl ⟨rfl, (by decide +kernel), rfl⟩) <| mi_cN
set_option maxRecDepth 100000 in
set_option maxHeartbeats 4000000 in
theorem ok_X0_step : ∀ q ∈ t_X0_step, mi_OkE mi_ms RX0 cX0_step 2 false none q :=
  mi_cI (mi_aload_n_ok (k := 0) (by decide +kernel) rfl rfl) <|
  mi_cI (mi_dup_ok (by decide +kernel) rfl) <|
  mi_cI (mi_get_ok (by decide +kernel) fl_X0_15 rfl) <|
  mi_cI (mi_iconst_ok (n := 1) (by decide) (by decide +kernel) rfl) <|
  mi_cI (mi_iadd_ok (by decide +kernel) rfl) <|
  mi_cI (mi_put_ok (by decide +kernel) fl_X0_15 rfl rfl) <|
  mi_cI (mi_aload_n_ok (k := 0) (by decide +kernel) rfl rfl) <|
  mi_cI (mi_get_ok (by decide +kernel) fl_X0_15 rfl) <|
  mi_cI (mi_if_lt_ok (off := 36) (by decide +kernel) (by decide) rfl) <|
  mi_cI (mi_aload_n_ok (k := 0) (by decide +kernel) rfl rfl) <|
  mi_cI (mi_get_ok (by decide +kernel) fl_X0_15 rfl) <|
  mi_cI (mi_aload_n_ok (k := 0) (by decide +kernel) rfl rfl) <|
  mi_cI (mi_get_ok (by decide +kernel) fl_X0_9 rfl) <|
  mi_cI (mi_get_ok (by decide +kernel) fl_X0_40 rfl) <|
  mi_cI (mi_icmp_ge_ok (off := 22) (by decide +kernel) (by decide) rfl) <|
  mi_cI (mi_aload_n_ok (k := 0) (by decide +kernel) rfl rfl) <|
  mi_cI (mi_get_ok (by decide +kernel) fl_X0_15 rfl) <|
  mi_cI (mi_aload_n_ok (k := 0) (by decide +kernel) rfl rfl) <|
  mi_cI (mi_get_ok (by decide +kernel) fl_X0_9 rfl) <|
  mi_cI (mi_get_ok (by decide +kernel) fl_X0_48 rfl) <|
  mi_cI (mi_alen_ok (by decide +kernel) rfl) <|
  mi_cI (mi_icmp_ge_ok (off := 7) (by decide +kernel) (by decide) rfl) <|
  mi_cI (mi_iconst_ok (n := 1) (by decide) (by decide +kernel) rfl) <|
  mi_cI (mi_goto_ok (off := 4) (by decide +kernel) (by decide)) <|
  mi_cI (mi_iconst_ok (n := 0) (by decide) (by decide +kernel) rfl) <|
  mi_cI (mi_istore_n_ok (k := 1) (by decide +kernel) rfl (by decide) rfl) <|
  mi_cI (mi_aload_n_ok (k := 0) (by decide +kernel) rfl rfl) <|
  mi_cI (mi_iload_n_ok (k := 1) (by decide +kernel) rfl rfl) <|
  mi_cI (mi_if_eq_ok (off := 35) (by decide +kernel) (by decide) rfl) <|
  mi_cI (mi_aload_n_ok (k := 0) (by decide +kernel) rfl rfl) <|
  mi_cI (mi_get_ok (by decide +kernel) fl_X0_9 rfl) <|
  mi_cI (mi_get_ok (by decide +kernel) fl_X0_48 rfl) <|
  mi_cI (mi_aload_n_ok (k := 0) (by decide +kernel) rfl rfl) <|
  mi_cI (mi_get_ok (by decide +kernel) fl_X0_15 rfl) <|
  mi_cI (mi_iald_ok (by decide +kernel) rfl) <|
  mi_cI (mi_bipush_ok (n := 10) (by decide) (by decide +kernel) rfl) <|
  mi_cI (mi_icmp_eq_ok (off := 18) (by decide +kernel) (by decide) rfl) <|
  mi_cI (mi_aload_n_ok (k := 0) (by decide +kernel) rfl rfl) <|
  mi_cI (mi_get_ok (by decide +kernel) fl_X0_9 rfl) <|
  mi_cI (mi_get_ok (by decide +kernel) fl_X0_48 rfl) <|
  mi_cI (mi_aload_n_ok (k := 0) (by decide +kernel) rfl rfl) <|
  mi_cI (mi_get_ok (by decide +kernel) fl_X0_15 rfl) <|
  mi_cI (mi_iald_ok (by decide +kernel) rfl) <|
  mi_cI (mi_goto_ok (off := 4) (by decide +kernel) (by decide)) <|
  mi_cI (mi_iconst_ok (n := (-1)) (by decide) (by decide +kernel) rfl) <|
  mi_cI (mi_put_ok (by decide +kernel) fl_X0_19 rfl rfl) <|
  mi_cR (Or.inl ⟨rfl, (by decide +kernel), rfl⟩) <| mi_cN
set_option maxRecDepth 100000 in
set_option maxHeartbeats 4000000 in
theorem ok_X0_skipBlanks : ∀ q ∈ t_X0_skipBlanks, mi_OkE mi_ms RX0 cX0_skipBlanks 2 false none q :=
  mi_cI (mi_iconst_ok (n := 0) (by decide) (by decide +kernel) rfl) <|
  mi_cI (mi_istore_n_ok (k := 1) (by decide +kernel) rfl (by decide) rfl) <|
  mi_cI (mi_iload_n_ok (k := 1) (by decide +kernel) rfl rfl) <|
  mi_cI (mi_sipush_ok (n := 600) (by decide) (by decide +kernel) rfl) <|
  mi_cI (mi_icmp_ge_ok (off := 22) (by decide +kernel) (by decide) rfl) <|
  mi_cI (mi_aload_n_ok (k := 0) (by decide +kernel) rfl rfl) <|
  mi_cI (mi_get_ok (by decide +kernel) fl_X0_19 rfl) <|
  mi_cI (mi_bipush_ok (n := 32) (by decide) (by decide +kernel) rfl) <|
  mi_cI (mi_icmp_ne_ok (off := 13) (by decide +kernel) (by decide) rfl) <|
  mi_cI (mi_aload_n_ok (k := 0) (by decide +kernel) rfl rfl) <|
  mi_cC ⟨m_X0_step, rfl, okM_X0_step, 45, 0, by decide +kernel, Or.inl ⟨(by decide +kernel), rfl, (mi_gd2 72 rfl rfl), (mi_gd2 73 rfl rfl), (mi_gd2 74 rfl rfl), 0, _, _, rfl, rfl⟩⟩ <|
  mi_cI (mi_inc_ok (by decide +kernel) (by decide) rfl) <|
  mi_cI (mi_goto_ok (off := (-23)) (by decide +kernel) (by decide)) <|
  mi_cR (Or.inl ⟨rfl, (by decide +kernel), rfl⟩) <| mi_cN
set_option maxRecDepth 100000 in
set_option maxHeartbeats 4000000 in
theorem ok_X0_isWordEnd : ∀ q ∈ t_X0_isWordEnd, mi_OkE mi_ms RX0 cX0_isWordEnd 1 false (some .boolean) q :=
  mi_cI (mi_aload_n_ok (k := 0) (by decide +kernel) rfl rfl) <|
  mi_cI (mi_get_ok (by decide +kernel) fl_X0_19 rfl) <|
  mi_cI (mi_bipush_ok (n := 32) (by decide) (by decide +kernel) rfl) <|
  mi_cI (mi_icmp_eq_ok (off := 11) (by decide +kernel) (by decide) rfl) <|
  mi_cI (mi_aload_n_ok (k := 0) (by decide +kernel) rfl rfl) <|
  mi_cI (mi_get_ok (by decide +kernel) fl_X0_19 rfl) <|
  mi_cI (mi_iconst_ok (n := (-1)) (by decide) (by decide +kernel) rfl) <|
  mi_cI (mi_icmp_ne_ok (off := 7) (by decide +kernel) (by decide) rfl) <|
  mi_cI (mi_iconst_ok (n := 1) (by decide) (by decide +kernel) rfl) <|
  mi_cI (mi_goto_ok (off := 4) (by decide +kernel) (by decide)) <|
  mi_cI (mi_iconst_ok (n := 0) (by decide) (by decide +kernel) rfl) <|
  mi_cR (Or.inr (Or.inr (Or.inl ⟨rfl, (by decide +kernel), rfl⟩))) <| mi_cN
set_option maxRecDepth 100000 in
set_option maxHeartbeats 4000000 in
theorem ok_X0_placeOf : ∀ q ∈ t_X0_placeOf, mi_OkE mi_ms RX0 cX0_placeOf 2 false (some .int) q :=
  mi_cI (mi_iload_n_ok (k := 1) (by decide +kernel) rfl rfl) <|
  mi_cI (mi_aload_n_ok (k := 0) (by decide +kernel) rfl rfl) <|
  mi_cI (mi_get_ok (by decide +kernel) fl_X0_25 rfl) <|
  mi_cI (mi_isub_ok (by decide +kernel) rfl) <|
  mi_cI (mi_iconst_ok (n := 1) (by decide) (by decide +kernel) rfl) <|
  mi_cI (mi_iadd_ok (by decide +kernel) rfl) <|
  mi_cR (Or.inr (Or.inl ⟨rfl, (by decide +kernel), rfl⟩)) <| mi_cN
set_option maxRecDepth 100000 in
set_option maxHeartbeats 4000000 in
theorem ok_X0_wrong : ∀ q ∈ t_X0_wrong, mi_OkE mi_ms RX0 cX0_wrong 3 false (some .boolean) q :=
  mi_cI (mi_aload_n_ok (k := 0) (by decide +kernel) rfl rfl) <|
  mi_cI (mi_iload_n_ok (k := 1) (by decide +kernel) rfl rfl) <|
  mi_cI (mi_put_ok (by decide +kernel) fl_X0_28 rfl rfl) <|
  mi_cI (mi_aload_n_ok (k := 0) (by decide +kernel) rfl rfl) <|
  mi_cI (mi_aload_n_ok (k := 0) (by decide +kernel) rfl rfl) <|
  mi_cI (mi_get_ok (by decide +kernel) fl_X0_22 rfl) <|
  mi_cI (mi_put_ok (by decide +kernel) fl_X0_31 rfl rfl) <|
  mi_cI (mi_aload_n_ok (k := 0) (by decide +kernel) rfl rfl) <|
  mi_cI (mi_iload_n_ok (k := 2) (by decide +kernel) rfl rfl) <|
  mi_cI (mi_aload_n_ok (k := 0) (by decide +kernel) rfl rfl) <|
  mi_cI (mi_get_ok (by decide +kernel) fl_X0_25 rfl) <|
  mi_cI (mi_isub_ok (by decide +kernel) rfl) <|
  mi_cI (mi_iconst_ok (n := 1) (by decide) (by decide +kernel) rfl) <|
  mi_cI (mi_iadd_ok (by decide +kernel) rfl) <|
  mi_cI (mi_put_ok (by decide +kernel) fl_X0_34 rfl rfl) <|
  mi_cI (mi_iconst_ok (n := 0) (by decide) (by decide +kernel) rfl) <|
  mi_cR (Or.inr (Or.inr (Or.inl ⟨rfl, (by decide +kernel), rfl⟩))) <| mi_cN
set_option maxRecDepth 100000 in
set_option maxHeartbeats 4000000 in
theorem ok_X0_wrongElsewhere : ∀ q ∈ t_X0_wrongElsewhere, mi_OkE mi_ms RX0 cX0_wrongElsewhere 4 false (some .boolean) q :=
  mi_cI (mi_aload_n_ok (k := 0) (by decide +kernel) rfl rfl) <|
  mi_cI (mi_iload_n_ok (k := 1) (by decide +kernel) rfl rfl) <|
  mi_cI (mi_put_ok (by decide +kernel) fl_X0_28 rfl rfl) <|
  mi_cI (mi_aload_n_ok (k := 0) (by decide +kernel) rfl rfl) <|
  mi_cI (mi_iload_n_ok (k := 2) (by decide +kernel) rfl rfl) <|
  mi_cI (mi_put_ok (by decide +kernel) fl_X0_31 rfl rfl) <|
  mi_cI (mi_aload_n_ok (k := 0) (by decide +kernel) rfl rfl) <|
  mi_cI (mi_iload_n_ok (k := 3) (by decide +kernel) rfl rfl) <|
  mi_cI (mi_put_ok (by decide +kernel) fl_X0_34 rfl rfl) <|
  mi_cI (mi_iconst_ok (n := 0) (by decide) (by decide +kernel) rfl) <|
  mi_cR (Or.inr (Or.inr (Or.inl ⟨rfl, (by decide +kernel), rfl⟩))) <| mi_cN
set_option maxRecDepth 100000 in
set_option maxHeartbeats 4000000 in
theorem ok_X1_init : ∀ q ∈ t_X1_init, mi_OkE mi_ms RX1 cX1_init 1 true none q :=
  mi_cI (mi_aload_n_ok (k := 0) (by decide +kernel) rfl rfl) <|
  mi_cI (mi_obj_ok (index := 3) (by decide +kernel) (mi_gd1 65 rfl rfl) (mi_gd1 24 rfl rfl) (mi_gd1 25 rfl rfl) rfl) <|
  mi_cI (mi_aload_n_ok (k := 0) (by decide +kernel) rfl rfl) <|
  mi_cI (mi_new_ok (index := 9) (by decide +kernel) cf_X3 (mi_gd1 66 rfl rfl) (mi_gd1 27 rfl rfl) (mi_gd1 2 rfl rfl) (by decide +kernel) (by decide +kernel) rfl) <|
  mi_cI (mi_dup_ok (by decide +kernel) rfl) <|
  mi_cI (mi_sipush_ok (n := 600) (by decide) (by decide +kernel) rfl) <|
  mi_cC ⟨m_X3_init, rfl, okM_X3_init, 11, 1, by decide +kernel, Or.inr (Or.inl ⟨(by decide +kernel), rfl, (mi_gd1 67 rfl rfl), (mi_gd1 29 rfl rfl), rfl, rfl, 3, rfl⟩)⟩ <|
  mi_cI (mi_putF_ok (by decide +kernel) fl_X1_14 rfl rfl (fun C T N h => by cases h; rfl) (fun C T N h => by cases h; exact (mi_gd1 92 rfl rfl)) rfl) <|
  mi_cI (mi_aload_n_ok (k := 0) (by decide +kernel) rfl rfl) <|
  mi_cI (mi_new_ok (index := 20) (by decide +kernel) cf_X4 (mi_gd1 68 rfl rfl) (mi_gd1 69 rfl rfl) (mi_gd1 6 rfl rfl) (by decide +kernel) (by decide +kernel) rfl) <|
  mi_cI (mi_dup_ok (by decide +kernel) rfl) <|
  mi_cI (mi_aload_n_ok (k := 0) (by decide +kernel) rfl rfl) <|
  mi_cI (mi_get_ok (by decide +kernel) fl_X1_14 rfl) <|
  mi_cI (mi_bipush_ok (n := 30) (by decide) (by decide +kernel) rfl) <|
  mi_cC ⟨m_X4_init, rfl, okM_X4_init, 22, 2, by decide +kernel, Or.inr (Or.inl ⟨(by decide +kernel), rfl, (mi_gd1 70 rfl rfl), (mi_gd1 71 rfl rfl), rfl, rfl, 4, rfl⟩)⟩ <|
  mi_cI (mi_putF_ok (by decide +kernel) fl_X1_25 rfl rfl (fun C T N h => by cases h; rfl) (fun C T N h => by cases h; exact (mi_gd1 94 rfl rfl)) rfl) <|
  mi_cI (mi_aload_n_ok (k := 0) (by decide +kernel) rfl rfl) <|
  mi_cI (mi_new_ok (index := 20) (by decide +kernel) cf_X4 (mi_gd1 68 rfl rfl) (mi_gd1 69 rfl rfl) (mi_gd1 6 rfl rfl) (by decide +kernel) (by decide +kernel) rfl) <|
  mi_cI (mi_dup_ok (by decide +kernel) rfl) <|
  mi_cI (mi_aload_n_ok (k := 0) (by decide +kernel) rfl rfl) <|
  mi_cI (mi_get_ok (by decide +kernel) fl_X1_14 rfl) <|
  mi_cI (mi_iconst_ok (n := 3) (by decide) (by decide +kernel) rfl) <|
  mi_cC ⟨m_X4_init, rfl, okM_X4_init, 22, 2, by decide +kernel, Or.inr (Or.inl ⟨(by decide +kernel), rfl, (mi_gd1 70 rfl rfl), (mi_gd1 71 rfl rfl), rfl, rfl, 4, rfl⟩)⟩ <|
  mi_cI (mi_putF_ok (by decide +kernel) fl_X1_29 rfl rfl (fun C T N h => by cases h; rfl) (fun C T N h => by cases h; exact (mi_gd1 98 rfl rfl)) rfl) <|
  mi_cI (mi_aload_n_ok (k := 0) (by decide +kernel) rfl rfl) <|
  mi_cI (mi_new_ok (index := 20) (by decide +kernel) cf_X4 (mi_gd1 68 rfl rfl) (mi_gd1 69 rfl rfl) (mi_gd1 6 rfl rfl) (by decide +kernel) (by decide +kernel) rfl) <|
  mi_cI (mi_dup_ok (by decide +kernel) rfl) <|
  mi_cI (mi_aload_n_ok (k := 0) (by decide +kernel) rfl rfl) <|
  mi_cI (mi_get_ok (by decide +kernel) fl_X1_14 rfl) <|
  mi_cI (mi_sipush_ok (n := 300) (by decide) (by decide +kernel) rfl) <|
  mi_cC ⟨m_X4_init, rfl, okM_X4_init, 22, 2, by decide +kernel, Or.inr (Or.inl ⟨(by decide +kernel), rfl, (mi_gd1 70 rfl rfl), (mi_gd1 71 rfl rfl), rfl, rfl, 4, rfl⟩)⟩ <|
  mi_cI (mi_putF_ok (by decide +kernel) fl_X1_32 rfl rfl (fun C T N h => by cases h; rfl) (fun C T N h => by cases h; exact (mi_gd1 102 rfl rfl)) rfl) <|
  mi_cI (mi_aload_n_ok (k := 0) (by decide +kernel) rfl rfl) <|
  mi_cI (mi_new_ok (index := 9) (by decide +kernel) cf_X3 (mi_gd1 66 rfl rfl) (mi_gd1 27 rfl rfl) (mi_gd1 2 rfl rfl) (by decide +kernel) (by decide +kernel) rfl) <|
  mi_cI (mi_dup_ok (by decide +kernel) rfl) <|
  mi_cI (mi_iconst_ok (n := 3) (by decide) (by decide +kernel) rfl) <|
  mi_cC ⟨m_X3_init, rfl, okM_X3_init, 11, 1, by decide +kernel, Or.inr (Or.inl ⟨(by decide +kernel), rfl, (mi_gd1 67 rfl rfl), (mi_gd1 29 rfl rfl), rfl, rfl, 3, rfl⟩)⟩ <|
  mi_cI (mi_putF_ok (by decide +kernel) fl_X1_35 rfl rfl (fun C T N h => by cases h; rfl) (fun C T N h => by cases h; exact (mi_gd1 106 rfl rfl)) rfl) <|
  mi_cI (mi_aload_n_ok (k := 0) (by decide +kernel) rfl rfl) <|
  mi_cI (mi_new_ok (index := 9) (by decide +kernel) cf_X3 (mi_gd1 66 rfl rfl) (mi_gd1 27 rfl rfl) (mi_gd1 2 rfl rfl) (by decide +kernel) (by decide +kernel) rfl) <|
  mi_cI (mi_dup_ok (by decide +kernel) rfl) <|
  mi_cI (mi_bipush_ok (n := 40) (by decide) (by decide +kernel) rfl) <|
  mi_cC ⟨m_X3_init, rfl, okM_X3_init, 11, 1, by decide +kernel, Or.inr (Or.inl ⟨(by decide +kernel), rfl, (mi_gd1 67 rfl rfl), (mi_gd1 29 rfl rfl), rfl, rfl, 3, rfl⟩)⟩ <|
  mi_cI (mi_putF_ok (by decide +kernel) fl_X1_38 rfl rfl (fun C T N h => by cases h; rfl) (fun C T N h => by cases h; exact (mi_gd1 110 rfl rfl)) rfl) <|
  mi_cI (mi_aload_n_ok (k := 0) (by decide +kernel) rfl rfl) <|
  mi_cI (mi_new_ok (index := 9) (by decide +kernel) cf_X3 (mi_gd1 66 rfl rfl) (mi_gd1 27 rfl rfl) (mi_gd1 2 rfl rfl) (by decide +kernel) (by decide +kernel) rfl) <|
  mi_cI (mi_dup_ok (by decide +kernel) rfl) <|
  mi_cI (mi_bipush_ok (n := 40) (by decide) (by decide +kernel) rfl) <|
  mi_cC ⟨m_X3_init, rfl, okM_X3_init, 11, 1, by decide +kernel, Or.inr (Or.inl ⟨(by decide +kernel), rfl, (mi_gd1 67 rfl rfl), (mi_gd1 29 rfl rfl), rfl, rfl, 3, rfl⟩)⟩ <|
  mi_cI (mi_putF_ok (by decide +kernel) fl_X1_41 rfl rfl (fun C T N h => by cases h; rfl) (fun C T N h => by cases h; exact (mi_gd1 113 rfl rfl)) rfl) <|
  mi_cI (mi_aload_n_ok (k := 0) (by decide +kernel) rfl rfl) <|
  mi_cI (mi_new_ok (index := 9) (by decide +kernel) cf_X3 (mi_gd1 66 rfl rfl) (mi_gd1 27 rfl rfl) (mi_gd1 2 rfl rfl) (by decide +kernel) (by decide +kernel) rfl) <|
  mi_cI (mi_dup_ok (by decide +kernel) rfl) <|
  mi_cI (mi_bipush_ok (n := 40) (by decide) (by decide +kernel) rfl) <|
  mi_cC ⟨m_X3_init, rfl, okM_X3_init, 11, 1, by decide +kernel, Or.inr (Or.inl ⟨(by decide +kernel), rfl, (mi_gd1 67 rfl rfl), (mi_gd1 29 rfl rfl), rfl, rfl, 3, rfl⟩)⟩ <|
  mi_cI (mi_putF_ok (by decide +kernel) fl_X1_44 rfl rfl (fun C T N h => by cases h; rfl) (fun C T N h => by cases h; exact (mi_gd1 116 rfl rfl)) rfl) <|
  mi_cI (mi_aload_n_ok (k := 0) (by decide +kernel) rfl rfl) <|
  mi_cI (mi_new_ok (index := 20) (by decide +kernel) cf_X4 (mi_gd1 68 rfl rfl) (mi_gd1 69 rfl rfl) (mi_gd1 6 rfl rfl) (by decide +kernel) (by decide +kernel) rfl) <|
  mi_cI (mi_dup_ok (by decide +kernel) rfl) <|
  mi_cI (mi_aload_n_ok (k := 0) (by decide +kernel) rfl rfl) <|
  mi_cI (mi_get_ok (by decide +kernel) fl_X1_14 rfl) <|
  mi_cI (mi_bipush_ok (n := 123) (by decide) (by decide +kernel) rfl) <|
  mi_cC ⟨m_X4_init, rfl, okM_X4_init, 22, 2, by decide +kernel, Or.inr (Or.inl ⟨(by decide +kernel), rfl, (mi_gd1 70 rfl rfl), (mi_gd1 71 rfl rfl), rfl, rfl, 4, rfl⟩)⟩ <|
  mi_cI (mi_putF_ok (by decide +kernel) fl_X1_47 rfl rfl (fun C T N h => by cases h; rfl) (fun C T N h => by cases h; exact (mi_gd1 118 rfl rfl)) rfl) <|
  mi_cI (mi_aload_n_ok (k := 0) (by decide +kernel) rfl rfl) <|
  mi_cI (mi_new_ok (index := 9) (by decide +kernel) cf_X3 (mi_gd1 66 rfl rfl) (mi_gd1 27 rfl rfl) (mi_gd1 2 rfl rfl) (by decide +kernel) (by decide +kernel) rfl) <|
  mi_cI (mi_dup_ok (by decide +kernel) rfl) <|
  mi_cI (mi_bipush_ok (n := 123) (by decide) (by decide +kernel) rfl) <|
  mi_cC ⟨m_X3_init, rfl, okM_X3_init, 11, 1, by decide +kernel, Or.inr (Or.inl ⟨(by decide +kernel), rfl, (mi_gd1 67 rfl rfl), (mi_gd1 29 rfl rfl), rfl, rfl, 3, rfl⟩)⟩ <|
  mi_cI (mi_putF_ok (by decide +kernel) fl_X1_50 rfl rfl (fun C T N h => by cases h; rfl) (fun C T N h => by cases h; exact (mi_gd1 121 rfl rfl)) rfl) <|
  mi_cI (mi_aload_n_ok (k := 0) (by decide +kernel) rfl rfl) <|
  mi_cI (mi_new_ok (index := 9) (by decide +kernel) cf_X3 (mi_gd1 66 rfl rfl) (mi_gd1 27 rfl rfl) (mi_gd1 2 rfl rfl) (by decide +kernel) (by decide +kernel) rfl) <|
  mi_cI (mi_dup_ok (by decide +kernel) rfl) <|
  mi_cI (mi_bipush_ok (n := 123) (by decide) (by decide +kernel) rfl) <|
  mi_cC ⟨m_X3_init, rfl, okM_X3_init, 11, 1, by decide +kernel, Or.inr (Or.inl ⟨(by decide +kernel), rfl, (mi_gd1 67 rfl rfl), (mi_gd1 29 rfl rfl), rfl, rfl, 3, rfl⟩)⟩ <|
  mi_cI (mi_putF_ok (by decide +kernel) fl_X1_53 rfl rfl (fun C T N h => by cases h; rfl) (fun C T N h => by cases h; exact (mi_gd1 124 rfl rfl)) rfl) <|
  mi_cI (mi_aload_n_ok (k := 0) (by decide +kernel) rfl rfl) <|
  mi_cI (mi_new_ok (index := 9) (by decide +kernel) cf_X3 (mi_gd1 66 rfl rfl) (mi_gd1 27 rfl rfl) (mi_gd1 2 rfl rfl) (by decide +kernel) (by decide +kernel) rfl) <|
  mi_cI (mi_dup_ok (by decide +kernel) rfl) <|
  mi_cI (mi_sipush_ok (n := 300) (by decide) (by decide +kernel) rfl) <|
  mi_cC ⟨m_X3_init, rfl, okM_X3_init, 11, 1, by decide +kernel, Or.inr (Or.inl ⟨(by decide +kernel), rfl, (mi_gd1 67 rfl rfl), (mi_gd1 29 rfl rfl), rfl, rfl, 3, rfl⟩)⟩ <|
  mi_cI (mi_putF_ok (by decide +kernel) fl_X1_56 rfl rfl (fun C T N h => by cases h; rfl) (fun C T N h => by cases h; exact (mi_gd1 127 rfl rfl)) rfl) <|
  mi_cI (mi_aload_n_ok (k := 0) (by decide +kernel) rfl rfl) <|
  mi_cI (mi_iconst_ok (n := 0) (by decide) (by decide +kernel) rfl) <|
  mi_cI (mi_put_ok (by decide +kernel) fl_X1_59 rfl rfl) <|
  mi_cI (mi_aload_n_ok (k := 0) (by decide +kernel) rfl rfl) <|
  mi_cI (mi_iconst_ok (n := 0) (by decide) (by decide +kernel) rfl) <|
  mi_cI (mi_put_ok (by decide +kernel) fl_X1_63 rfl rfl) <|
  mi_cI (mi_aload_n_ok (k := 0) (by decide +kernel) rfl rfl) <|
  mi_cI (mi_iconst_ok (n := 0) (by decide) (by decide +kernel) rfl) <|
  mi_cI (mi_put_ok (by decide +kernel) fl_X1_66 rfl rfl) <|
  mi_cR (Or.inl ⟨rfl, (by decide +kernel), rfl⟩) <| mi_cN
set_option maxRecDepth 100000 in
set_option maxHeartbeats 4000000 in
theorem ok_X1_clear : ∀ q ∈ t_X1_clear, mi_OkE mi_ms RX1 cX1_clear 1 false none q :=
  mi_cI (mi_aload_n_ok (k := 0) (by decide +kernel) rfl rfl) <|
  mi_cI (mi_get_ok (by decide +kernel) fl_X1_14 rfl) <|
  mi_cC ⟨m_X3_clear, rfl, okM_X3_clear, 69, 0, by decide +kernel, Or.inl ⟨(by decide +kernel), rfl, (mi_gd2 80 rfl rfl), (mi_gd2 81 rfl rfl), (mi_gd2 82 rfl rfl), 3, _, _, rfl, rfl⟩⟩ <|
  mi_cI (mi_aload_n_ok (k := 0) (by decide +kernel) rfl rfl) <|
  mi_cI (mi_get_ok (by decide +kernel) fl_X1_25 rfl) <|
  mi_cC ⟨m_X4_clear, rfl, okM_X4_clear, 72, 0, by decide +kernel, Or.inl ⟨(by decide +kernel), rfl, (mi_gd2 84 rfl rfl), (mi_gd2 85 rfl rfl), (mi_gd2 86 rfl rfl), 4, _, _, rfl, rfl⟩⟩ <|
  mi_cI (mi_aload_n_ok (k := 0) (by decide +kernel) rfl rfl) <|
  mi_cI (mi_get_ok (by decide +kernel) fl_X1_29 rfl) <|
  mi_cC ⟨m_X4_clear, rfl, okM_X4_clear, 72, 0, by decide +kernel, Or.inl ⟨(by decide +kernel), rfl, (mi_gd2 84 rfl rfl), (mi_gd2 85 rfl rfl), (mi_gd2 86 rfl rfl), 4, _, _, rfl, rfl⟩⟩ <|
  mi_cI (mi_aload_n_ok (k := 0) (by decide +kernel) rfl rfl) <|
  mi_cI (mi_get_ok (by decide +kernel) fl_X1_32 rfl) <|
  mi_cC ⟨m_X4_clear, rfl, okM_X4_clear, 72, 0, by decide +kernel, Or.inl ⟨(by decide +kernel), rfl, (mi_gd2 84 rfl rfl), (mi_gd2 85 rfl rfl), (mi_gd2 86 rfl rfl), 4, _, _, rfl, rfl⟩⟩ <|
  mi_cI (mi_aload_n_ok (k := 0) (by decide +kernel) rfl rfl) <|
  mi_cI (mi_get_ok (by decide +kernel) fl_X1_35 rfl) <|
  mi_cC ⟨m_X3_clear, rfl, okM_X3_clear, 69, 0, by decide +kernel, Or.inl ⟨(by decide +kernel), rfl, (mi_gd2 80 rfl rfl), (mi_gd2 81 rfl rfl), (mi_gd2 82 rfl rfl), 3, _, _, rfl, rfl⟩⟩ <|
  mi_cI (mi_aload_n_ok (k := 0) (by decide +kernel) rfl rfl) <|
  mi_cI (mi_get_ok (by decide +kernel) fl_X1_38 rfl) <|
  mi_cC ⟨m_X3_clear, rfl, okM_X3_clear, 69, 0, by decide +kernel, Or.inl ⟨(by decide +kernel), rfl, (mi_gd2 80 rfl rfl), (mi_gd2 81 rfl rfl), (mi_gd2 82 rfl rfl), 3, _, _, rfl, rfl⟩⟩ <|
  mi_cI (mi_aload_n_ok (k := 0) (by decide +kernel) rfl rfl) <|
  mi_cI (mi_get_ok (by decide +kernel) fl_X1_41 rfl) <|
  mi_cC ⟨m_X3_clear, rfl, okM_X3_clear, 69, 0, by decide +kernel, Or.inl ⟨(by decide +kernel), rfl, (mi_gd2 80 rfl rfl), (mi_gd2 81 rfl rfl), (mi_gd2 82 rfl rfl), 3, _, _, rfl, rfl⟩⟩ <|
  mi_cI (mi_aload_n_ok (k := 0) (by decide +kernel) rfl rfl) <|
  mi_cI (mi_get_ok (by decide +kernel) fl_X1_44 rfl) <|
  mi_cC ⟨m_X3_clear, rfl, okM_X3_clear, 69, 0, by decide +kernel, Or.inl ⟨(by decide +kernel), rfl, (mi_gd2 80 rfl rfl), (mi_gd2 81 rfl rfl), (mi_gd2 82 rfl rfl), 3, _, _, rfl, rfl⟩⟩ <|
  mi_cI (mi_aload_n_ok (k := 0) (by decide +kernel) rfl rfl) <|
  mi_cI (mi_get_ok (by decide +kernel) fl_X1_47 rfl) <|
  mi_cC ⟨m_X4_clear, rfl, okM_X4_clear, 72, 0, by decide +kernel, Or.inl ⟨(by decide +kernel), rfl, (mi_gd2 84 rfl rfl), (mi_gd2 85 rfl rfl), (mi_gd2 86 rfl rfl), 4, _, _, rfl, rfl⟩⟩ <|
  mi_cI (mi_aload_n_ok (k := 0) (by decide +kernel) rfl rfl) <|
  mi_cI (mi_get_ok (by decide +kernel) fl_X1_50 rfl) <|
  mi_cC ⟨m_X3_clear, rfl, okM_X3_clear, 69, 0, by decide +kernel, Or.inl ⟨(by decide +kernel), rfl, (mi_gd2 80 rfl rfl), (mi_gd2 81 rfl rfl), (mi_gd2 82 rfl rfl), 3, _, _, rfl, rfl⟩⟩ <|
  mi_cI (mi_aload_n_ok (k := 0) (by decide +kernel) rfl rfl) <|
  mi_cI (mi_get_ok (by decide +kernel) fl_X1_53 rfl) <|
  mi_cC ⟨m_X3_clear, rfl, okM_X3_clear, 69, 0, by decide +kernel, Or.inl ⟨(by decide +kernel), rfl, (mi_gd2 80 rfl rfl), (mi_gd2 81 rfl rfl), (mi_gd2 82 rfl rfl), 3, _, _, rfl, rfl⟩⟩ <|
  mi_cI (mi_aload_n_ok (k := 0) (by decide +kernel) rfl rfl) <|
  mi_cI (mi_get_ok (by decide +kernel) fl_X1_56 rfl) <|
  mi_cC ⟨m_X3_clear, rfl, okM_X3_clear, 69, 0, by decide +kernel, Or.inl ⟨(by decide +kernel), rfl, (mi_gd2 80 rfl rfl), (mi_gd2 81 rfl rfl), (mi_gd2 82 rfl rfl), 3, _, _, rfl, rfl⟩⟩ <|
  mi_cI (mi_aload_n_ok (k := 0) (by decide +kernel) rfl rfl) <|
  mi_cI (mi_iconst_ok (n := 0) (by decide) (by decide +kernel) rfl) <|
  mi_cI (mi_put_ok (by decide +kernel) fl_X1_59 rfl rfl) <|
  mi_cI (mi_aload_n_ok (k := 0) (by decide +kernel) rfl rfl) <|
  mi_cI (mi_iconst_ok (n := 0) (by decide) (by decide +kernel) rfl) <|
  mi_cI (mi_put_ok (by decide +kernel) fl_X1_63 rfl rfl) <|
  mi_cI (mi_aload_n_ok (k := 0) (by decide +kernel) rfl rfl) <|
  mi_cI (mi_iconst_ok (n := 0) (by decide) (by decide +kernel) rfl) <|
  mi_cI (mi_put_ok (by decide +kernel) fl_X1_66 rfl rfl) <|
  mi_cR (Or.inl ⟨rfl, (by decide +kernel), rfl⟩) <| mi_cN
set_option maxRecDepth 100000 in
set_option maxHeartbeats 4000000 in
theorem ok_X1_arcCount : ∀ q ∈ t_X1_arcCount, mi_OkE mi_ms RX1 cX1_arcCount 1 false (some .int) q :=
  mi_cI (mi_aload_n_ok (k := 0) (by decide +kernel) rfl rfl) <|
  mi_cI (mi_get_ok (by decide +kernel) fl_X1_38 rfl) <|
  mi_cI (mi_get_ok (by decide +kernel) fl_X1_73 rfl) <|
  mi_cR (Or.inr (Or.inl ⟨rfl, (by decide +kernel), rfl⟩)) <| mi_cN
set_option maxRecDepth 100000 in
set_option maxHeartbeats 4000000 in
theorem ok_X1_hasValue : ∀ q ∈ t_X1_hasValue, mi_OkE mi_ms RX1 cX1_hasValue 3 false (some .boolean) q :=
  mi_cI (mi_aload_n_ok (k := 0) (by decide +kernel) rfl rfl) <|
  mi_cI (mi_get_ok (by decide +kernel) fl_X1_38 rfl) <|
  mi_cI (mi_iload_n_ok (k := 1) (by decide +kernel) rfl rfl) <|
  mi_cC ⟨m_X3_has, rfl, okM_X3_has, 76, 1, by decide +kernel, Or.inl ⟨(by decide +kernel), rfl, (mi_gd4 63 rfl rfl), (mi_gd3 61 rfl rfl), (mi_gd3 62 rfl rfl), 3, _, _, rfl, rfl⟩⟩ <|
  mi_cI (mi_if_eq_ok (off := 18) (by decide +kernel) (by decide) rfl) <|
  mi_cI (mi_aload_n_ok (k := 0) (by decide +kernel) rfl rfl) <|
  mi_cI (mi_get_ok (by decide +kernel) fl_X1_29 rfl) <|
  mi_cI (mi_iload_n_ok (k := 2) (by decide +kernel) rfl rfl) <|
  mi_cC ⟨m_X4_has, rfl, okM_X4_has, 80, 1, by decide +kernel, Or.inl ⟨(by decide +kernel), rfl, (mi_gd4 64 rfl rfl), (mi_gd3 237 rfl rfl), (mi_gd3 238 rfl rfl), 4, _, _, rfl, rfl⟩⟩ <|
  mi_cI (mi_if_eq_ok (off := 7) (by decide +kernel) (by decide) rfl) <|
  mi_cI (mi_iconst_ok (n := 1) (by decide) (by decide +kernel) rfl) <|
  mi_cI (mi_goto_ok (off := 4) (by decide +kernel) (by decide)) <|
  mi_cI (mi_iconst_ok (n := 0) (by decide) (by decide +kernel) rfl) <|
  mi_cR (Or.inr (Or.inr (Or.inl ⟨rfl, (by decide +kernel), rfl⟩))) <| mi_cN
set_option maxRecDepth 100000 in
set_option maxHeartbeats 4000000 in
theorem ok_X1_roomOf : ∀ q ∈ t_X1_roomOf, mi_OkE mi_ms RX1 cX1_roomOf 3 false (some .int) q :=
  mi_cI (mi_iload_n_ok (k := 1) (by decide +kernel) rfl rfl) <|
  mi_cI (mi_aload_n_ok (k := 0) (by decide +kernel) rfl rfl) <|
  mi_cI (mi_get_ok (by decide +kernel) fl_X1_29 rfl) <|
  mi_cI (mi_get_ok (by decide +kernel) fl_X1_81 rfl) <|
  mi_cI (mi_imul_ok (by decide +kernel) rfl) <|
  mi_cI (mi_iload_n_ok (k := 2) (by decide +kernel) rfl rfl) <|
  mi_cI (mi_iadd_ok (by decide +kernel) rfl) <|
  mi_cR (Or.inr (Or.inl ⟨rfl, (by decide +kernel), rfl⟩)) <| mi_cN
set_option maxRecDepth 100000 in
set_option maxHeartbeats 4000000 in
theorem ok_X1_missingOf : ∀ q ∈ t_X1_missingOf, mi_OkE mi_ms RX1 cX1_missingOf 4 false (some .int) q :=
  mi_cI (mi_iconst_ok (n := 0) (by decide) (by decide +kernel) rfl) <|
  mi_cI (mi_istore_n_ok (k := 2) (by decide +kernel) rfl (by decide) rfl) <|
  mi_cI (mi_iconst_ok (n := 0) (by decide) (by decide +kernel) rfl) <|
  mi_cI (mi_istore_n_ok (k := 3) (by decide +kernel) rfl (by decide) rfl) <|
  mi_cI (mi_iload_n_ok (k := 3) (by decide +kernel) rfl rfl) <|
  mi_cI (mi_aload_n_ok (k := 0) (by decide +kernel) rfl rfl) <|
  mi_cI (mi_get_ok (by decide +kernel) fl_X1_29 rfl) <|
  mi_cI (mi_get_ok (by decide +kernel) fl_X1_81 rfl) <|
  mi_cI (mi_icmp_ge_ok (off := 28) (by decide +kernel) (by decide) rfl) <|
  mi_cI (mi_aload_n_ok (k := 0) (by decide +kernel) rfl rfl) <|
  mi_cI (mi_get_ok (by decide +kernel) fl_X1_50 rfl) <|
  mi_cI (mi_aload_n_ok (k := 0) (by decide +kernel) rfl rfl) <|
  mi_cI (mi_iload_n_ok (k := 1) (by decide +kernel) rfl rfl) <|
  mi_cI (mi_iload_n_ok (k := 3) (by decide +kernel) rfl rfl) <|
  mi_cC ⟨m_X1_roomOf, rfl, okM_X1_roomOf, 84, 2, by decide +kernel, Or.inl ⟨(by decide +kernel), rfl, (mi_gd2 236 rfl rfl), (mi_gd2 237 rfl rfl), (mi_gd2 238 rfl rfl), 1, _, _, rfl, rfl⟩⟩ <|
  mi_cC ⟨m_X3_at, rfl, okM_X3_at, 88, 1, by decide +kernel, Or.inl ⟨(by decide +kernel), rfl, (mi_gd2 188 rfl rfl), (mi_gd2 170 rfl rfl), (mi_gd2 171 rfl rfl), 3, _, _, rfl, rfl⟩⟩ <|
  mi_cI (mi_if_ne_ok (off := 6) (by decide +kernel) (by decide) rfl) <|
  mi_cI (mi_inc_ok (by decide +kernel) (by decide) rfl) <|
  mi_cI (mi_inc_ok (by decide +kernel) (by decide) rfl) <|
  mi_cI (mi_goto_ok (off := (-33)) (by decide +kernel) (by decide)) <|
  mi_cI (mi_iload_n_ok (k := 2) (by decide +kernel) rfl rfl) <|
  mi_cR (Or.inr (Or.inl ⟨rfl, (by decide +kernel), rfl⟩)) <| mi_cN
set_option maxRecDepth 100000 in
set_option maxHeartbeats 4000000 in
theorem ok_X1_hasArc : ∀ q ∈ t_X1_hasArc, mi_OkE mi_ms RX1 cX1_hasArc 4 false (some .boolean) q :=
  mi_cI (mi_iconst_ok (n := 0) (by decide) (by decide +kernel) rfl) <|
  mi_cI (mi_istore_n_ok (k := 3) (by decide +kernel) rfl (by decide) rfl) <|
  mi_cI (mi_iload_n_ok (k := 3) (by decide +kernel) rfl rfl) <|
  mi_cI (mi_aload_n_ok (k := 0) (by decide +kernel) rfl rfl) <|
  mi_cI (mi_get_ok (by decide +kernel) fl_X1_38 rfl) <|
  mi_cI (mi_get_ok (by decide +kernel) fl_X1_73 rfl) <|
  mi_cI (mi_icmp_ge_ok (off := 35) (by decide +kernel) (by decide) rfl) <|
  mi_cI (mi_aload_n_ok (k := 0) (by decide +kernel) rfl rfl) <|
  mi_cI (mi_get_ok (by decide +kernel) fl_X1_38 rfl) <|
  mi_cI (mi_iload_n_ok (k := 3) (by decide +kernel) rfl rfl) <|
  mi_cC ⟨m_X3_at, rfl, okM_X3_at, 88, 1, by decide +kernel, Or.inl ⟨(by decide +kernel), rfl, (mi_gd2 188 rfl rfl), (mi_gd2 170 rfl rfl), (mi_gd2 171 rfl rfl), 3, _, _, rfl, rfl⟩⟩ <|
  mi_cI (mi_iload_n_ok (k := 1) (by decide +kernel) rfl rfl) <|
  mi_cI (mi_icmp_ne_ok (off := 17) (by decide +kernel) (by decide) rfl) <|
  mi_cI (mi_aload_n_ok (k := 0) (by decide +kernel) rfl rfl) <|
  mi_cI (mi_get_ok (by decide +kernel) fl_X1_41 rfl) <|
  mi_cI (mi_iload_n_ok (k := 3) (by decide +kernel) rfl rfl) <|
  mi_cC ⟨m_X3_at, rfl, okM_X3_at, 88, 1, by decide +kernel, Or.inl ⟨(by decide +kernel), rfl, (mi_gd2 188 rfl rfl), (mi_gd2 170 rfl rfl), (mi_gd2 171 rfl rfl), 3, _, _, rfl, rfl⟩⟩ <|
  mi_cI (mi_iload_n_ok (k := 2) (by decide +kernel) rfl rfl) <|
  mi_cI (mi_icmp_ne_ok (off := 5) (by decide +kernel) (by decide) rfl) <|
  mi_cI (mi_iconst_ok (n := 1) (by decide) (by decide +kernel) rfl) <|
  mi_cR (Or.inr (Or.inr (Or.inl ⟨rfl, (by decide +kernel), rfl⟩))) <|
  mi_cI (mi_inc_ok (by decide +kernel) (by decide) rfl) <|
  mi_cI (mi_goto_ok (off := (-40)) (by decide +kernel) (by decide)) <|
  mi_cI (mi_iconst_ok (n := 0) (by decide) (by decide +kernel) rfl) <|
  mi_cR (Or.inr (Or.inr (Or.inl ⟨rfl, (by decide +kernel), rfl⟩))) <| mi_cN
set_option maxRecDepth 100000 in
set_option maxHeartbeats 4000000 in
theorem ok_X1_addArc : ∀ q ∈ t_X1_addArc, mi_OkE mi_ms RX1 cX1_addArc 4 false none q :=
  mi_cI (mi_aload_n_ok (k := 0) (by decide +kernel) rfl rfl) <|
  mi_cI (mi_get_ok (by decide +kernel) fl_X1_38 rfl) <|
  mi_cI (mi_iload_n_ok (k := 1) (by decide +kernel) rfl rfl) <|
  mi_cC ⟨m_X3_add, rfl, okM_X3_add, 92, 1, by decide +kernel, Or.inl ⟨(by decide +kernel), rfl, (mi_gd2 226 rfl rfl), (mi_gd2 53 rfl rfl), (mi_gd2 54 rfl rfl), 3, _, _, rfl, rfl⟩⟩ <|
  mi_cI (mi_aload_n_ok (k := 0) (by decide +kernel) rfl rfl) <|
  mi_cI (mi_get_ok (by decide +kernel) fl_X1_41 rfl) <|
  mi_cI (mi_iload_n_ok (k := 2) (by decide +kernel) rfl rfl) <|
  mi_cC ⟨m_X3_add, rfl, okM_X3_add, 92, 1, by decide +kernel, Or.inl ⟨(by decide +kernel), rfl, (mi_gd2 226 rfl rfl), (mi_gd2 53 rfl rfl), (mi_gd2 54 rfl rfl), 3, _, _, rfl, rfl⟩⟩ <|
  mi_cI (mi_aload_n_ok (k := 0) (by decide +kernel) rfl rfl) <|
  mi_cI (mi_get_ok (by decide +kernel) fl_X1_44 rfl) <|
  mi_cI (mi_iload_n_ok (k := 3) (by decide +kernel) rfl rfl) <|
  mi_cC ⟨m_X3_add, rfl, okM_X3_add, 92, 1, by decide +kernel, Or.inl ⟨(by decide +kernel), rfl, (mi_gd2 226 rfl rfl), (mi_gd2 53 rfl rfl), (mi_gd2 54 rfl rfl), 3, _, _, rfl, rfl⟩⟩ <|
  mi_cI (mi_aload_n_ok (k := 0) (by decide +kernel) rfl rfl) <|
  mi_cI (mi_get_ok (by decide +kernel) fl_X1_56 rfl) <|
  mi_cI (mi_iconst_ok (n := 3) (by decide) (by decide +kernel) rfl) <|
  mi_cC ⟨m_X3_add, rfl, okM_X3_add, 92, 1, by decide +kernel, Or.inl ⟨(by decide +kernel), rfl, (mi_gd2 226 rfl rfl), (mi_gd2 53 rfl rfl), (mi_gd2 54 rfl rfl), 3, _, _, rfl, rfl⟩⟩ <|
  mi_cR (Or.inl ⟨rfl, (by decide +kernel), rfl⟩) <| mi_cN
set_option maxRecDepth 100000 in
set_option maxHeartbeats 4000000 in
theorem ok_X1_addValue : ∀ q ∈ t_X1_addValue, mi_OkE mi_ms RX1 cX1_addValue 4 false none q :=
  mi_cI (mi_aload_n_ok (k := 0) (by decide +kernel) rfl rfl) <|
  mi_cI (mi_get_ok (by decide +kernel) fl_X1_50 rfl) <|
  mi_cI (mi_iload_n_ok (k := 1) (by decide +kernel) rfl rfl) <|
  mi_cC ⟨m_X3_add, rfl, okM_X3_add, 92, 1, by decide +kernel, Or.inl ⟨(by decide +kernel), rfl, (mi_gd2 226 rfl rfl), (mi_gd2 53 rfl rfl), (mi_gd2 54 rfl rfl), 3, _, _, rfl, rfl⟩⟩ <|
  mi_cI (mi_aload_n_ok (k := 0) (by decide +kernel) rfl rfl) <|
  mi_cI (mi_get_ok (by decide +kernel) fl_X1_53 rfl) <|
  mi_cI (mi_iload_n_ok (k := 2) (by decide +kernel) rfl rfl) <|
  mi_cC ⟨m_X3_add, rfl, okM_X3_add, 92, 1, by decide +kernel, Or.inl ⟨(by decide +kernel), rfl, (mi_gd2 226 rfl rfl), (mi_gd2 53 rfl rfl), (mi_gd2 54 rfl rfl), 3, _, _, rfl, rfl⟩⟩ <|
  mi_cI (mi_aload_n_ok (k := 0) (by decide +kernel) rfl rfl) <|
  mi_cI (mi_get_ok (by decide +kernel) fl_X1_47 rfl) <|
  mi_cI (mi_iload_n_ok (k := 3) (by decide +kernel) rfl rfl) <|
  mi_cI (mi_aload_n_ok (k := 0) (by decide +kernel) rfl rfl) <|
  mi_cI (mi_get_ok (by decide +kernel) fl_X1_14 rfl) <|
  mi_cI (mi_get_ok (by decide +kernel) fl_X1_73 rfl) <|
  mi_cI (mi_iload_n_ok (k := 3) (by decide +kernel) rfl rfl) <|
  mi_cI (mi_isub_ok (by decide +kernel) rfl) <|
  mi_cC ⟨m_X4_add, rfl, okM_X4_add, 95, 2, by decide +kernel, Or.inl ⟨(by decide +kernel), rfl, (mi_gd2 227 rfl rfl), (mi_gd2 115 rfl rfl), (mi_gd2 116 rfl rfl), 4, _, _, rfl, rfl⟩⟩ <|
  mi_cR (Or.inl ⟨rfl, (by decide +kernel), rfl⟩) <| mi_cN
set_option maxRecDepth 100000 in
set_option maxHeartbeats 4000000 in
theorem ok_X1_leaveArcOut : ∀ q ∈ t_X1_leaveArcOut, mi_OkE mi_ms RX1 cX1_leaveArcOut 2 false none q :=
  mi_cI (mi_aload_n_ok (k := 0) (by decide +kernel) rfl rfl) <|
  mi_cI (mi_aload_n_ok (k := 0) (by decide +kernel) rfl rfl) <|
  mi_cI (mi_get_ok (by decide +kernel) fl_X1_38 rfl) <|
  mi_cI (mi_get_ok (by decide +kernel) fl_X1_73 rfl) <|
  mi_cI (mi_iconst_ok (n := 0) (by decide) (by decide +kernel) rfl) <|
  mi_cC ⟨m_X1_roomOf, rfl, okM_X1_roomOf, 84, 2, by decide +kernel, Or.inl ⟨(by decide +kernel), rfl, (mi_gd2 236 rfl rfl), (mi_gd2 237 rfl rfl), (mi_gd2 238 rfl rfl), 1, _, _, rfl, rfl⟩⟩ <|
  mi_cI (mi_istore_n_ok (k := 1) (by decide +kernel) rfl (by decide) rfl) <|
  mi_cI (mi_aload_n_ok (k := 0) (by decide +kernel) rfl rfl) <|
  mi_cI (mi_get_ok (by decide +kernel) fl_X1_50 rfl) <|
  mi_cI (mi_iload_n_ok (k := 1) (by decide +kernel) rfl rfl) <|
  mi_cC ⟨m_X3_cut, rfl, okM_X3_cut, 98, 1, by decide +kernel, Or.inl ⟨(by decide +kernel), rfl, (mi_gd3 0 rfl rfl), (mi_gd3 1 rfl rfl), (mi_gd3 2 rfl rfl), 3, _, _, rfl, rfl⟩⟩ <|
  mi_cI (mi_aload_n_ok (k := 0) (by decide +kernel) rfl rfl) <|
  mi_cI (mi_get_ok (by decide +kernel) fl_X1_53 rfl) <|
  mi_cI (mi_iload_n_ok (k := 1) (by decide +kernel) rfl rfl) <|
  mi_cC ⟨m_X3_cut, rfl, okM_X3_cut, 98, 1, by decide +kernel, Or.inl ⟨(by decide +kernel), rfl, (mi_gd3 0 rfl rfl), (mi_gd3 1 rfl rfl), (mi_gd3 2 rfl rfl), 3, _, _, rfl, rfl⟩⟩ <|
  mi_cI (mi_aload_n_ok (k := 0) (by decide +kernel) rfl rfl) <|
  mi_cI (mi_get_ok (by decide +kernel) fl_X1_47 rfl) <|
  mi_cI (mi_iload_n_ok (k := 1) (by decide +kernel) rfl rfl) <|
  mi_cC ⟨m_X4_cut, rfl, okM_X4_cut, 101, 1, by decide +kernel, Or.inl ⟨(by decide +kernel), rfl, (mi_gd3 7 rfl rfl), (mi_gd3 8 rfl rfl), (mi_gd3 9 rfl rfl), 4, _, _, rfl, rfl⟩⟩ <|
  mi_cI (mi_aload_n_ok (k := 0) (by decide +kernel) rfl rfl) <|
  mi_cI (mi_dup_ok (by decide +kernel) rfl) <|
  mi_cI (mi_get_ok (by decide +kernel) fl_X1_59 rfl) <|
  mi_cI (mi_iconst_ok (n := 1) (by decide) (by decide +kernel) rfl) <|
  mi_cI (mi_iadd_ok (by decide +kernel) rfl) <|
  mi_cI (mi_put_ok (by decide +kernel) fl_X1_59 rfl rfl) <|
  mi_cR (Or.inl ⟨rfl, (by decide +kernel), rfl⟩) <| mi_cN
set_option maxRecDepth 100000 in
set_option maxHeartbeats 4000000 in
theorem ok_X1_settleKinds : ∀ q ∈ t_X1_settleKinds, mi_OkE mi_ms RX1 cX1_settleKinds 2 false none q :=
  mi_cI (mi_iconst_ok (n := 0) (by decide) (by decide +kernel) rfl) <|
  mi_cI (mi_istore_n_ok (k := 1) (by decide +kernel) rfl (by decide) rfl) <|
  mi_cI (mi_iload_n_ok (k := 1) (by decide +kernel) rfl rfl) <|
  mi_cI (mi_aload_n_ok (k := 0) (by decide +kernel) rfl rfl) <|
  mi_cI (mi_get_ok (by decide +kernel) fl_X1_35 rfl) <|
  mi_cI (mi_get_ok (by decide +kernel) fl_X1_73 rfl) <|
  mi_cI (mi_icmp_ge_ok (off := 34) (by decide +kernel) (by decide) rfl) <|
  mi_cI (mi_aload_n_ok (k := 0) (by decide +kernel) rfl rfl) <|
  mi_cI (mi_get_ok (by decide +kernel) fl_X1_35 rfl) <|
  mi_cI (mi_iload_n_ok (k := 1) (by decide +kernel) rfl rfl) <|
  mi_cC ⟨m_X3_at, rfl, okM_X3_at, 88, 1, by decide +kernel, Or.inl ⟨(by decide +kernel), rfl, (mi_gd2 188 rfl rfl), (mi_gd2 170 rfl rfl), (mi_gd2 171 rfl rfl), 3, _, _, rfl, rfl⟩⟩ <|
  mi_cI (mi_iconst_ok (n := 3) (by decide) (by decide +kernel) rfl) <|
  mi_cI (mi_icmp_ne_ok (off := 16) (by decide +kernel) (by decide) rfl) <|
  mi_cI (mi_aload_n_ok (k := 0) (by decide +kernel) rfl rfl) <|
  mi_cI (mi_get_ok (by decide +kernel) fl_X1_35 rfl) <|
  mi_cI (mi_iload_n_ok (k := 1) (by decide +kernel) rfl rfl) <|
  mi_cI (mi_aload_n_ok (k := 0) (by decide +kernel) rfl rfl) <|
  mi_cI (mi_iload_n_ok (k := 1) (by decide +kernel) rfl rfl) <|
  mi_cC ⟨m_X1_guessKind, rfl, okM_X1_guessKind, 102, 1, by decide +kernel, Or.inl ⟨(by decide +kernel), rfl, (mi_gd3 25 rfl rfl), (mi_gd3 27 rfl rfl), (mi_gd0 21 rfl rfl), 1, _, _, rfl, rfl⟩⟩ <|
  mi_cC ⟨m_X3_put, rfl, okM_X3_put, 105, 2, by decide +kernel, Or.inl ⟨(by decide +kernel), rfl, (mi_gd3 29 rfl rfl), (mi_gd3 30 rfl rfl), (mi_gd3 31 rfl rfl), 3, _, _, rfl, rfl⟩⟩ <|
  mi_cI (mi_inc_ok (by decide +kernel) (by decide) rfl) <|
  mi_cI (mi_goto_ok (off := (-39)) (by decide +kernel) (by decide)) <|
  mi_cR (Or.inl ⟨rfl, (by decide +kernel), rfl⟩) <| mi_cN
set_option maxRecDepth 100000 in
set_option maxHeartbeats 4000000 in
theorem ok_X1_guessKind : ∀ q ∈ t_X1_guessKind, mi_OkE mi_ms RX1 cX1_guessKind 5 false (some .int) q :=
  mi_cI (mi_iconst_ok (n := 0) (by decide) (by decide +kernel) rfl) <|
  mi_cI (mi_istore_n_ok (k := 2) (by decide +kernel) rfl (by decide) rfl) <|
  mi_cI (mi_iconst_ok (n := 0) (by decide) (by decide +kernel) rfl) <|
  mi_cI (mi_istore_n_ok (k := 3) (by decide +kernel) rfl (by decide) rfl) <|
  mi_cI (mi_iload_n_ok (k := 3) (by decide +kernel) rfl rfl) <|
  mi_cI (mi_aload_n_ok (k := 0) (by decide +kernel) rfl rfl) <|
  mi_cI (mi_get_ok (by decide +kernel) fl_X1_38 rfl) <|
  mi_cI (mi_get_ok (by decide +kernel) fl_X1_73 rfl) <|
  mi_cI (mi_icmp_ge_ok (off := 40) (by decide +kernel) (by decide) rfl) <|
  mi_cI (mi_aload_n_ok (k := 0) (by decide +kernel) rfl rfl) <|
  mi_cI (mi_get_ok (by decide +kernel) fl_X1_50 rfl) <|
  mi_cI (mi_aload_n_ok (k := 0) (by decide +kernel) rfl rfl) <|
  mi_cI (mi_iload_n_ok (k := 3) (by decide +kernel) rfl rfl) <|
  mi_cI (mi_iload_n_ok (k := 1) (by decide +kernel) rfl rfl) <|
  mi_cC ⟨m_X1_roomOf, rfl, okM_X1_roomOf, 84, 2, by decide +kernel, Or.inl ⟨(by decide +kernel), rfl, (mi_gd2 236 rfl rfl), (mi_gd2 237 rfl rfl), (mi_gd2 238 rfl rfl), 1, _, _, rfl, rfl⟩⟩ <|
  mi_cC ⟨m_X3_at, rfl, okM_X3_at, 88, 1, by decide +kernel, Or.inl ⟨(by decide +kernel), rfl, (mi_gd2 188 rfl rfl), (mi_gd2 170 rfl rfl), (mi_gd2 171 rfl rfl), 3, _, _, rfl, rfl⟩⟩ <|
  mi_cI (mi_istore_ok (by decide +kernel) (by decide) rfl) <|
  mi_cI (mi_iload_ok (by decide +kernel) rfl) <|
  mi_cI (mi_iconst_ok (n := 3) (by decide) (by decide +kernel) rfl) <|
  mi_cI (mi_icmp_ne_ok (off := 5) (by decide +kernel) (by decide) rfl) <|
  mi_cI (mi_iconst_ok (n := 2) (by decide) (by decide +kernel) rfl) <|
  mi_cR (Or.inr (Or.inl ⟨rfl, (by decide +kernel), rfl⟩)) <|
  mi_cI (mi_iload_ok (by decide +kernel) rfl) <|
  mi_cI (mi_iconst_ok (n := 2) (by decide) (by decide +kernel) rfl) <|
  mi_cI (mi_icmp_ne_ok (off := 5) (by decide +kernel) (by decide) rfl) <|
  mi_cI (mi_iconst_ok (n := 1) (by decide) (by decide +kernel) rfl) <|
  mi_cI (mi_istore_n_ok (k := 2) (by decide +kernel) rfl (by decide) rfl) <|
  mi_cI (mi_inc_ok (by decide +kernel) (by decide) rfl) <|
  mi_cI (mi_goto_ok (off := (-45)) (by decide +kernel) (by decide)) <|
  mi_cI (mi_iload_n_ok (k := 2) (by decide +kernel) rfl rfl) <|
  mi_cR (Or.inr (Or.inl ⟨rfl, (by decide +kernel), rfl⟩)) <| mi_cN
set_option maxRecDepth 100000 in
set_option maxHeartbeats 4000000 in
theorem ok_X2_init : ∀ q ∈ t_X2_init, mi_OkE mi_ms RX2 cX2_init 3 true none q :=
  mi_cI (mi_aload_n_ok (k := 0) (by decide +kernel) rfl rfl) <|
  mi_cI (mi_obj_ok (index := 3) (by decide +kernel) (mi_gd1 174 rfl rfl) (mi_gd1 24 rfl rfl) (mi_gd1 25 rfl rfl) rfl) <|
  mi_cI (mi_aload_n_ok (k := 0) (by decide +kernel) rfl rfl) <|
  mi_cI (mi_new_ok (index := 9) (by decide +kernel) cf_X0 (mi_gd1 175 rfl rfl) (mi_gd1 176 rfl rfl) (mi_gd1 8 rfl rfl) (by decide +kernel) (by decide +kernel) rfl) <|
  mi_cI (mi_dup_ok (by decide +kernel) rfl) <|
  mi_cI (mi_aload_n_ok (k := 1) (by decide +kernel) rfl rfl) <|
  mi_cC ⟨m_X0_init, rfl, okM_X0_init, 11, 1, by decide +kernel, Or.inr (Or.inl ⟨(by decide +kernel), rfl, (mi_gd1 177 rfl rfl), (mi_gd1 178 rfl rfl), rfl, rfl, 0, rfl⟩)⟩ <|
  mi_cI (mi_putF_ok (by decide +kernel) fl_X2_14 rfl rfl (fun C T N h => by cases h; rfl) (fun C T N h => by cases h; exact (mi_gd1 212 rfl rfl)) rfl) <|
  mi_cI (mi_aload_n_ok (k := 0) (by decide +kernel) rfl rfl) <|
  mi_cI (mi_aload_n_ok (k := 2) (by decide +kernel) rfl rfl) <|
  mi_cI (mi_put_ok (by decide +kernel) fl_X2_20 rfl rfl) <|
  mi_cR (Or.inl ⟨rfl, (by decide +kernel), rfl⟩) <| mi_cN
set_option maxRecDepth 100000 in
set_option maxHeartbeats 4000000 in
theorem ok_X2_readText : ∀ q ∈ t_X2_readText, mi_OkE mi_ms RX2 cX2_readText 5 false (some .boolean) q :=
  mi_cI (mi_aload_n_ok (k := 0) (by decide +kernel) rfl rfl) <|
  mi_cI (mi_get_ok (by decide +kernel) fl_X2_14 rfl) <|
  mi_cI (mi_aload_n_ok (k := 1) (by decide +kernel) rfl rfl) <|
  mi_cC ⟨m_X0_start, rfl, okM_X0_start, 24, 1, by decide +kernel, Or.inl ⟨(by decide +kernel), rfl, (mi_gd2 64 rfl rfl), (mi_gd2 65 rfl rfl), (mi_gd2 66 rfl rfl), 0, _, _, rfl, rfl⟩⟩ <|
  mi_cI (mi_aload_n_ok (k := 0) (by decide +kernel) rfl rfl) <|
  mi_cI (mi_aload_n_ok (k := 2) (by decide +kernel) rfl rfl) <|
  mi_cI (mi_put_ok (by decide +kernel) fl_X2_20 rfl rfl) <|
  mi_cI (mi_aload_n_ok (k := 0) (by decide +kernel) rfl rfl) <|
  mi_cI (mi_get_ok (by decide +kernel) fl_X2_20 rfl) <|
  mi_cC ⟨m_X1_clear, rfl, okM_X1_clear, 27, 0, by decide +kernel, Or.inl ⟨(by decide +kernel), rfl, (mi_gd2 76 rfl rfl), (mi_gd2 77 rfl rfl), (mi_gd2 78 rfl rfl), 1, _, _, rfl, rfl⟩⟩ <|
  mi_cI (mi_aload_n_ok (k := 0) (by decide +kernel) rfl rfl) <|
  mi_cI (mi_iload_n_ok (k := 3) (by decide +kernel) rfl rfl) <|
  mi_cI (mi_put_ok (by decide +kernel) fl_X2_32 rfl rfl) <|
  mi_cI (mi_aload_n_ok (k := 0) (by decide +kernel) rfl rfl) <|
  mi_cI (mi_iconst_ok (n := 0) (by decide) (by decide +kernel) rfl) <|
  mi_cI (mi_put_ok (by decide +kernel) fl_X2_36 rfl rfl) <|
  mi_cI (mi_aload_n_ok (k := 0) (by decide +kernel) rfl rfl) <|
  mi_cI (mi_iconst_ok (n := 0) (by decide) (by decide +kernel) rfl) <|
  mi_cI (mi_put_ok (by decide +kernel) fl_X2_40 rfl rfl) <|
  mi_cI (mi_iconst_ok (n := 0) (by decide) (by decide +kernel) rfl) <|
  mi_cI (mi_istore_ok (by decide +kernel) (by decide) rfl) <|
  mi_cI (mi_iload_ok (by decide +kernel) rfl) <|
  mi_cI (mi_sipush_ok (n := 600) (by decide) (by decide +kernel) rfl) <|
  mi_cI (mi_icmp_ge_ok (off := 35) (by decide +kernel) (by decide) rfl) <|
  mi_cI (mi_aload_n_ok (k := 0) (by decide +kernel) rfl rfl) <|
  mi_cI (mi_get_ok (by decide +kernel) fl_X2_14 rfl) <|
  mi_cC ⟨m_X0_hasLine, rfl, okM_X0_hasLine, 43, 0, by decide +kernel, Or.inl ⟨(by decide +kernel), rfl, (mi_gd2 89 rfl rfl), (mi_gd2 90 rfl rfl), (mi_gd2 91 rfl rfl), 0, _, _, rfl, rfl⟩⟩ <|
  mi_cI (mi_if_eq_ok (off := 25) (by decide +kernel) (by decide) rfl) <|
  mi_cI (mi_aload_n_ok (k := 0) (by decide +kernel) rfl rfl) <|
  mi_cC ⟨m_X2_readLine, rfl, okM_X2_readLine, 47, 0, by decide +kernel, Or.inl ⟨(by decide +kernel), rfl, (mi_gd2 93 rfl rfl), (mi_gd2 95 rfl rfl), (mi_gd0 0 rfl rfl), 2, _, _, rfl, rfl⟩⟩ <|
  mi_cI (mi_if_ne_ok (off := 5) (by decide +kernel) (by decide) rfl) <|
  mi_cI (mi_iconst_ok (n := 0) (by decide) (by decide +kernel) rfl) <|
  mi_cR (Or.inr (Or.inr (Or.inl ⟨rfl, (by decide +kernel), rfl⟩))) <|
  mi_cI (mi_aload_n_ok (k := 0) (by decide +kernel) rfl rfl) <|
  mi_cI (mi_get_ok (by decide +kernel) fl_X2_14 rfl) <|
  mi_cC ⟨m_X0_nextLine, rfl, okM_X0_nextLine, 50, 0, by decide +kernel, Or.inl ⟨(by decide +kernel), rfl, (mi_gd3 20 rfl rfl), (mi_gd2 69 rfl rfl), (mi_gd2 70 rfl rfl), 0, _, _, rfl, rfl⟩⟩ <|
  mi_cI (mi_inc_ok (by decide +kernel) (by decide) rfl) <|
  mi_cI (mi_goto_ok (off := (-37)) (by decide +kernel) (by decide)) <|
  mi_cI (mi_aload_n_ok (k := 0) (by decide +kernel) rfl rfl) <|
  mi_cI (mi_get_ok (by decide +kernel) fl_X2_20 rfl) <|
  mi_cC ⟨m_X1_settleKinds, rfl, okM_X1_settleKinds, 53, 0, by decide +kernel, Or.inl ⟨(by decide +kernel), rfl, (mi_gd3 21 rfl rfl), (mi_gd3 22 rfl rfl), (mi_gd3 23 rfl rfl), 1, _, _, rfl, rfl⟩⟩ <|
  mi_cI (mi_aload_n_ok (k := 0) (by decide +kernel) rfl rfl) <|
  mi_cC ⟨m_X2_countIsTrue, rfl, okM_X2_countIsTrue, 56, 0, by decide +kernel, Or.inl ⟨(by decide +kernel), rfl, (mi_gd3 33 rfl rfl), (mi_gd3 35 rfl rfl), (mi_gd0 22 rfl rfl), 2, _, _, rfl, rfl⟩⟩ <|
  mi_cR (Or.inr (Or.inr (Or.inl ⟨rfl, (by decide +kernel), rfl⟩))) <| mi_cN
set_option maxRecDepth 100000 in
set_option maxHeartbeats 4000000 in
theorem ok_X2_countIsTrue : ∀ q ∈ t_X2_countIsTrue, mi_OkE mi_ms RX2 cX2_countIsTrue 1 false (some .boolean) q :=
  mi_cI (mi_aload_n_ok (k := 0) (by decide +kernel) rfl rfl) <|
  mi_cI (mi_get_ok (by decide +kernel) fl_X2_40 rfl) <|
  mi_cI (mi_if_ne_ok (off := 5) (by decide +kernel) (by decide) rfl) <|
  mi_cI (mi_iconst_ok (n := 1) (by decide) (by decide +kernel) rfl) <|
  mi_cR (Or.inr (Or.inr (Or.inl ⟨rfl, (by decide +kernel), rfl⟩))) <|
  mi_cI (mi_aload_n_ok (k := 0) (by decide +kernel) rfl rfl) <|
  mi_cI (mi_get_ok (by decide +kernel) fl_X2_20 rfl) <|
  mi_cI (mi_get_ok (by decide +kernel) fl_X2_59 rfl) <|
  mi_cI (mi_aload_n_ok (k := 0) (by decide +kernel) rfl rfl) <|
  mi_cI (mi_get_ok (by decide +kernel) fl_X2_20 rfl) <|
  mi_cI (mi_get_ok (by decide +kernel) fl_X2_62 rfl) <|
  mi_cI (mi_get_ok (by decide +kernel) fl_X2_66 rfl) <|
  mi_cI (mi_icmp_eq_ok (off := 21) (by decide +kernel) (by decide) rfl) <|
  mi_cI (mi_aload_n_ok (k := 0) (by decide +kernel) rfl rfl) <|
  mi_cI (mi_get_ok (by decide +kernel) fl_X2_14 rfl) <|
  mi_cI (mi_bipush_ok (n := 7) (by decide) (by decide +kernel) rfl) <|
  mi_cI (mi_aload_n_ok (k := 0) (by decide +kernel) rfl rfl) <|
  mi_cI (mi_get_ok (by decide +kernel) fl_X2_40 rfl) <|
  mi_cI (mi_aload_n_ok (k := 0) (by decide +kernel) rfl rfl) <|
  mi_cI (mi_get_ok (by decide +kernel) fl_X2_71 rfl) <|
  mi_cC ⟨m_X0_wrongElsewhere, rfl, okM_X0_wrongElsewhere, 74, 3, by decide +kernel, Or.inl ⟨(by decide +kernel), rfl, (mi_gd3 37 rfl rfl), (mi_gd3 38 rfl rfl), (mi_gd3 39 rfl rfl), 0, _, _, rfl, rfl⟩⟩ <|
  mi_cR (Or.inr (Or.inr (Or.inl ⟨rfl, (by decide +kernel), rfl⟩))) <|
  mi_cI (mi_aload_n_ok (k := 0) (by decide +kernel) rfl rfl) <|
  mi_cI (mi_get_ok (by decide +kernel) fl_X2_20 rfl) <|
  mi_cI (mi_get_ok (by decide +kernel) fl_X2_78 rfl) <|
  mi_cI (mi_aload_n_ok (k := 0) (by decide +kernel) rfl rfl) <|
  mi_cI (mi_get_ok (by decide +kernel) fl_X2_20 rfl) <|
  mi_cC ⟨m_X1_arcCount, rfl, okM_X1_arcCount, 81, 0, by decide +kernel, Or.inl ⟨(by decide +kernel), rfl, (mi_gd3 12 rfl rfl), (mi_gd3 13 rfl rfl), (mi_gd3 14 rfl rfl), 1, _, _, rfl, rfl⟩⟩ <|
  mi_cI (mi_icmp_eq_ok (off := 21) (by decide +kernel) (by decide) rfl) <|
  mi_cI (mi_aload_n_ok (k := 0) (by decide +kernel) rfl rfl) <|
  mi_cI (mi_get_ok (by decide +kernel) fl_X2_14 rfl) <|
  mi_cI (mi_bipush_ok (n := 7) (by decide) (by decide +kernel) rfl) <|
  mi_cI (mi_aload_n_ok (k := 0) (by decide +kernel) rfl rfl) <|
  mi_cI (mi_get_ok (by decide +kernel) fl_X2_40 rfl) <|
  mi_cI (mi_aload_n_ok (k := 0) (by decide +kernel) rfl rfl) <|
  mi_cI (mi_get_ok (by decide +kernel) fl_X2_85 rfl) <|
  mi_cC ⟨m_X0_wrongElsewhere, rfl, okM_X0_wrongElsewhere, 74, 3, by decide +kernel, Or.inl ⟨(by decide +kernel), rfl, (mi_gd3 37 rfl rfl), (mi_gd3 38 rfl rfl), (mi_gd3 39 rfl rfl), 0, _, _, rfl, rfl⟩⟩ <|
  mi_cR (Or.inr (Or.inr (Or.inl ⟨rfl, (by decide +kernel), rfl⟩))) <|
  mi_cI (mi_iconst_ok (n := 1) (by decide) (by decide +kernel) rfl) <|
  mi_cR (Or.inr (Or.inr (Or.inl ⟨rfl, (by decide +kernel), rfl⟩))) <| mi_cN
set_option maxRecDepth 100000 in
set_option maxHeartbeats 4000000 in
theorem ok_X2_readLine : ∀ q ∈ t_X2_readLine, mi_OkE mi_ms RX2 cX2_readLine 1 false (some .boolean) q :=
  mi_cI (mi_aload_n_ok (k := 0) (by decide +kernel) rfl rfl) <|
  mi_cI (mi_get_ok (by decide +kernel) fl_X2_14 rfl) <|
  mi_cC ⟨m_X0_skipBlanks, rfl, okM_X0_skipBlanks, 88, 0, by decide +kernel, Or.inl ⟨(by decide +kernel), rfl, (mi_gd2 97 rfl rfl), (mi_gd2 98 rfl rfl), (mi_gd2 99 rfl rfl), 0, _, _, rfl, rfl⟩⟩ <|
  mi_cI (mi_aload_n_ok (k := 0) (by decide +kernel) rfl rfl) <|
  mi_cI (mi_get_ok (by decide +kernel) fl_X2_14 rfl) <|
  mi_cI (mi_get_ok (by decide +kernel) fl_X2_91 rfl) <|
  mi_cI (mi_look_ok (dflt := 59) (ps := #[(-1, 42), (33, 49), (35, 44), (37, 54)]) (len := 42) (by decide +kernel) (by decide) (fun x => mi_lookx _ _ _ x (by decide) _ _ (by decide))) <|
  mi_cI (mi_iconst_ok (n := 1) (by decide) (by decide +kernel) rfl) <|
  mi_cR (Or.inr (Or.inr (Or.inl ⟨rfl, (by decide +kernel), rfl⟩))) <|
  mi_cI (mi_aload_n_ok (k := 0) (by decide +kernel) rfl rfl) <|
  mi_cC ⟨m_X2_readComment, rfl, okM_X2_readComment, 94, 0, by decide +kernel, Or.inl ⟨(by decide +kernel), rfl, (mi_gd2 101 rfl rfl), (mi_gd2 103 rfl rfl), (mi_gd0 1 rfl rfl), 2, _, _, rfl, rfl⟩⟩ <|
  mi_cR (Or.inr (Or.inr (Or.inl ⟨rfl, (by decide +kernel), rfl⟩))) <|
  mi_cI (mi_aload_n_ok (k := 0) (by decide +kernel) rfl rfl) <|
  mi_cC ⟨m_X2_readCount, rfl, okM_X2_readCount, 97, 0, by decide +kernel, Or.inl ⟨(by decide +kernel), rfl, (mi_gd2 119 rfl rfl), (mi_gd2 121 rfl rfl), (mi_gd0 2 rfl rfl), 2, _, _, rfl, rfl⟩⟩ <|
  mi_cR (Or.inr (Or.inr (Or.inl ⟨rfl, (by decide +kernel), rfl⟩))) <|
  mi_cI (mi_aload_n_ok (k := 0) (by decide +kernel) rfl rfl) <|
  mi_cC ⟨m_X2_readHead, rfl, okM_X2_readHead, 100, 0, by decide +kernel, Or.inl ⟨(by decide +kernel), rfl, (mi_gd2 142 rfl rfl), (mi_gd2 144 rfl rfl), (mi_gd0 6 rfl rfl), 2, _, _, rfl, rfl⟩⟩ <|
  mi_cR (Or.inr (Or.inr (Or.inl ⟨rfl, (by decide +kernel), rfl⟩))) <|
  mi_cI (mi_aload_n_ok (k := 0) (by decide +kernel) rfl rfl) <|
  mi_cC ⟨m_X2_readEnds, rfl, okM_X2_readEnds, 103, 0, by decide +kernel, Or.inl ⟨(by decide +kernel), rfl, (mi_gd2 176 rfl rfl), (mi_gd2 178 rfl rfl), (mi_gd0 11 rfl rfl), 2, _, _, rfl, rfl⟩⟩ <|
  mi_cI (mi_if_eq_ok (off := 21) (by decide +kernel) (by decide) rfl) <|
  mi_cI (mi_aload_n_ok (k := 0) (by decide +kernel) rfl rfl) <|
  mi_cC ⟨m_X2_readValues, rfl, okM_X2_readValues, 106, 0, by decide +kernel, Or.inl ⟨(by decide +kernel), rfl, (mi_gd2 189 rfl rfl), (mi_gd2 191 rfl rfl), (mi_gd0 13 rfl rfl), 2, _, _, rfl, rfl⟩⟩ <|
  mi_cI (mi_if_eq_ok (off := 14) (by decide +kernel) (by decide) rfl) <|
  mi_cI (mi_aload_n_ok (k := 0) (by decide +kernel) rfl rfl) <|
  mi_cC ⟨m_X2_endArc, rfl, okM_X2_endArc, 109, 0, by decide +kernel, Or.inl ⟨(by decide +kernel), rfl, (mi_gd2 228 rfl rfl), (mi_gd2 230 rfl rfl), (mi_gd0 20 rfl rfl), 2, _, _, rfl, rfl⟩⟩ <|
  mi_cI (mi_if_eq_ok (off := 7) (by decide +kernel) (by decide) rfl) <|
  mi_cI (mi_iconst_ok (n := 1) (by decide) (by decide +kernel) rfl) <|
  mi_cI (mi_goto_ok (off := 4) (by decide +kernel) (by decide)) <|
  mi_cI (mi_iconst_ok (n := 0) (by decide) (by decide +kernel) rfl) <|
  mi_cR (Or.inr (Or.inr (Or.inl ⟨rfl, (by decide +kernel), rfl⟩))) <| mi_cN
set_option maxRecDepth 100000 in
set_option maxHeartbeats 4000000 in
theorem ok_X2_readComment : ∀ q ∈ t_X2_readComment, mi_OkE mi_ms RX2 cX2_readComment 3 false (some .boolean) q :=
  mi_cI (mi_aload_n_ok (k := 0) (by decide +kernel) rfl rfl) <|
  mi_cI (mi_get_ok (by decide +kernel) fl_X2_14 rfl) <|
  mi_cC ⟨m_X0_step, rfl, okM_X0_step, 112, 0, by decide +kernel, Or.inl ⟨(by decide +kernel), rfl, (mi_gd2 105 rfl rfl), (mi_gd2 73 rfl rfl), (mi_gd2 74 rfl rfl), 0, _, _, rfl, rfl⟩⟩ <|
  mi_cI (mi_aload_n_ok (k := 0) (by decide +kernel) rfl rfl) <|
  mi_cI (mi_get_ok (by decide +kernel) fl_X2_20 rfl) <|
  mi_cI (mi_get_ok (by decide +kernel) fl_X2_115 rfl) <|
  mi_cI (mi_get_ok (by decide +kernel) fl_X2_119 rfl) <|
  mi_cI (mi_istore_n_ok (k := 1) (by decide +kernel) rfl (by decide) rfl) <|
  mi_cI (mi_iconst_ok (n := 0) (by decide) (by decide +kernel) rfl) <|
  mi_cI (mi_istore_n_ok (k := 2) (by decide +kernel) rfl (by decide) rfl) <|
  mi_cI (mi_iload_n_ok (k := 2) (by decide +kernel) rfl rfl) <|
  mi_cI (mi_bipush_ok (n := 20) (by decide) (by decide +kernel) rfl) <|
  mi_cI (mi_icmp_gt_ok (off := 95) (by decide +kernel) (by decide) rfl) <|
  mi_cI (mi_aload_n_ok (k := 0) (by decide +kernel) rfl rfl) <|
  mi_cI (mi_get_ok (by decide +kernel) fl_X2_14 rfl) <|
  mi_cI (mi_get_ok (by decide +kernel) fl_X2_91 rfl) <|
  mi_cI (mi_iconst_ok (n := (-1)) (by decide) (by decide +kernel) rfl) <|
  mi_cI (mi_icmp_eq_ok (off := 84) (by decide +kernel) (by decide) rfl) <|
  mi_cI (mi_aload_n_ok (k := 0) (by decide +kernel) rfl rfl) <|
  mi_cI (mi_get_ok (by decide +kernel) fl_X2_14 rfl) <|
  mi_cI (mi_get_ok (by decide +kernel) fl_X2_91 rfl) <|
  mi_cC ⟨m_X6_isPrintable, rfl, okM_X6_isPrintable, 124, 1, by decide +kernel, Or.inr (Or.inr ⟨(by decide +kernel), rfl, (mi_gd2 107 rfl rfl), Or.inr ⟨"GraphTexts", (mi_nd2 106 rfl rfl)⟩⟩)⟩ <|
  mi_cI (mi_if_ne_ok (off := 19) (by decide +kernel) (by decide) rfl) <|
  mi_cI (mi_aload_n_ok (k := 0) (by decide +kernel) rfl rfl) <|
  mi_cI (mi_get_ok (by decide +kernel) fl_X2_14 rfl) <|
  mi_cI (mi_iconst_ok (n := 1) (by decide) (by decide +kernel) rfl) <|
  mi_cI (mi_aload_n_ok (k := 0) (by decide +kernel) rfl rfl) <|
  mi_cI (mi_get_ok (by decide +kernel) fl_X2_14 rfl) <|
  mi_cI (mi_get_ok (by decide +kernel) fl_X2_128 rfl) <|
  mi_cC ⟨m_X0_wrong, rfl, okM_X0_wrong, 131, 2, by decide +kernel, Or.inl ⟨(by decide +kernel), rfl, (mi_gd2 109 rfl rfl), (mi_gd2 110 rfl rfl), (mi_gd2 111 rfl rfl), 0, _, _, rfl, rfl⟩⟩ <|
  mi_cR (Or.inr (Or.inr (Or.inl ⟨rfl, (by decide +kernel), rfl⟩))) <|
  mi_cI (mi_iload_n_ok (k := 2) (by decide +kernel) rfl rfl) <|
  mi_cI (mi_bipush_ok (n := 20) (by decide) (by decide +kernel) rfl) <|
  mi_cI (mi_icmp_ne_ok (off := 19) (by decide +kernel) (by decide) rfl) <|
  mi_cI (mi_aload_n_ok (k := 0) (by decide +kernel) rfl rfl) <|
  mi_cI (mi_get_ok (by decide +kernel) fl_X2_14 rfl) <|
  mi_cI (mi_iconst_ok (n := 2) (by decide) (by decide +kernel) rfl) <|
  mi_cI (mi_aload_n_ok (k := 0) (by decide +kernel) rfl rfl) <|
  mi_cI (mi_get_ok (by decide +kernel) fl_X2_14 rfl) <|
  mi_cI (mi_get_ok (by decide +kernel) fl_X2_128 rfl) <|
  mi_cC ⟨m_X0_wrong, rfl, okM_X0_wrong, 131, 2, by decide +kernel, Or.inl ⟨(by decide +kernel), rfl, (mi_gd2 109 rfl rfl), (mi_gd2 110 rfl rfl), (mi_gd2 111 rfl rfl), 0, _, _, rfl, rfl⟩⟩ <|
  mi_cR (Or.inr (Or.inr (Or.inl ⟨rfl, (by decide +kernel), rfl⟩))) <|
  mi_cI (mi_aload_n_ok (k := 0) (by decide +kernel) rfl rfl) <|
  mi_cI (mi_get_ok (by decide +kernel) fl_X2_20 rfl) <|
  mi_cI (mi_get_ok (by decide +kernel) fl_X2_115 rfl) <|
  mi_cI (mi_aload_n_ok (k := 0) (by decide +kernel) rfl rfl) <|
  mi_cI (mi_get_ok (by decide +kernel) fl_X2_14 rfl) <|
  mi_cI (mi_get_ok (by decide +kernel) fl_X2_91 rfl) <|
  mi_cC ⟨m_X3_add, rfl, okM_X3_add, 135, 1, by decide +kernel, Or.inl ⟨(by decide +kernel), rfl, (mi_gd2 113 rfl rfl), (mi_gd2 53 rfl rfl), (mi_gd2 54 rfl rfl), 3, _, _, rfl, rfl⟩⟩ <|
  mi_cI (mi_aload_n_ok (k := 0) (by decide +kernel) rfl rfl) <|
  mi_cI (mi_get_ok (by decide +kernel) fl_X2_14 rfl) <|
  mi_cC ⟨m_X0_step, rfl, okM_X0_step, 112, 0, by decide +kernel, Or.inl ⟨(by decide +kernel), rfl, (mi_gd2 105 rfl rfl), (mi_gd2 73 rfl rfl), (mi_gd2 74 rfl rfl), 0, _, _, rfl, rfl⟩⟩ <|
  mi_cI (mi_inc_ok (by decide +kernel) (by decide) rfl) <|
  mi_cI (mi_goto_ok (off := (-95)) (by decide +kernel) (by decide)) <|
  mi_cI (mi_aload_n_ok (k := 0) (by decide +kernel) rfl rfl) <|
  mi_cI (mi_get_ok (by decide +kernel) fl_X2_20 rfl) <|
  mi_cI (mi_get_ok (by decide +kernel) fl_X2_139 rfl) <|
  mi_cI (mi_iload_n_ok (k := 1) (by decide +kernel) rfl rfl) <|
  mi_cI (mi_aload_n_ok (k := 0) (by decide +kernel) rfl rfl) <|
  mi_cI (mi_get_ok (by decide +kernel) fl_X2_20 rfl) <|
  mi_cI (mi_get_ok (by decide +kernel) fl_X2_115 rfl) <|
  mi_cI (mi_get_ok (by decide +kernel) fl_X2_119 rfl) <|
  mi_cI (mi_iload_n_ok (k := 1) (by decide +kernel) rfl rfl) <|
  mi_cI (mi_isub_ok (by decide +kernel) rfl) <|
  mi_cC ⟨m_X4_add, rfl, okM_X4_add, 142, 2, by decide +kernel, Or.inl ⟨(by decide +kernel), rfl, (mi_gd2 114 rfl rfl), (mi_gd2 115 rfl rfl), (mi_gd2 116 rfl rfl), 4, _, _, rfl, rfl⟩⟩ <|
  mi_cI (mi_aload_n_ok (k := 0) (by decide +kernel) rfl rfl) <|
  mi_cI (mi_get_ok (by decide +kernel) fl_X2_20 rfl) <|
  mi_cI (mi_get_ok (by decide +kernel) fl_X2_145 rfl) <|
  mi_cI (mi_iconst_ok (n := 0) (by decide) (by decide +kernel) rfl) <|
  mi_cC ⟨m_X3_add, rfl, okM_X3_add, 135, 1, by decide +kernel, Or.inl ⟨(by decide +kernel), rfl, (mi_gd2 113 rfl rfl), (mi_gd2 53 rfl rfl), (mi_gd2 54 rfl rfl), 3, _, _, rfl, rfl⟩⟩ <|
  mi_cI (mi_iconst_ok (n := 1) (by decide) (by decide +kernel) rfl) <|
  mi_cR (Or.inr (Or.inr (Or.inl ⟨rfl, (by decide +kernel), rfl⟩))) <| mi_cN
set_option maxRecDepth 100000 in
set_option maxHeartbeats 4000000 in
theorem ok_X2_readCount : ∀ q ∈ t_X2_readCount, mi_OkE mi_ms RX2 cX2_readCount 1 false (some .boolean) q :=
  mi_cI (mi_aload_n_ok (k := 0) (by decide +kernel) rfl rfl) <|
  mi_cI (mi_get_ok (by decide +kernel) fl_X2_40 rfl) <|
  mi_cI (mi_if_eq_ok (off := 19) (by decide +kernel) (by decide) rfl) <|
  mi_cI (mi_aload_n_ok (k := 0) (by decide +kernel) rfl rfl) <|
  mi_cI (mi_get_ok (by decide +kernel) fl_X2_14 rfl) <|
  mi_cI (mi_iconst_ok (n := 4) (by decide) (by decide +kernel) rfl) <|
  mi_cI (mi_aload_n_ok (k := 0) (by decide +kernel) rfl rfl) <|
  mi_cI (mi_get_ok (by decide +kernel) fl_X2_14 rfl) <|
  mi_cI (mi_get_ok (by decide +kernel) fl_X2_128 rfl) <|
  mi_cC ⟨m_X0_wrong, rfl, okM_X0_wrong, 131, 2, by decide +kernel, Or.inl ⟨(by decide +kernel), rfl, (mi_gd2 109 rfl rfl), (mi_gd2 110 rfl rfl), (mi_gd2 111 rfl rfl), 0, _, _, rfl, rfl⟩⟩ <|
  mi_cR (Or.inr (Or.inr (Or.inl ⟨rfl, (by decide +kernel), rfl⟩))) <|
  mi_cI (mi_aload_n_ok (k := 0) (by decide +kernel) rfl rfl) <|
  mi_cI (mi_aload_n_ok (k := 0) (by decide +kernel) rfl rfl) <|
  mi_cI (mi_get_ok (by decide +kernel) fl_X2_14 rfl) <|
  mi_cI (mi_get_ok (by decide +kernel) fl_X2_148 rfl) <|
  mi_cI (mi_put_ok (by decide +kernel) fl_X2_40 rfl rfl) <|
  mi_cI (mi_aload_n_ok (k := 0) (by decide +kernel) rfl rfl) <|
  mi_cI (mi_get_ok (by decide +kernel) fl_X2_14 rfl) <|
  mi_cC ⟨m_X0_step, rfl, okM_X0_step, 112, 0, by decide +kernel, Or.inl ⟨(by decide +kernel), rfl, (mi_gd2 105 rfl rfl), (mi_gd2 73 rfl rfl), (mi_gd2 74 rfl rfl), 0, _, _, rfl, rfl⟩⟩ <|
  mi_cI (mi_aload_n_ok (k := 0) (by decide +kernel) rfl rfl) <|
  mi_cC ⟨m_X2_readGap, rfl, okM_X2_readGap, 151, 0, by decide +kernel, Or.inl ⟨(by decide +kernel), rfl, (mi_gd2 123 rfl rfl), (mi_gd2 125 rfl rfl), (mi_gd0 3 rfl rfl), 2, _, _, rfl, rfl⟩⟩ <|
  mi_cI (mi_if_ne_ok (off := 5) (by decide +kernel) (by decide) rfl) <|
  mi_cI (mi_iconst_ok (n := 0) (by decide) (by decide +kernel) rfl) <|
  mi_cR (Or.inr (Or.inr (Or.inl ⟨rfl, (by decide +kernel), rfl⟩))) <|
  mi_cI (mi_aload_n_ok (k := 0) (by decide +kernel) rfl rfl) <|
  mi_cI (mi_aload_n_ok (k := 0) (by decide +kernel) rfl rfl) <|
  mi_cI (mi_get_ok (by decide +kernel) fl_X2_14 rfl) <|
  mi_cI (mi_aload_n_ok (k := 0) (by decide +kernel) rfl rfl) <|
  mi_cI (mi_get_ok (by decide +kernel) fl_X2_14 rfl) <|
  mi_cI (mi_get_ok (by decide +kernel) fl_X2_128 rfl) <|
  mi_cC ⟨m_X0_placeOf, rfl, okM_X0_placeOf, 154, 1, by decide +kernel, Or.inl ⟨(by decide +kernel), rfl, (mi_gd2 127 rfl rfl), (mi_gd2 128 rfl rfl), (mi_gd2 129 rfl rfl), 0, _, _, rfl, rfl⟩⟩ <|
  mi_cI (mi_put_ok (by decide +kernel) fl_X2_71 rfl rfl) <|
  mi_cI (mi_aload_n_ok (k := 0) (by decide +kernel) rfl rfl) <|
  mi_cC ⟨m_X2_readNumber, rfl, okM_X2_readNumber, 158, 0, by decide +kernel, Or.inl ⟨(by decide +kernel), rfl, (mi_gd2 131 rfl rfl), (mi_gd2 133 rfl rfl), (mi_gd0 4 rfl rfl), 2, _, _, rfl, rfl⟩⟩ <|
  mi_cI (mi_if_ne_ok (off := 5) (by decide +kernel) (by decide) rfl) <|
  mi_cI (mi_iconst_ok (n := 0) (by decide) (by decide +kernel) rfl) <|
  mi_cR (Or.inr (Or.inr (Or.inl ⟨rfl, (by decide +kernel), rfl⟩))) <|
  mi_cI (mi_aload_n_ok (k := 0) (by decide +kernel) rfl rfl) <|
  mi_cI (mi_get_ok (by decide +kernel) fl_X2_20 rfl) <|
  mi_cI (mi_aload_n_ok (k := 0) (by decide +kernel) rfl rfl) <|
  mi_cI (mi_get_ok (by decide +kernel) fl_X2_161 rfl) <|
  mi_cI (mi_put_ok (by decide +kernel) fl_X2_59 rfl rfl) <|
  mi_cI (mi_aload_n_ok (k := 0) (by decide +kernel) rfl rfl) <|
  mi_cC ⟨m_X2_readGap, rfl, okM_X2_readGap, 151, 0, by decide +kernel, Or.inl ⟨(by decide +kernel), rfl, (mi_gd2 123 rfl rfl), (mi_gd2 125 rfl rfl), (mi_gd0 3 rfl rfl), 2, _, _, rfl, rfl⟩⟩ <|
  mi_cI (mi_if_ne_ok (off := 5) (by decide +kernel) (by decide) rfl) <|
  mi_cI (mi_iconst_ok (n := 0) (by decide) (by decide +kernel) rfl) <|
  mi_cR (Or.inr (Or.inr (Or.inl ⟨rfl, (by decide +kernel), rfl⟩))) <|
  mi_cI (mi_aload_n_ok (k := 0) (by decide +kernel) rfl rfl) <|
  mi_cI (mi_aload_n_ok (k := 0) (by decide +kernel) rfl rfl) <|
  mi_cI (mi_get_ok (by decide +kernel) fl_X2_14 rfl) <|
  mi_cI (mi_aload_n_ok (k := 0) (by decide +kernel) rfl rfl) <|
  mi_cI (mi_get_ok (by decide +kernel) fl_X2_14 rfl) <|
  mi_cI (mi_get_ok (by decide +kernel) fl_X2_128 rfl) <|
  mi_cC ⟨m_X0_placeOf, rfl, okM_X0_placeOf, 154, 1, by decide +kernel, Or.inl ⟨(by decide +kernel), rfl, (mi_gd2 127 rfl rfl), (mi_gd2 128 rfl rfl), (mi_gd2 129 rfl rfl), 0, _, _, rfl, rfl⟩⟩ <|
  mi_cI (mi_put_ok (by decide +kernel) fl_X2_85 rfl rfl) <|
  mi_cI (mi_aload_n_ok (k := 0) (by decide +kernel) rfl rfl) <|
  mi_cC ⟨m_X2_readNumber, rfl, okM_X2_readNumber, 158, 0, by decide +kernel, Or.inl ⟨(by decide +kernel), rfl, (mi_gd2 131 rfl rfl), (mi_gd2 133 rfl rfl), (mi_gd0 4 rfl rfl), 2, _, _, rfl, rfl⟩⟩ <|
  mi_cI (mi_if_ne_ok (off := 5) (by decide +kernel) (by decide) rfl) <|
  mi_cI (mi_iconst_ok (n := 0) (by decide) (by decide +kernel) rfl) <|
  mi_cR (Or.inr (Or.inr (Or.inl ⟨rfl, (by decide +kernel), rfl⟩))) <|
  mi_cI (mi_aload_n_ok (k := 0) (by decide +kernel) rfl rfl) <|
  mi_cI (mi_get_ok (by decide +kernel) fl_X2_20 rfl) <|
  mi_cI (mi_aload_n_ok (k := 0) (by decide +kernel) rfl rfl) <|
  mi_cI (mi_get_ok (by decide +kernel) fl_X2_161 rfl) <|
  mi_cI (mi_put_ok (by decide +kernel) fl_X2_78 rfl rfl) <|
  mi_cI (mi_aload_n_ok (k := 0) (by decide +kernel) rfl rfl) <|
  mi_cI (mi_get_ok (by decide +kernel) fl_X2_20 rfl) <|
  mi_cI (mi_get_ok (by decide +kernel) fl_X2_145 rfl) <|
  mi_cI (mi_iconst_ok (n := 1) (by decide) (by decide +kernel) rfl) <|
  mi_cC ⟨m_X3_add, rfl, okM_X3_add, 135, 1, by decide +kernel, Or.inl ⟨(by decide +kernel), rfl, (mi_gd2 113 rfl rfl), (mi_gd2 53 rfl rfl), (mi_gd2 54 rfl rfl), 3, _, _, rfl, rfl⟩⟩ <|
  mi_cI (mi_aload_n_ok (k := 0) (by decide +kernel) rfl rfl) <|
  mi_cC ⟨m_X2_readLineEnd, rfl, okM_X2_readLineEnd, 164, 0, by decide +kernel, Or.inl ⟨(by decide +kernel), rfl, (mi_gd2 138 rfl rfl), (mi_gd2 140 rfl rfl), (mi_gd0 5 rfl rfl), 2, _, _, rfl, rfl⟩⟩ <|
  mi_cR (Or.inr (Or.inr (Or.inl ⟨rfl, (by decide +kernel), rfl⟩))) <| mi_cN
end MJ0
end
