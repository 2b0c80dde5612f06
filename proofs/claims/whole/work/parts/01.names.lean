-- ===== PART A: goes FIRST, ahead of the names: the tables' words, and 'selects' of the private methods out of them =====
/-- a private method of a class that the tables say can be made, by its rows of tables_1 -/
def lw_okq (q : MethodName × Nat) : Prop := (q.1.cls ≠ "java/lang/invoke/MethodHandle" ∧ q.1.cls ≠ "java/lang/invoke/VarHandle") ∧ Cond.instantiable q.1.cls q.2 ∈ tables_1 ∧ Cond.privateMethod q.1 ∈ tables_1 ∧ Cond.instanceMethod q.1 ∈ tables_1
theorem lw_p0 : lw_okq (⟨"QueryTexts$Reader", "takesInGap", "(I)Z"⟩, 8) := ⟨⟨by decide +kernel, by decide +kernel⟩, List.mem_of_getElem? (i := 116) (by decide +kernel), List.mem_of_getElem? (i := 262) (by decide +kernel), List.mem_of_getElem? (i := 263) (by decide +kernel)⟩
theorem lw_p1 : lw_okq (⟨"QueryTexts$Reader", "closeGroup", "()Z"⟩, 8) := ⟨⟨by decide +kernel, by decide +kernel⟩, List.mem_of_getElem? (i := 116) (by decide +kernel), List.mem_of_getElem? (i := 270) (by decide +kernel), List.mem_of_getElem? (i := 271) (by decide +kernel)⟩
theorem lw_p2 : lw_okq (⟨"QueryTexts$Reader", "goTo", "(I)Z"⟩, 8) := ⟨⟨by decide +kernel, by decide +kernel⟩, List.mem_of_getElem? (i := 116) (by decide +kernel), List.mem_of_getElem? (i := 274) (by decide +kernel), List.mem_of_getElem? (i := 275) (by decide +kernel)⟩
theorem lw_p3 : lw_okq (⟨"QueryTexts$Reader", "canBeginCore", "(II)Z"⟩, 8) := ⟨⟨by decide +kernel, by decide +kernel⟩, List.mem_of_getElem? (i := 116) (by decide +kernel), List.mem_of_getElem? (i := 282) (by decide +kernel), List.mem_of_getElem? (i := 283) (by decide +kernel)⟩
theorem lw_p4 : lw_okq (⟨"QueryTexts$Reader", "beginCore", "(I)Z"⟩, 8) := ⟨⟨by decide +kernel, by decide +kernel⟩, List.mem_of_getElem? (i := 116) (by decide +kernel), List.mem_of_getElem? (i := 297) (by decide +kernel), List.mem_of_getElem? (i := 298) (by decide +kernel)⟩
theorem lw_p5 : lw_okq (⟨"QueryTexts$Reader", "openGroup", "()Z"⟩, 8) := ⟨⟨by decide +kernel, by decide +kernel⟩, List.mem_of_getElem? (i := 116) (by decide +kernel), List.mem_of_getElem? (i := 301) (by decide +kernel), List.mem_of_getElem? (i := 302) (by decide +kernel)⟩
theorem lw_p6 : lw_okq (⟨"QueryTexts$Reader", "beginWord", "(II)Z"⟩, 8) := ⟨⟨by decide +kernel, by decide +kernel⟩, List.mem_of_getElem? (i := 116) (by decide +kernel), List.mem_of_getElem? (i := 305) (by decide +kernel), List.mem_of_getElem? (i := 306) (by decide +kernel)⟩
theorem lw_p7 : lw_okq (⟨"QueryTexts$Reader", "takeSign", "(I)Z"⟩, 8) := ⟨⟨by decide +kernel, by decide +kernel⟩, List.mem_of_getElem? (i := 116) (by decide +kernel), List.mem_of_getElem? (i := 309) (by decide +kernel), List.mem_of_getElem? (i := 310) (by decide +kernel)⟩
theorem lw_p8 : lw_okq (⟨"QueryTexts$Reader", "takesInWord", "(I)Z"⟩, 8) := ⟨⟨by decide +kernel, by decide +kernel⟩, List.mem_of_getElem? (i := 116) (by decide +kernel), List.mem_of_getElem? (i := 318) (by decide +kernel), List.mem_of_getElem? (i := 319) (by decide +kernel)⟩
theorem lw_p9 : lw_okq (⟨"QueryTexts$Reader", "isFieldLetter", "()Z"⟩, 8) := ⟨⟨by decide +kernel, by decide +kernel⟩, List.mem_of_getElem? (i := 116) (by decide +kernel), List.mem_of_getElem? (i := 322) (by decide +kernel), List.mem_of_getElem? (i := 323) (by decide +kernel)⟩
theorem lw_p10 : lw_okq (⟨"QueryTexts$Reader", "takeField", "()Z"⟩, 8) := ⟨⟨by decide +kernel, by decide +kernel⟩, List.mem_of_getElem? (i := 116) (by decide +kernel), List.mem_of_getElem? (i := 333) (by decide +kernel), List.mem_of_getElem? (i := 334) (by decide +kernel)⟩
theorem lw_p11 : lw_okq (⟨"QueryTexts$Reader", "takesTail", "(I)Z"⟩, 8) := ⟨⟨by decide +kernel, by decide +kernel⟩, List.mem_of_getElem? (i := 116) (by decide +kernel), List.mem_of_getElem? (i := 342) (by decide +kernel), List.mem_of_getElem? (i := 343) (by decide +kernel)⟩
theorem lw_p12 : lw_okq (⟨"QueryTexts$Reader", "takesEnd", "(I)Z"⟩, 8) := ⟨⟨by decide +kernel, by decide +kernel⟩, List.mem_of_getElem? (i := 116) (by decide +kernel), List.mem_of_getElem? (i := 346) (by decide +kernel), List.mem_of_getElem? (i := 347) (by decide +kernel)⟩
theorem lw_p13 : lw_okq (⟨"QueryTexts$Reader", "takesDetail", "(III)Z"⟩, 8) := ⟨⟨by decide +kernel, by decide +kernel⟩, List.mem_of_getElem? (i := 116) (by decide +kernel), List.mem_of_getElem? (i := 350) (by decide +kernel), List.mem_of_getElem? (i := 351) (by decide +kernel)⟩
theorem lw_p14 : lw_okq (⟨"QueryTexts$Reader", "takesLetter", "(II)Z"⟩, 8) := ⟨⟨by decide +kernel, by decide +kernel⟩, List.mem_of_getElem? (i := 116) (by decide +kernel), List.mem_of_getElem? (i := 354) (by decide +kernel), List.mem_of_getElem? (i := 355) (by decide +kernel)⟩
theorem lw_p15 : lw_okq (⟨"QueryTexts$Reader", "takesInQuote", "(I)Z"⟩, 8) := ⟨⟨by decide +kernel, by decide +kernel⟩, List.mem_of_getElem? (i := 116) (by decide +kernel), List.mem_of_getElem? (i := 358) (by decide +kernel), List.mem_of_getElem? (i := 359) (by decide +kernel)⟩
def lw_privs_1 : List (MethodName × Nat) := [(⟨"QueryTexts$Reader", "takesInGap", "(I)Z"⟩, 8), (⟨"QueryTexts$Reader", "closeGroup", "()Z"⟩, 8), (⟨"QueryTexts$Reader", "goTo", "(I)Z"⟩, 8), (⟨"QueryTexts$Reader", "canBeginCore", "(II)Z"⟩, 8), (⟨"QueryTexts$Reader", "beginCore", "(I)Z"⟩, 8), (⟨"QueryTexts$Reader", "openGroup", "()Z"⟩, 8), (⟨"QueryTexts$Reader", "beginWord", "(II)Z"⟩, 8), (⟨"QueryTexts$Reader", "takeSign", "(I)Z"⟩, 8), (⟨"QueryTexts$Reader", "takesInWord", "(I)Z"⟩, 8), (⟨"QueryTexts$Reader", "isFieldLetter", "()Z"⟩, 8), (⟨"QueryTexts$Reader", "takeField", "()Z"⟩, 8), (⟨"QueryTexts$Reader", "takesTail", "(I)Z"⟩, 8), (⟨"QueryTexts$Reader", "takesEnd", "(I)Z"⟩, 8), (⟨"QueryTexts$Reader", "takesDetail", "(III)Z"⟩, 8), (⟨"QueryTexts$Reader", "takesLetter", "(II)Z"⟩, 8), (⟨"QueryTexts$Reader", "takesInQuote", "(I)Z"⟩, 8)]
theorem lw_r1 : ∀ q ∈ lw_privs_1, lw_okq q := List.forall_mem_cons.mpr ⟨lw_p0, List.forall_mem_cons.mpr ⟨lw_p1, List.forall_mem_cons.mpr ⟨lw_p2, List.forall_mem_cons.mpr ⟨lw_p3, List.forall_mem_cons.mpr ⟨lw_p4, List.forall_mem_cons.mpr ⟨lw_p5, List.forall_mem_cons.mpr ⟨lw_p6, List.forall_mem_cons.mpr ⟨lw_p7, List.forall_mem_cons.mpr ⟨lw_p8, List.forall_mem_cons.mpr ⟨lw_p9, List.forall_mem_cons.mpr ⟨lw_p10, List.forall_mem_cons.mpr ⟨lw_p11, List.forall_mem_cons.mpr ⟨lw_p12, List.forall_mem_cons.mpr ⟨lw_p13, List.forall_mem_cons.mpr ⟨lw_p14, List.forall_mem_cons.mpr ⟨lw_p15, fun _ h => absurd h List.not_mem_nil⟩⟩⟩⟩⟩⟩⟩⟩⟩⟩⟩⟩⟩⟩⟩⟩
theorem lw_p16 : lw_okq (⟨"QueryTexts$Reader", "takesInQuoteGap", "(I)Z"⟩, 8) := ⟨⟨by decide +kernel, by decide +kernel⟩, List.mem_of_getElem? (i := 116) (by decide +kernel), List.mem_of_getElem? (i := 362) (by decide +kernel), List.mem_of_getElem? (i := 363) (by decide +kernel)⟩
theorem lw_p17 : lw_okq (⟨"QueryTexts$Reader", "takesInSpan", "(I)Z"⟩, 8) := ⟨⟨by decide +kernel, by decide +kernel⟩, List.mem_of_getElem? (i := 116) (by decide +kernel), List.mem_of_getElem? (i := 366) (by decide +kernel), List.mem_of_getElem? (i := 367) (by decide +kernel)⟩
theorem lw_p18 : lw_okq (⟨"QueryTexts$Reader", "takeBoost", "(II)Z"⟩, 8) := ⟨⟨by decide +kernel, by decide +kernel⟩, List.mem_of_getElem? (i := 116) (by decide +kernel), List.mem_of_getElem? (i := 373) (by decide +kernel), List.mem_of_getElem? (i := 374) (by decide +kernel)⟩
theorem lw_p19 : lw_okq (⟨"QueryTexts", "adoptReading", "()I"⟩, 10) := ⟨⟨by decide +kernel, by decide +kernel⟩, List.mem_of_getElem? (i := 23) (by decide +kernel), List.mem_of_getElem? (i := 381) (by decide +kernel), List.mem_of_getElem? (i := 382) (by decide +kernel)⟩
theorem lw_p20 : lw_okq (⟨"QueryTexts", "drop", "(I)V"⟩, 10) := ⟨⟨by decide +kernel, by decide +kernel⟩, List.mem_of_getElem? (i := 23) (by decide +kernel), List.mem_of_getElem? (i := 393) (by decide +kernel), List.mem_of_getElem? (i := 394) (by decide +kernel)⟩
theorem lw_p21 : lw_okq (⟨"QueryTexts$Sheet", "closeGroups", "(LQueryTexts$Tree;II)I"⟩, 2) := ⟨⟨by decide +kernel, by decide +kernel⟩, List.mem_of_getElem? (i := 151) (by decide +kernel), List.mem_of_getElem? (i := 414) (by decide +kernel), List.mem_of_getElem? (i := 415) (by decide +kernel)⟩
theorem lw_p22 : lw_okq (⟨"QueryTexts$Sheet", "put", "(I)V"⟩, 2) := ⟨⟨by decide +kernel, by decide +kernel⟩, List.mem_of_getElem? (i := 151) (by decide +kernel), List.mem_of_getElem? (i := 418) (by decide +kernel), List.mem_of_getElem? (i := 419) (by decide +kernel)⟩
theorem lw_p23 : lw_okq (⟨"QueryTexts$Sheet", "putTold", "(III)V"⟩, 2) := ⟨⟨by decide +kernel, by decide +kernel⟩, List.mem_of_getElem? (i := 151) (by decide +kernel), List.mem_of_getElem? (i := 422) (by decide +kernel), List.mem_of_getElem? (i := 423) (by decide +kernel)⟩
theorem lw_p24 : lw_okq (⟨"QueryTexts$Sheet", "putHead", "(LQueryTexts$Clause;)V"⟩, 2) := ⟨⟨by decide +kernel, by decide +kernel⟩, List.mem_of_getElem? (i := 151) (by decide +kernel), List.mem_of_getElem? (i := 426) (by decide +kernel), List.mem_of_getElem? (i := 427) (by decide +kernel)⟩
theorem lw_p25 : lw_okq (⟨"QueryTexts$Sheet", "putCore", "(LQueryTexts$Clause;)V"⟩, 2) := ⟨⟨by decide +kernel, by decide +kernel⟩, List.mem_of_getElem? (i := 151) (by decide +kernel), List.mem_of_getElem? (i := 430) (by decide +kernel), List.mem_of_getElem? (i := 431) (by decide +kernel)⟩
theorem lw_p26 : lw_okq (⟨"QueryTexts$Sheet", "putQuote", "(LQueryTexts$Clause;)V"⟩, 2) := ⟨⟨by decide +kernel, by decide +kernel⟩, List.mem_of_getElem? (i := 151) (by decide +kernel), List.mem_of_getElem? (i := 434) (by decide +kernel), List.mem_of_getElem? (i := 435) (by decide +kernel)⟩
theorem lw_p27 : lw_okq (⟨"QueryTexts$Sheet", "putWord", "(J)V"⟩, 2) := ⟨⟨by decide +kernel, by decide +kernel⟩, List.mem_of_getElem? (i := 151) (by decide +kernel), List.mem_of_getElem? (i := 439) (by decide +kernel), List.mem_of_getElem? (i := 440) (by decide +kernel)⟩
theorem lw_p28 : lw_okq (⟨"QueryTexts$Sheet", "putSpan", "(LQueryTexts$Clause;)V"⟩, 2) := ⟨⟨by decide +kernel, by decide +kernel⟩, List.mem_of_getElem? (i := 151) (by decide +kernel), List.mem_of_getElem? (i := 448) (by decide +kernel), List.mem_of_getElem? (i := 449) (by decide +kernel)⟩
theorem lw_p29 : lw_okq (⟨"QueryTexts$Judge", "groupValue", "(LQueryTexts$Tree;I)J"⟩, 3) := ⟨⟨by decide +kernel, by decide +kernel⟩, List.mem_of_getElem? (i := 164) (by decide +kernel), List.mem_of_getElem? (i := 494) (by decide +kernel), List.mem_of_getElem? (i := 495) (by decide +kernel)⟩
theorem lw_p30 : lw_okq (⟨"QueryTexts$Judge", "valueAt", "(I)J"⟩, 3) := ⟨⟨by decide +kernel, by decide +kernel⟩, List.mem_of_getElem? (i := 164) (by decide +kernel), List.mem_of_getElem? (i := 498) (by decide +kernel), List.mem_of_getElem? (i := 499) (by decide +kernel)⟩
theorem lw_p31 : lw_okq (⟨"QueryTexts$Judge", "setValue", "(IJ)V"⟩, 3) := ⟨⟨by decide +kernel, by decide +kernel⟩, List.mem_of_getElem? (i := 164) (by decide +kernel), List.mem_of_getElem? (i := 509) (by decide +kernel), List.mem_of_getElem? (i := 510) (by decide +kernel)⟩
def lw_privs_2 : List (MethodName × Nat) := [(⟨"QueryTexts$Reader", "takesInQuoteGap", "(I)Z"⟩, 8), (⟨"QueryTexts$Reader", "takesInSpan", "(I)Z"⟩, 8), (⟨"QueryTexts$Reader", "takeBoost", "(II)Z"⟩, 8), (⟨"QueryTexts", "adoptReading", "()I"⟩, 10), (⟨"QueryTexts", "drop", "(I)V"⟩, 10), (⟨"QueryTexts$Sheet", "closeGroups", "(LQueryTexts$Tree;II)I"⟩, 2), (⟨"QueryTexts$Sheet", "put", "(I)V"⟩, 2), (⟨"QueryTexts$Sheet", "putTold", "(III)V"⟩, 2), (⟨"QueryTexts$Sheet", "putHead", "(LQueryTexts$Clause;)V"⟩, 2), (⟨"QueryTexts$Sheet", "putCore", "(LQueryTexts$Clause;)V"⟩, 2), (⟨"QueryTexts$Sheet", "putQuote", "(LQueryTexts$Clause;)V"⟩, 2), (⟨"QueryTexts$Sheet", "putWord", "(J)V"⟩, 2), (⟨"QueryTexts$Sheet", "putSpan", "(LQueryTexts$Clause;)V"⟩, 2), (⟨"QueryTexts$Judge", "groupValue", "(LQueryTexts$Tree;I)J"⟩, 3), (⟨"QueryTexts$Judge", "valueAt", "(I)J"⟩, 3), (⟨"QueryTexts$Judge", "setValue", "(IJ)V"⟩, 3)]
theorem lw_r2 : ∀ q ∈ lw_privs_2, lw_okq q := List.forall_mem_cons.mpr ⟨lw_p16, List.forall_mem_cons.mpr ⟨lw_p17, List.forall_mem_cons.mpr ⟨lw_p18, List.forall_mem_cons.mpr ⟨lw_p19, List.forall_mem_cons.mpr ⟨lw_p20, List.forall_mem_cons.mpr ⟨lw_p21, List.forall_mem_cons.mpr ⟨lw_p22, List.forall_mem_cons.mpr ⟨lw_p23, List.forall_mem_cons.mpr ⟨lw_p24, List.forall_mem_cons.mpr ⟨lw_p25, List.forall_mem_cons.mpr ⟨lw_p26, List.forall_mem_cons.mpr ⟨lw_p27, List.forall_mem_cons.mpr ⟨lw_p28, List.forall_mem_cons.mpr ⟨lw_p29, List.forall_mem_cons.mpr ⟨lw_p30, List.forall_mem_cons.mpr ⟨lw_p31, fun _ h => absurd h List.not_mem_nil⟩⟩⟩⟩⟩⟩⟩⟩⟩⟩⟩⟩⟩⟩⟩⟩
theorem lw_p32 : lw_okq (⟨"QueryTexts$Judge", "countFits", "(LQueryTexts$Clause;II)J"⟩, 3) := ⟨⟨by decide +kernel, by decide +kernel⟩, List.mem_of_getElem? (i := 164) (by decide +kernel), List.mem_of_getElem? (i := 518) (by decide +kernel), List.mem_of_getElem? (i := 519) (by decide +kernel)⟩
theorem lw_p33 : lw_okq (⟨"QueryTexts$Judge", "countQuotes", "(LQueryTexts$Clause;II)I"⟩, 3) := ⟨⟨by decide +kernel, by decide +kernel⟩, List.mem_of_getElem? (i := 164) (by decide +kernel), List.mem_of_getElem? (i := 522) (by decide +kernel), List.mem_of_getElem? (i := 523) (by decide +kernel)⟩
theorem lw_p34 : lw_okq (⟨"QueryTexts$Judge", "quoteStands", "(LQueryTexts$Clause;III)Z"⟩, 3) := ⟨⟨by decide +kernel, by decide +kernel⟩, List.mem_of_getElem? (i := 164) (by decide +kernel), List.mem_of_getElem? (i := 532) (by decide +kernel), List.mem_of_getElem? (i := 533) (by decide +kernel)⟩
theorem lw_p35 : lw_okq (⟨"QueryTexts$Judge", "countWords", "(LQueryTexts$Clause;II)I"⟩, 3) := ⟨⟨by decide +kernel, by decide +kernel⟩, List.mem_of_getElem? (i := 164) (by decide +kernel), List.mem_of_getElem? (i := 539) (by decide +kernel), List.mem_of_getElem? (i := 540) (by decide +kernel)⟩
theorem lw_p36 : lw_okq (⟨"QueryTexts$Likeness", "changes", "(JJ)I"⟩, 1) := ⟨⟨by decide +kernel, by decide +kernel⟩, List.mem_of_getElem? (i := 183) (by decide +kernel), List.mem_of_getElem? (i := 551) (by decide +kernel), List.mem_of_getElem? (i := 552) (by decide +kernel)⟩
theorem lw_p37 : lw_okq (⟨"QueryTexts", "countAhead", "(I)I"⟩, 10) := ⟨⟨by decide +kernel, by decide +kernel⟩, List.mem_of_getElem? (i := 23) (by decide +kernel), List.mem_of_getElem? (i := 583) (by decide +kernel), List.mem_of_getElem? (i := 584) (by decide +kernel)⟩
theorem lw_p38 : lw_okq (⟨"java/lang/NullPointerException", "getExtendedNPEMessage", "()Ljava/lang/String;"⟩, 8) := ⟨⟨by decide +kernel, by decide +kernel⟩, List.mem_of_getElem? (i := 622) (by decide +kernel), List.mem_of_getElem? (i := 620) (by decide +kernel), List.mem_of_getElem? (i := 621) (by decide +kernel)⟩
theorem lw_p39 : lw_okq (⟨"java/lang/Throwable", "fillInStackTrace", "(I)Ljava/lang/Throwable;"⟩, 6) := ⟨⟨by decide +kernel, by decide +kernel⟩, List.mem_of_getElem? (i := 631) (by decide +kernel), List.mem_of_getElem? (i := 629) (by decide +kernel), List.mem_of_getElem? (i := 630) (by decide +kernel)⟩
theorem lw_p40 : lw_okq (⟨"QueryTextsModel", "goAlong", "()I"⟩, 39) := ⟨⟨by decide +kernel, by decide +kernel⟩, List.mem_of_getElem? (i := 791) (by decide +kernel), List.mem_of_getElem? (i := 928) (by decide +kernel), List.mem_of_getElem? (i := 929) (by decide +kernel)⟩
theorem lw_p41 : lw_okq (⟨"QueryTextsModel", "newNode", "(I)I"⟩, 39) := ⟨⟨by decide +kernel, by decide +kernel⟩, List.mem_of_getElem? (i := 791) (by decide +kernel), List.mem_of_getElem? (i := 932) (by decide +kernel), List.mem_of_getElem? (i := 933) (by decide +kernel)⟩
theorem lw_p42 : lw_okq (⟨"QueryTextsModel", "here", "()I"⟩, 39) := ⟨⟨by decide +kernel, by decide +kernel⟩, List.mem_of_getElem? (i := 791) (by decide +kernel), List.mem_of_getElem? (i := 936) (by decide +kernel), List.mem_of_getElem? (i := 937) (by decide +kernel)⟩
theorem lw_p43 : lw_okq (⟨"QueryTextsModel", "figure", "(IIII)Z"⟩, 39) := ⟨⟨by decide +kernel, by decide +kernel⟩, List.mem_of_getElem? (i := 791) (by decide +kernel), List.mem_of_getElem? (i := 940) (by decide +kernel), List.mem_of_getElem? (i := 941) (by decide +kernel)⟩
theorem lw_p44 : lw_okq (⟨"QueryTextsModel", "fails", "()Z"⟩, 39) := ⟨⟨by decide +kernel, by decide +kernel⟩, List.mem_of_getElem? (i := 791) (by decide +kernel), List.mem_of_getElem? (i := 947) (by decide +kernel), List.mem_of_getElem? (i := 948) (by decide +kernel)⟩
theorem lw_p45 : lw_okq (⟨"QueryTextsModel", "ends", "(I)Z"⟩, 39) := ⟨⟨by decide +kernel, by decide +kernel⟩, List.mem_of_getElem? (i := 791) (by decide +kernel), List.mem_of_getElem? (i := 951) (by decide +kernel), List.mem_of_getElem? (i := 952) (by decide +kernel)⟩
theorem lw_p46 : lw_okq (⟨"QueryTextsModel", "marks", "(I)V"⟩, 39) := ⟨⟨by decide +kernel, by decide +kernel⟩, List.mem_of_getElem? (i := 791) (by decide +kernel), List.mem_of_getElem? (i := 958) (by decide +kernel), List.mem_of_getElem? (i := 959) (by decide +kernel)⟩
theorem lw_p47 : lw_okq (⟨"QueryTextsModel", "core", "(II)Z"⟩, 39) := ⟨⟨by decide +kernel, by decide +kernel⟩, List.mem_of_getElem? (i := 791) (by decide +kernel), List.mem_of_getElem? (i := 964) (by decide +kernel), List.mem_of_getElem? (i := 965) (by decide +kernel)⟩
def lw_privs_3 : List (MethodName × Nat) := [(⟨"QueryTexts$Judge", "countFits", "(LQueryTexts$Clause;II)J"⟩, 3), (⟨"QueryTexts$Judge", "countQuotes", "(LQueryTexts$Clause;II)I"⟩, 3), (⟨"QueryTexts$Judge", "quoteStands", "(LQueryTexts$Clause;III)Z"⟩, 3), (⟨"QueryTexts$Judge", "countWords", "(LQueryTexts$Clause;II)I"⟩, 3), (⟨"QueryTexts$Likeness", "changes", "(JJ)I"⟩, 1), (⟨"QueryTexts", "countAhead", "(I)I"⟩, 10), (⟨"java/lang/NullPointerException", "getExtendedNPEMessage", "()Ljava/lang/String;"⟩, 8), (⟨"java/lang/Throwable", "fillInStackTrace", "(I)Ljava/lang/Throwable;"⟩, 6), (⟨"QueryTextsModel", "goAlong", "()I"⟩, 39), (⟨"QueryTextsModel", "newNode", "(I)I"⟩, 39), (⟨"QueryTextsModel", "here", "()I"⟩, 39), (⟨"QueryTextsModel", "figure", "(IIII)Z"⟩, 39), (⟨"QueryTextsModel", "fails", "()Z"⟩, 39), (⟨"QueryTextsModel", "ends", "(I)Z"⟩, 39), (⟨"QueryTextsModel", "marks", "(I)V"⟩, 39), (⟨"QueryTextsModel", "core", "(II)Z"⟩, 39)]
theorem lw_r3 : ∀ q ∈ lw_privs_3, lw_okq q := List.forall_mem_cons.mpr ⟨lw_p32, List.forall_mem_cons.mpr ⟨lw_p33, List.forall_mem_cons.mpr ⟨lw_p34, List.forall_mem_cons.mpr ⟨lw_p35, List.forall_mem_cons.mpr ⟨lw_p36, List.forall_mem_cons.mpr ⟨lw_p37, List.forall_mem_cons.mpr ⟨lw_p38, List.forall_mem_cons.mpr ⟨lw_p39, List.forall_mem_cons.mpr ⟨lw_p40, List.forall_mem_cons.mpr ⟨lw_p41, List.forall_mem_cons.mpr ⟨lw_p42, List.forall_mem_cons.mpr ⟨lw_p43, List.forall_mem_cons.mpr ⟨lw_p44, List.forall_mem_cons.mpr ⟨lw_p45, List.forall_mem_cons.mpr ⟨lw_p46, List.forall_mem_cons.mpr ⟨lw_p47, fun _ h => absurd h List.not_mem_nil⟩⟩⟩⟩⟩⟩⟩⟩⟩⟩⟩⟩⟩⟩⟩⟩
theorem lw_p48 : lw_okq (⟨"QueryTextsModel", "word", "(I)Z"⟩, 39) := ⟨⟨by decide +kernel, by decide +kernel⟩, List.mem_of_getElem? (i := 791) (by decide +kernel), List.mem_of_getElem? (i := 968) (by decide +kernel), List.mem_of_getElem? (i := 969) (by decide +kernel)⟩
theorem lw_p49 : lw_okq (⟨"QueryTextsModel", "quote", "(I)Z"⟩, 39) := ⟨⟨by decide +kernel, by decide +kernel⟩, List.mem_of_getElem? (i := 791) (by decide +kernel), List.mem_of_getElem? (i := 972) (by decide +kernel), List.mem_of_getElem? (i := 973) (by decide +kernel)⟩
theorem lw_p50 : lw_okq (⟨"QueryTextsModel", "letters", "(I)Z"⟩, 39) := ⟨⟨by decide +kernel, by decide +kernel⟩, List.mem_of_getElem? (i := 791) (by decide +kernel), List.mem_of_getElem? (i := 976) (by decide +kernel), List.mem_of_getElem? (i := 977) (by decide +kernel)⟩
theorem lw_p51 : lw_okq (⟨"QueryTextsModel", "span", "(I)Z"⟩, 39) := ⟨⟨by decide +kernel, by decide +kernel⟩, List.mem_of_getElem? (i := 791) (by decide +kernel), List.mem_of_getElem? (i := 980) (by decide +kernel), List.mem_of_getElem? (i := 981) (by decide +kernel)⟩
theorem lw_p52 : lw_okq (⟨"QueryTextsModel", "become", "()V"⟩, 39) := ⟨⟨by decide +kernel, by decide +kernel⟩, List.mem_of_getElem? (i := 791) (by decide +kernel), List.mem_of_getElem? (i := 984) (by decide +kernel), List.mem_of_getElem? (i := 985) (by decide +kernel)⟩
theorem lw_p53 : lw_okq (⟨"QueryTextsModel", "isNode", "(I)Z"⟩, 39) := ⟨⟨by decide +kernel, by decide +kernel⟩, List.mem_of_getElem? (i := 791) (by decide +kernel), List.mem_of_getElem? (i := 1000) (by decide +kernel), List.mem_of_getElem? (i := 1001) (by decide +kernel)⟩
theorem lw_p54 : lw_okq (⟨"QueryTextsModel", "closes", "(I)V"⟩, 39) := ⟨⟨by decide +kernel, by decide +kernel⟩, List.mem_of_getElem? (i := 791) (by decide +kernel), List.mem_of_getElem? (i := 1012) (by decide +kernel), List.mem_of_getElem? (i := 1013) (by decide +kernel)⟩
theorem lw_p55 : lw_okq (⟨"QueryTextsModel", "put", "(I)V"⟩, 39) := ⟨⟨by decide +kernel, by decide +kernel⟩, List.mem_of_getElem? (i := 791) (by decide +kernel), List.mem_of_getElem? (i := 1016) (by decide +kernel), List.mem_of_getElem? (i := 1017) (by decide +kernel)⟩
theorem lw_p56 : lw_okq (⟨"QueryTextsModel", "putBoost", "(I)V"⟩, 39) := ⟨⟨by decide +kernel, by decide +kernel⟩, List.mem_of_getElem? (i := 791) (by decide +kernel), List.mem_of_getElem? (i := 1020) (by decide +kernel), List.mem_of_getElem? (i := 1021) (by decide +kernel)⟩
theorem lw_p57 : lw_okq (⟨"QueryTextsModel", "putCore", "(I)V"⟩, 39) := ⟨⟨by decide +kernel, by decide +kernel⟩, List.mem_of_getElem? (i := 791) (by decide +kernel), List.mem_of_getElem? (i := 1024) (by decide +kernel), List.mem_of_getElem? (i := 1025) (by decide +kernel)⟩
theorem lw_p58 : lw_okq (⟨"QueryTextsModel", "putWord", "(II)V"⟩, 39) := ⟨⟨by decide +kernel, by decide +kernel⟩, List.mem_of_getElem? (i := 791) (by decide +kernel), List.mem_of_getElem? (i := 1028) (by decide +kernel), List.mem_of_getElem? (i := 1029) (by decide +kernel)⟩
theorem lw_p59 : lw_okq (⟨"QueryTextsModel", "reckon", "(I)V"⟩, 39) := ⟨⟨by decide +kernel, by decide +kernel⟩, List.mem_of_getElem? (i := 791) (by decide +kernel), List.mem_of_getElem? (i := 1053) (by decide +kernel), List.mem_of_getElem? (i := 1054) (by decide +kernel)⟩
theorem lw_p60 : lw_okq (⟨"QueryTextsModel", "reckonGroup", "(I)V"⟩, 39) := ⟨⟨by decide +kernel, by decide +kernel⟩, List.mem_of_getElem? (i := 791) (by decide +kernel), List.mem_of_getElem? (i := 1057) (by decide +kernel), List.mem_of_getElem? (i := 1058) (by decide +kernel)⟩
theorem lw_p61 : lw_okq (⟨"QueryTextsModel", "countOf", "(II)I"⟩, 39) := ⟨⟨by decide +kernel, by decide +kernel⟩, List.mem_of_getElem? (i := 791) (by decide +kernel), List.mem_of_getElem? (i := 1061) (by decide +kernel), List.mem_of_getElem? (i := 1062) (by decide +kernel)⟩
theorem lw_p62 : lw_okq (⟨"QueryTextsModel", "quoteAt", "(IIII)Z"⟩, 39) := ⟨⟨by decide +kernel, by decide +kernel⟩, List.mem_of_getElem? (i := 791) (by decide +kernel), List.mem_of_getElem? (i := 1065) (by decide +kernel), List.mem_of_getElem? (i := 1066) (by decide +kernel)⟩
theorem lw_p63 : lw_okq (⟨"QueryTextsModel", "against", "(III)I"⟩, 39) := ⟨⟨by decide +kernel, by decide +kernel⟩, List.mem_of_getElem? (i := 791) (by decide +kernel), List.mem_of_getElem? (i := 1069) (by decide +kernel), List.mem_of_getElem? (i := 1070) (by decide +kernel)⟩
def lw_privs_4 : List (MethodName × Nat) := [(⟨"QueryTextsModel", "word", "(I)Z"⟩, 39), (⟨"QueryTextsModel", "quote", "(I)Z"⟩, 39), (⟨"QueryTextsModel", "letters", "(I)Z"⟩, 39), (⟨"QueryTextsModel", "span", "(I)Z"⟩, 39), (⟨"QueryTextsModel", "become", "()V"⟩, 39), (⟨"QueryTextsModel", "isNode", "(I)Z"⟩, 39), (⟨"QueryTextsModel", "closes", "(I)V"⟩, 39), (⟨"QueryTextsModel", "put", "(I)V"⟩, 39), (⟨"QueryTextsModel", "putBoost", "(I)V"⟩, 39), (⟨"QueryTextsModel", "putCore", "(I)V"⟩, 39), (⟨"QueryTextsModel", "putWord", "(II)V"⟩, 39), (⟨"QueryTextsModel", "reckon", "(I)V"⟩, 39), (⟨"QueryTextsModel", "reckonGroup", "(I)V"⟩, 39), (⟨"QueryTextsModel", "countOf", "(II)I"⟩, 39), (⟨"QueryTextsModel", "quoteAt", "(IIII)Z"⟩, 39), (⟨"QueryTextsModel", "against", "(III)I"⟩, 39)]
theorem lw_r4 : ∀ q ∈ lw_privs_4, lw_okq q := List.forall_mem_cons.mpr ⟨lw_p48, List.forall_mem_cons.mpr ⟨lw_p49, List.forall_mem_cons.mpr ⟨lw_p50, List.forall_mem_cons.mpr ⟨lw_p51, List.forall_mem_cons.mpr ⟨lw_p52, List.forall_mem_cons.mpr ⟨lw_p53, List.forall_mem_cons.mpr ⟨lw_p54, List.forall_mem_cons.mpr ⟨lw_p55, List.forall_mem_cons.mpr ⟨lw_p56, List.forall_mem_cons.mpr ⟨lw_p57, List.forall_mem_cons.mpr ⟨lw_p58, List.forall_mem_cons.mpr ⟨lw_p59, List.forall_mem_cons.mpr ⟨lw_p60, List.forall_mem_cons.mpr ⟨lw_p61, List.forall_mem_cons.mpr ⟨lw_p62, List.forall_mem_cons.mpr ⟨lw_p63, fun _ h => absurd h List.not_mem_nil⟩⟩⟩⟩⟩⟩⟩⟩⟩⟩⟩⟩⟩⟩⟩⟩
theorem lw_p64 : lw_okq (⟨"QueryTextsModel", "fitsWord", "(II)Z"⟩, 39) := ⟨⟨by decide +kernel, by decide +kernel⟩, List.mem_of_getElem? (i := 791) (by decide +kernel), List.mem_of_getElem? (i := 1073) (by decide +kernel), List.mem_of_getElem? (i := 1074) (by decide +kernel)⟩
theorem lw_p65 : lw_okq (⟨"QueryTextsModel", "changes", "(II)I"⟩, 39) := ⟨⟨by decide +kernel, by decide +kernel⟩, List.mem_of_getElem? (i := 791) (by decide +kernel), List.mem_of_getElem? (i := 1077) (by decide +kernel), List.mem_of_getElem? (i := 1078) (by decide +kernel)⟩
theorem lw_p66 : lw_okq (⟨"QueryTextsModel", "fitsSigns", "(II)Z"⟩, 39) := ⟨⟨by decide +kernel, by decide +kernel⟩, List.mem_of_getElem? (i := 791) (by decide +kernel), List.mem_of_getElem? (i := 1084) (by decide +kernel), List.mem_of_getElem? (i := 1085) (by decide +kernel)⟩
def lw_privs_5 : List (MethodName × Nat) := [(⟨"QueryTextsModel", "fitsWord", "(II)Z"⟩, 39), (⟨"QueryTextsModel", "changes", "(II)I"⟩, 39), (⟨"QueryTextsModel", "fitsSigns", "(II)Z"⟩, 39)]
theorem lw_r5 : ∀ q ∈ lw_privs_5, lw_okq q := List.forall_mem_cons.mpr ⟨lw_p64, List.forall_mem_cons.mpr ⟨lw_p65, List.forall_mem_cons.mpr ⟨lw_p66, fun _ h => absurd h List.not_mem_nil⟩⟩⟩
def lw_privs : List (MethodName × Nat) := lw_privs_1 ++ (lw_privs_2 ++ (lw_privs_3 ++ (lw_privs_4 ++ (lw_privs_5))))
def lw_tbl : List Cond := k2_sels lw_privs ++ tables_1
theorem lw_privs_ok : ∀ q ∈ lw_privs, lw_okq q := by
  show ∀ q ∈ lw_privs_1 ++ (lw_privs_2 ++ (lw_privs_3 ++ (lw_privs_4 ++ (lw_privs_5)))), lw_okq q
  exact List.forall_mem_append.mpr ⟨lw_r1, List.forall_mem_append.mpr ⟨lw_r2, List.forall_mem_append.mpr ⟨lw_r3, List.forall_mem_append.mpr ⟨lw_r4, lw_r5⟩⟩⟩⟩
def RX0 : String := "QueryTexts$Clause"
def TX0 : u_T := fun k => match k with
  | 0 => ("QueryTexts$Clause", "core", "I", false)
  | 1 => ("QueryTexts$Clause", "mark", "I", false)
  | 2 => ("QueryTexts$Clause", "boost", "I", false)
  | 3 => ("QueryTexts$Clause", "field", "I", false)
  | 4 => ("QueryTexts$Clause", "detail", "I", false)
  | 5 => ("QueryTexts$Clause", "size", "I", false)
  | 6 => ("QueryTexts$Clause", "around", "I", false)
  | _ => ("QueryTexts$Clause", "words", "[J", true)
def tyX0 : Nat → FieldType := fun k => match k with
  | 0 => .int
  | 1 => .int
  | 2 => .int
  | 3 => .int
  | 4 => .int
  | 5 => .int
  | 6 => .int
  | _ => .array .long
abbrev wsX00 : List Cond := u_ws RX0 TX0 8
theorem nmX0 : ∀ a, a < 8 → ∀ b, b < 8 → a ≠ b → (TX0 a).2.1 ≠ (TX0 b).2.1 := by decide +kernel
theorem tyX0_ok : ∀ k, k < 8 → parseFieldDescriptor (TX0 k).2.2.1 = some (tyX0 k) := by decide +kernel
abbrev cX0_init : ByteArray := prog_2_method_1_code
def yX0_init : MethodName := ⟨RX0, "<init>", "()V"⟩
abbrev cX0_start : ByteArray := prog_2_method_2_code
def yX0_start : MethodName := ⟨RX0, "start", "(II)V"⟩
abbrev cX0_addSign : ByteArray := prog_2_method_3_code
def yX0_addSign : MethodName := ⟨RX0, "addSign", "(III)V"⟩
abbrev cX0_wordAt : ByteArray := prog_2_method_4_code
def yX0_wordAt : MethodName := ⟨RX0, "wordAt", "(I)J"⟩
abbrev cX0_turnToField : ByteArray := prog_2_method_5_code
def yX0_turnToField : MethodName := ⟨RX0, "turnToField", "()V"⟩
def RX1 : String := "QueryTexts$Judge"
def TX1 : u_T := fun k => match k with
  | 0 => ("QueryTexts$Judge", "shelf", "LQueryTexts$Shelf;", true)
  | 1 => ("QueryTexts$Judge", "likeness", "LQueryTexts$Likeness;", true)
  | _ => ("QueryTexts$Judge", "values", "[J", true)
def tyX1 : Nat → FieldType := fun k => match k with
  | 0 => .object "QueryTexts$Shelf"
  | 1 => .object "QueryTexts$Likeness"
  | _ => .array .long
abbrev wsX10 : List Cond := u_ws RX1 TX1 3
theorem nmX1 : ∀ a, a < 3 → ∀ b, b < 3 → a ≠ b → (TX1 a).2.1 ≠ (TX1 b).2.1 := by decide +kernel
theorem tyX1_ok : ∀ k, k < 3 → parseFieldDescriptor (TX1 k).2.2.1 = some (tyX1 k) := by decide +kernel
abbrev cX1_init : ByteArray := prog_3_method_1_code
def yX1_init : MethodName := ⟨RX1, "<init>", "()V"⟩
abbrev cX1_weigh : ByteArray := prog_3_method_2_code
def yX1_weigh : MethodName := ⟨RX1, "weigh", "(LQueryTexts$Tree;II)J"⟩
abbrev cX1_setValue : ByteArray := prog_3_method_3_code
def yX1_setValue : MethodName := ⟨RX1, "setValue", "(IJ)V"⟩
abbrev cX1_valueAt : ByteArray := prog_3_method_4_code
def yX1_valueAt : MethodName := ⟨RX1, "valueAt", "(I)J"⟩
abbrev cX1_groupValue : ByteArray := prog_3_method_5_code
def yX1_groupValue : MethodName := ⟨RX1, "groupValue", "(LQueryTexts$Tree;I)J"⟩
abbrev cX1_isFault : ByteArray := prog_3_method_6_code
def yX1_isFault : MethodName := ⟨RX1, "isFault", "(IJ)Z"⟩
abbrev cX1_firstFault : ByteArray := prog_3_method_7_code
def yX1_firstFault : MethodName := ⟨RX1, "firstFault", "(LQueryTexts$Tree;I)I"⟩
abbrev cX1_countFits : ByteArray := prog_3_method_8_code
def yX1_countFits : MethodName := ⟨RX1, "countFits", "(LQueryTexts$Clause;II)J"⟩
abbrev cX1_countWords : ByteArray := prog_3_method_9_code
def yX1_countWords : MethodName := ⟨RX1, "countWords", "(LQueryTexts$Clause;II)I"⟩
abbrev cX1_countQuotes : ByteArray := prog_3_method_10_code
def yX1_countQuotes : MethodName := ⟨RX1, "countQuotes", "(LQueryTexts$Clause;II)I"⟩
abbrev cX1_quoteStands : ByteArray := prog_3_method_11_code
def yX1_quoteStands : MethodName := ⟨RX1, "quoteStands", "(LQueryTexts$Clause;III)Z"⟩
def RX2 : String := "QueryTexts$Letters"
def TX2 : u_T := fun k => match k with
  | _ => ("", "", "", false)
def tyX2 : Nat → FieldType := fun k => match k with
  | _ => .int
abbrev wsX20 : List Cond := u_ws RX2 TX2 0
theorem nmX2 : ∀ a, a < 0 → ∀ b, b < 0 → a ≠ b → (TX2 a).2.1 ≠ (TX2 b).2.1 := by decide +kernel
theorem tyX2_ok : ∀ k, k < 0 → parseFieldDescriptor (TX2 k).2.2.1 = some (tyX2 k) := by decide +kernel
abbrev cX2_isLetter : ByteArray := prog_4_method_2_code
def yX2_isLetter : MethodName := ⟨RX2, "isLetter", "(I)Z"⟩
abbrev cX2_isSign : ByteArray := prog_4_method_3_code
def yX2_isSign : MethodName := ⟨RX2, "isSign", "(I)Z"⟩
abbrev cX2_signAt : ByteArray := prog_4_method_4_code
def yX2_signAt : MethodName := ⟨RX2, "signAt", "(JI)I"⟩
abbrev cX2_isPlain : ByteArray := prog_4_method_5_code
def yX2_isPlain : MethodName := ⟨RX2, "isPlain", "(J)Z"⟩
abbrev cX2_moveAhead : ByteArray := prog_4_method_6_code
def yX2_moveAhead : MethodName := ⟨RX2, "moveAhead", "(J)J"⟩
abbrev cX2_lengthOf : ByteArray := prog_4_method_7_code
def yX2_lengthOf : MethodName := ⟨RX2, "lengthOf", "(J)I"⟩
def RX3 : String := "QueryTexts$Likeness"
def TX3 : u_T := fun k => match k with
  | _ => ("QueryTexts$Likeness", "row", "[I", true)
def tyX3 : Nat → FieldType := fun k => match k with
  | _ => .array .int
abbrev wsX30 : List Cond := u_ws RX3 TX3 1
theorem nmX3 : ∀ a, a < 1 → ∀ b, b < 1 → a ≠ b → (TX3 a).2.1 ≠ (TX3 b).2.1 := by decide +kernel
theorem tyX3_ok : ∀ k, k < 1 → parseFieldDescriptor (TX3 k).2.2.1 = some (tyX3 k) := by decide +kernel
abbrev cX3_init : ByteArray := prog_5_method_1_code
def yX3_init : MethodName := ⟨RX3, "<init>", "()V"⟩
abbrev cX3_isFor : ByteArray := prog_5_method_2_code
def yX3_isFor : MethodName := ⟨RX3, "isFor", "(LQueryTexts$Clause;J)Z"⟩
abbrev cX3_isWithin : ByteArray := prog_5_method_3_code
def yX3_isWithin : MethodName := ⟨RX3, "isWithin", "(LQueryTexts$Clause;J)Z"⟩
abbrev cX3_changes : ByteArray := prog_5_method_4_code
def yX3_changes : MethodName := ⟨RX3, "changes", "(JJ)I"⟩
abbrev cX3_hasSigns : ByteArray := prog_5_method_5_code
def yX3_hasSigns : MethodName := ⟨RX3, "hasSigns", "(JJ)Z"⟩
abbrev cX3_placesOf : ByteArray := prog_5_method_6_code
def yX3_placesOf : MethodName := ⟨RX3, "placesOf", "(IJI)I"⟩
def RX4 : String := "QueryTexts$Reader"
def TX4 : u_T := fun k => match k with
  | 0 => ("QueryTexts$Reader", "tree", "LQueryTexts$Tree;", false)
  | 1 => ("QueryTexts$Reader", "state", "I", false)
  | 2 => ("QueryTexts$Reader", "depth", "I", false)
  | 3 => ("QueryTexts$Reader", "open", "I", false)
  | 4 => ("QueryTexts$Reader", "clause", "LQueryTexts$Clause;", false)
  | 5 => ("QueryTexts$Reader", "wordNumber", "I", false)
  | 6 => ("QueryTexts$Reader", "signs", "I", false)
  | _ => ("QueryTexts$Reader", "plain", "Z", false)
def tyX4 : Nat → FieldType := fun k => match k with
  | 0 => .object "QueryTexts$Tree"
  | 1 => .int
  | 2 => .int
  | 3 => .int
  | 4 => .object "QueryTexts$Clause"
  | 5 => .int
  | 6 => .int
  | _ => .boolean
abbrev wsX40 : List Cond := u_ws RX4 TX4 8
theorem nmX4 : ∀ a, a < 8 → ∀ b, b < 8 → a ≠ b → (TX4 a).2.1 ≠ (TX4 b).2.1 := by decide +kernel
theorem tyX4_ok : ∀ k, k < 8 → parseFieldDescriptor (TX4 k).2.2.1 = some (tyX4 k) := by decide +kernel
abbrev cX4_init : ByteArray := prog_6_method_1_code
def yX4_init : MethodName := ⟨RX4, "<init>", "()V"⟩
abbrev cX4_begin : ByteArray := prog_6_method_2_code
def yX4_begin : MethodName := ⟨RX4, "begin", "()V"⟩
abbrev cX4_exchange : ByteArray := prog_6_method_3_code
def yX4_exchange : MethodName := ⟨RX4, "exchange", "(LQueryTexts$Tree;)LQueryTexts$Tree;"⟩
abbrev cX4_isWhole : ByteArray := prog_6_method_4_code
def yX4_isWhole : MethodName := ⟨RX4, "isWhole", "()Z"⟩
abbrev cX4_takes : ByteArray := prog_6_method_5_code
def yX4_takes : MethodName := ⟨RX4, "takes", "(I)Z"⟩
abbrev cX4_goTo : ByteArray := prog_6_method_6_code
def yX4_goTo : MethodName := ⟨RX4, "goTo", "(I)Z"⟩
abbrev cX4_isFigure : ByteArray := prog_6_method_7_code
def yX4_isFigure : MethodName := ⟨RX4, "isFigure", "(I)Z"⟩
abbrev cX4_takesInGap : ByteArray := prog_6_method_8_code
def yX4_takesInGap : MethodName := ⟨RX4, "takesInGap", "(I)Z"⟩
abbrev cX4_canBeginCore : ByteArray := prog_6_method_9_code
def yX4_canBeginCore : MethodName := ⟨RX4, "canBeginCore", "(II)Z"⟩
abbrev cX4_beginCore : ByteArray := prog_6_method_10_code
def yX4_beginCore : MethodName := ⟨RX4, "beginCore", "(I)Z"⟩
abbrev cX4_openGroup : ByteArray := prog_6_method_11_code
def yX4_openGroup : MethodName := ⟨RX4, "openGroup", "()Z"⟩
abbrev cX4_closeGroup : ByteArray := prog_6_method_12_code
def yX4_closeGroup : MethodName := ⟨RX4, "closeGroup", "()Z"⟩
abbrev cX4_beginWord : ByteArray := prog_6_method_13_code
def yX4_beginWord : MethodName := ⟨RX4, "beginWord", "(II)Z"⟩
abbrev cX4_takeSign : ByteArray := prog_6_method_14_code
def yX4_takeSign : MethodName := ⟨RX4, "takeSign", "(I)Z"⟩
abbrev cX4_takesLetter : ByteArray := prog_6_method_15_code
def yX4_takesLetter : MethodName := ⟨RX4, "takesLetter", "(II)Z"⟩
abbrev cX4_takesInWord : ByteArray := prog_6_method_16_code
def yX4_takesInWord : MethodName := ⟨RX4, "takesInWord", "(I)Z"⟩
abbrev cX4_isFieldLetter : ByteArray := prog_6_method_17_code
def yX4_isFieldLetter : MethodName := ⟨RX4, "isFieldLetter", "()Z"⟩
abbrev cX4_takeField : ByteArray := prog_6_method_18_code
def yX4_takeField : MethodName := ⟨RX4, "takeField", "()Z"⟩
abbrev cX4_takesInQuote : ByteArray := prog_6_method_19_code
def yX4_takesInQuote : MethodName := ⟨RX4, "takesInQuote", "(I)Z"⟩
abbrev cX4_takesInQuoteGap : ByteArray := prog_6_method_20_code
def yX4_takesInQuoteGap : MethodName := ⟨RX4, "takesInQuoteGap", "(I)Z"⟩
abbrev cX4_takesInSpan : ByteArray := prog_6_method_21_code
def yX4_takesInSpan : MethodName := ⟨RX4, "takesInSpan", "(I)Z"⟩
abbrev cX4_takesDetail : ByteArray := prog_6_method_22_code
def yX4_takesDetail : MethodName := ⟨RX4, "takesDetail", "(III)Z"⟩
abbrev cX4_takeBoost : ByteArray := prog_6_method_23_code
def yX4_takeBoost : MethodName := ⟨RX4, "takeBoost", "(II)Z"⟩
abbrev cX4_takesTail : ByteArray := prog_6_method_24_code
def yX4_takesTail : MethodName := ⟨RX4, "takesTail", "(I)Z"⟩
abbrev cX4_takesEnd : ByteArray := prog_6_method_25_code
def yX4_takesEnd : MethodName := ⟨RX4, "takesEnd", "(I)Z"⟩
def RX5 : String := "QueryTexts$Sheet"
def TX5 : u_T := fun k => match k with
  | 0 => ("QueryTexts$Sheet", "bytes", "[B", true)
  | _ => ("QueryTexts$Sheet", "length", "I", false)
def tyX5 : Nat → FieldType := fun k => match k with
  | 0 => .array .byte
  | _ => .int
abbrev wsX50 : List Cond := u_ws RX5 TX5 2
theorem nmX5 : ∀ a, a < 2 → ∀ b, b < 2 → a ≠ b → (TX5 a).2.1 ≠ (TX5 b).2.1 := by decide +kernel
theorem tyX5_ok : ∀ k, k < 2 → parseFieldDescriptor (TX5 k).2.2.1 = some (tyX5 k) := by decide +kernel
abbrev cX5_init : ByteArray := prog_7_method_1_code
def yX5_init : MethodName := ⟨RX5, "<init>", "()V"⟩
abbrev cX5_isWritten : ByteArray := prog_7_method_2_code
def yX5_isWritten : MethodName := ⟨RX5, "isWritten", "()Z"⟩
abbrev cX5_byteAt : ByteArray := prog_7_method_3_code
def yX5_byteAt : MethodName := ⟨RX5, "byteAt", "(I)I"⟩
abbrev cX5_write : ByteArray := prog_7_method_4_code
def yX5_write : MethodName := ⟨RX5, "write", "(LQueryTexts$Tree;)I"⟩
abbrev cX5_closeGroups : ByteArray := prog_7_method_5_code
def yX5_closeGroups : MethodName := ⟨RX5, "closeGroups", "(LQueryTexts$Tree;II)I"⟩
abbrev cX5_put : ByteArray := prog_7_method_6_code
def yX5_put : MethodName := ⟨RX5, "put", "(I)V"⟩
abbrev cX5_putHead : ByteArray := prog_7_method_7_code
def yX5_putHead : MethodName := ⟨RX5, "putHead", "(LQueryTexts$Clause;)V"⟩
abbrev cX5_putCore : ByteArray := prog_7_method_8_code
def yX5_putCore : MethodName := ⟨RX5, "putCore", "(LQueryTexts$Clause;)V"⟩
abbrev cX5_putQuote : ByteArray := prog_7_method_9_code
def yX5_putQuote : MethodName := ⟨RX5, "putQuote", "(LQueryTexts$Clause;)V"⟩
abbrev cX5_putSpan : ByteArray := prog_7_method_10_code
def yX5_putSpan : MethodName := ⟨RX5, "putSpan", "(LQueryTexts$Clause;)V"⟩
abbrev cX5_putWord : ByteArray := prog_7_method_11_code
def yX5_putWord : MethodName := ⟨RX5, "putWord", "(J)V"⟩
abbrev cX5_putTold : ByteArray := prog_7_method_12_code
def yX5_putTold : MethodName := ⟨RX5, "putTold", "(III)V"⟩
def RX6 : String := "QueryTexts$Shelf"
def TX6 : u_T := fun k => match k with
  | 0 => ("QueryTexts$Shelf", "words", "[J", true)
  | _ => ("QueryTexts$Shelf", "counts", "[I", true)
def tyX6 : Nat → FieldType := fun k => match k with
  | 0 => .array .long
  | _ => .array .int
abbrev wsX60 : List Cond := u_ws RX6 TX6 2
theorem nmX6 : ∀ a, a < 2 → ∀ b, b < 2 → a ≠ b → (TX6 a).2.1 ≠ (TX6 b).2.1 := by decide +kernel
theorem tyX6_ok : ∀ k, k < 2 → parseFieldDescriptor (TX6 k).2.2.1 = some (tyX6 k) := by decide +kernel
abbrev cX6_init : ByteArray := prog_8_method_1_code
def yX6_init : MethodName := ⟨RX6, "<init>", "()V"⟩
abbrev cX6_countOf : ByteArray := prog_8_method_2_code
def yX6_countOf : MethodName := ⟨RX6, "countOf", "(II)I"⟩
abbrev cX6_wordAt : ByteArray := prog_8_method_3_code
def yX6_wordAt : MethodName := ⟨RX6, "wordAt", "(III)J"⟩
abbrev cX6_add : ByteArray := prog_8_method_4_code
def yX6_add : MethodName := ⟨RX6, "add", "(IIJ)I"⟩
abbrev cX6_empty : ByteArray := prog_8_method_5_code
def yX6_empty : MethodName := ⟨RX6, "empty", "(I)I"⟩
def RX7 : String := "QueryTexts$Tree"
def TX7 : u_T := fun k => match k with
  | 0 => ("QueryTexts$Tree", "clauses", "[LQueryTexts$Clause;", true)
  | _ => ("QueryTexts$Tree", "count", "I", false)
def tyX7 : Nat → FieldType := fun k => match k with
  | 0 => .array (.object "QueryTexts$Clause")
  | _ => .int
abbrev wsX70 : List Cond := u_ws RX7 TX7 2
theorem nmX7 : ∀ a, a < 2 → ∀ b, b < 2 → a ≠ b → (TX7 a).2.1 ≠ (TX7 b).2.1 := by decide +kernel
theorem tyX7_ok : ∀ k, k < 2 → parseFieldDescriptor (TX7 k).2.2.1 = some (tyX7 k) := by decide +kernel
abbrev cX7_init : ByteArray := prog_9_method_1_code
def yX7_init : MethodName := ⟨RX7, "<init>", "()V"⟩
abbrev cX7_isEmpty : ByteArray := prog_9_method_2_code
def yX7_isEmpty : MethodName := ⟨RX7, "isEmpty", "()Z"⟩
abbrev cX7_has : ByteArray := prog_9_method_3_code
def yX7_has : MethodName := ⟨RX7, "has", "(I)Z"⟩
abbrev cX7_at : ByteArray := prog_9_method_4_code
def yX7_at : MethodName := ⟨RX7, "at", "(I)LQueryTexts$Clause;"⟩
abbrev cX7_begin : ByteArray := prog_9_method_5_code
def yX7_begin : MethodName := ⟨RX7, "begin", "()V"⟩
abbrev cX7_hasRoom : ByteArray := prog_9_method_6_code
def yX7_hasRoom : MethodName := ⟨RX7, "hasRoom", "(I)Z"⟩
abbrev cX7_add : ByteArray := prog_9_method_7_code
def yX7_add : MethodName := ⟨RX7, "add", "(II)LQueryTexts$Clause;"⟩
abbrev cX7_fieldOf : ByteArray := prog_9_method_8_code
def yX7_fieldOf : MethodName := ⟨RX7, "fieldOf", "(I)I"⟩
def RX8 : String := "QueryTexts"
def TX8 : u_T := fun k => match k with
  | 0 => ("QueryTexts", "tape", "[B", true)
  | 1 => ("QueryTexts", "tapeLength", "I", false)
  | 2 => ("QueryTexts", "keptPlaces", "[I", true)
  | 3 => ("QueryTexts", "droppedPlaces", "[I", true)
  | 4 => ("QueryTexts", "droppedCount", "I", false)
  | 5 => ("QueryTexts", "query", "LQueryTexts$Tree;", false)
  | 6 => ("QueryTexts", "reader", "LQueryTexts$Reader;", true)
  | 7 => ("QueryTexts", "sheet", "LQueryTexts$Sheet;", true)
  | 8 => ("QueryTexts", "judge", "LQueryTexts$Judge;", true)
  | _ => ("QueryTexts", "totals", "[J", true)
def tyX8 : Nat → FieldType := fun k => match k with
  | 0 => .array .byte
  | 1 => .int
  | 2 => .array .int
  | 3 => .array .int
  | 4 => .int
  | 5 => .object "QueryTexts$Tree"
  | 6 => .object "QueryTexts$Reader"
  | 7 => .object "QueryTexts$Sheet"
  | 8 => .object "QueryTexts$Judge"
  | _ => .array .long
abbrev wsX80 : List Cond := u_ws RX8 TX8 10
theorem nmX8 : ∀ a, a < 10 → ∀ b, b < 10 → a ≠ b → (TX8 a).2.1 ≠ (TX8 b).2.1 := by decide +kernel
theorem tyX8_ok : ∀ k, k < 10 → parseFieldDescriptor (TX8 k).2.2.1 = some (tyX8 k) := by decide +kernel
abbrev cX8_init : ByteArray := prog_1_method_1_code
def yX8_init : MethodName := ⟨RX8, "<init>", "()V"⟩
abbrev cX8_feed : ByteArray := prog_1_method_2_code
def yX8_feed : MethodName := ⟨RX8, "feed", "(IJ)I"⟩
abbrev cX8_read : ByteArray := prog_1_method_3_code
def yX8_read : MethodName := ⟨RX8, "read", "()I"⟩
abbrev cX8_lenient : ByteArray := prog_1_method_4_code
def yX8_lenient : MethodName := ⟨RX8, "lenient", "()I"⟩
abbrev cX8_drop : ByteArray := prog_1_method_5_code
def yX8_drop : MethodName := ⟨RX8, "drop", "(I)V"⟩
abbrev cX8_adoptReading : ByteArray := prog_1_method_6_code
def yX8_adoptReading : MethodName := ⟨RX8, "adoptReading", "()I"⟩
abbrev cX8_dropped : ByteArray := prog_1_method_7_code
def yX8_dropped : MethodName := ⟨RX8, "dropped", "(I)I"⟩
abbrev cX8_node : ByteArray := prog_1_method_8_code
def yX8_node : MethodName := ⟨RX8, "node", "(II)I"⟩
abbrev cX8_sign : ByteArray := prog_1_method_9_code
def yX8_sign : MethodName := ⟨RX8, "sign", "(III)I"⟩
abbrev cX8_print : ByteArray := prog_1_method_10_code
def yX8_print : MethodName := ⟨RX8, "print", "()I"⟩
abbrev cX8_out : ByteArray := prog_1_method_11_code
def yX8_out : MethodName := ⟨RX8, "out", "(I)I"⟩
abbrev cX8_word : ByteArray := prog_1_method_12_code
def yX8_word : MethodName := ⟨RX8, "word", "(IIJ)I"⟩
abbrev cX8_clear : ByteArray := prog_1_method_13_code
def yX8_clear : MethodName := ⟨RX8, "clear", "(I)I"⟩
abbrev cX8_fits : ByteArray := prog_1_method_14_code
def yX8_fits : MethodName := ⟨RX8, "fits", "(II)I"⟩
abbrev cX8_worth : ByteArray := prog_1_method_15_code
def yX8_worth : MethodName := ⟨RX8, "worth", "(II)J"⟩
abbrev cX8_ratio : ByteArray := prog_1_method_16_code
def yX8_ratio : MethodName := ⟨RX8, "ratio", "(II)J"⟩
abbrev cX8_why : ByteArray := prog_1_method_17_code
def yX8_why : MethodName := ⟨RX8, "why", "(I)I"⟩
abbrev cX8_rank : ByteArray := prog_1_method_18_code
def yX8_rank : MethodName := ⟨RX8, "rank", "(I)I"⟩
abbrev cX8_countAhead : ByteArray := prog_1_method_19_code
def yX8_countAhead : MethodName := ⟨RX8, "countAhead", "(I)I"⟩
abbrev cX8_isDocument : ByteArray := prog_1_method_20_code
def yX8_isDocument : MethodName := ⟨RX8, "isDocument", "(I)Z"⟩
def RX9 : String := "QueryTextsModel"
def TX9 : u_T := fun k => match k with
  | 0 => ("QueryTextsModel", "thrown", "I", false)
  | 1 => ("QueryTextsModel", "tape", "[I", true)
  | 2 => ("QueryTextsModel", "taped", "I", false)
  | 3 => ("QueryTextsModel", "many", "I", false)
  | 4 => ("QueryTextsModel", "newCore", "[I", true)
  | 5 => ("QueryTextsModel", "newMark", "[I", true)
  | 6 => ("QueryTextsModel", "newBoost", "[I", true)
  | 7 => ("QueryTextsModel", "newField", "[I", true)
  | 8 => ("QueryTextsModel", "newExtra", "[I", true)
  | 9 => ("QueryTextsModel", "newAround", "[I", true)
  | 10 => ("QueryTextsModel", "newCount", "[I", true)
  | 11 => ("QueryTextsModel", "newLong", "[I", true)
  | 12 => ("QueryTextsModel", "newSign", "[I", true)
  | 13 => ("QueryTextsModel", "nodes", "I", false)
  | 14 => ("QueryTextsModel", "core", "[I", true)
  | 15 => ("QueryTextsModel", "mark", "[I", true)
  | 16 => ("QueryTextsModel", "boost", "[I", true)
  | 17 => ("QueryTextsModel", "field", "[I", true)
  | 18 => ("QueryTextsModel", "extra", "[I", true)
  | 19 => ("QueryTextsModel", "around", "[I", true)
  | 20 => ("QueryTextsModel", "count", "[I", true)
  | 21 => ("QueryTextsModel", "longOf", "[I", true)
  | 22 => ("QueryTextsModel", "signs", "[I", true)
  | 23 => ("QueryTextsModel", "at", "I", false)
  | 24 => ("QueryTextsModel", "isWrong", "Z", false)
  | 25 => ("QueryTextsModel", "placeOf", "[I", true)
  | 26 => ("QueryTextsModel", "gone", "[I", true)
  | 27 => ("QueryTextsModel", "goneMany", "I", false)
  | 28 => ("QueryTextsModel", "out", "[I", true)
  | 29 => ("QueryTextsModel", "outMany", "I", false)
  | 30 => ("QueryTextsModel", "words", "[I", true)
  | 31 => ("QueryTextsModel", "wordLong", "[I", true)
  | 32 => ("QueryTextsModel", "wordSign", "[I", true)
  | 33 => ("QueryTextsModel", "table", "[I", true)
  | 34 => ("QueryTextsModel", "is", "[Z", true)
  | 35 => ("QueryTextsModel", "worths", "[J", true)
  | 36 => ("QueryTextsModel", "fieldOf", "[I", true)
  | 37 => ("QueryTextsModel", "fitsAll", "[Z", true)
  | _ => ("QueryTextsModel", "worthAll", "[J", true)
def tyX9 : Nat → FieldType := fun k => match k with
  | 0 => .int
  | 1 => .array .int
  | 2 => .int
  | 3 => .int
  | 4 => .array .int
  | 5 => .array .int
  | 6 => .array .int
  | 7 => .array .int
  | 8 => .array .int
  | 9 => .array .int
  | 10 => .array .int
  | 11 => .array .int
  | 12 => .array .int
  | 13 => .int
  | 14 => .array .int
  | 15 => .array .int
  | 16 => .array .int
  | 17 => .array .int
  | 18 => .array .int
  | 19 => .array .int
  | 20 => .array .int
  | 21 => .array .int
  | 22 => .array .int
  | 23 => .int
  | 24 => .boolean
  | 25 => .array .int
  | 26 => .array .int
  | 27 => .int
  | 28 => .array .int
  | 29 => .int
  | 30 => .array .int
  | 31 => .array .int
  | 32 => .array .int
  | 33 => .array .int
  | 34 => .array .boolean
  | 35 => .array .long
  | 36 => .array .int
  | 37 => .array .boolean
  | _ => .array .long
abbrev wsX90 : List Cond := u_ws RX9 TX9 39
theorem nmX9 : ∀ a, a < 39 → ∀ b, b < 39 → a ≠ b → (TX9 a).2.1 ≠ (TX9 b).2.1 := by decide +kernel
theorem tyX9_ok : ∀ k, k < 39 → parseFieldDescriptor (TX9 k).2.2.1 = some (tyX9 k) := by decide +kernel
abbrev cX9_thrown : ByteArray := prog_11_method_1_code
def yX9_thrown : MethodName := ⟨RX9, "thrown", "()I"⟩
abbrev cX9_in : ByteArray := prog_11_method_2_code
def yX9_in : MethodName := ⟨RX9, "in", "(JJJ)Z"⟩
abbrev cX9_isLetter : ByteArray := prog_11_method_3_code
def yX9_isLetter : MethodName := ⟨RX9, "isLetter", "(I)Z"⟩
abbrev cX9_isFigure : ByteArray := prog_11_method_4_code
def yX9_isFigure : MethodName := ⟨RX9, "isFigure", "(III)Z"⟩
abbrev cX9_init : ByteArray := prog_11_method_5_code
def yX9_init : MethodName := ⟨RX9, "<init>", "()V"⟩
abbrev cX9_feed : ByteArray := prog_11_method_6_code
def yX9_feed : MethodName := ⟨RX9, "feed", "(IJ)I"⟩
abbrev cX9_here : ByteArray := prog_11_method_7_code
def yX9_here : MethodName := ⟨RX9, "here", "()I"⟩
abbrev cX9_fails : ByteArray := prog_11_method_8_code
def yX9_fails : MethodName := ⟨RX9, "fails", "()Z"⟩
abbrev cX9_newNode : ByteArray := prog_11_method_9_code
def yX9_newNode : MethodName := ⟨RX9, "newNode", "(I)I"⟩
abbrev cX9_letters : ByteArray := prog_11_method_10_code
def yX9_letters : MethodName := ⟨RX9, "letters", "(I)Z"⟩
abbrev cX9_figure : ByteArray := prog_11_method_11_code
def yX9_figure : MethodName := ⟨RX9, "figure", "(IIII)Z"⟩
abbrev cX9_word : ByteArray := prog_11_method_12_code
def yX9_word : MethodName := ⟨RX9, "word", "(I)Z"⟩
abbrev cX9_quote : ByteArray := prog_11_method_13_code
def yX9_quote : MethodName := ⟨RX9, "quote", "(I)Z"⟩
abbrev cX9_span : ByteArray := prog_11_method_14_code
def yX9_span : MethodName := ⟨RX9, "span", "(I)Z"⟩
abbrev cX9_ends : ByteArray := prog_11_method_15_code
def yX9_ends : MethodName := ⟨RX9, "ends", "(I)Z"⟩
abbrev cX9_marks : ByteArray := prog_11_method_16_code
def yX9_marks : MethodName := ⟨RX9, "marks", "(I)V"⟩
abbrev cX9_core : ByteArray := prog_11_method_17_code
def yX9_core : MethodName := ⟨RX9, "core", "(II)Z"⟩
abbrev cX9_goAlong : ByteArray := prog_11_method_18_code
def yX9_goAlong : MethodName := ⟨RX9, "goAlong", "()I"⟩
abbrev cX9_become : ByteArray := prog_11_method_19_code
def yX9_become : MethodName := ⟨RX9, "become", "()V"⟩
abbrev cX9_read : ByteArray := prog_11_method_20_code
def yX9_read : MethodName := ⟨RX9, "read", "()I"⟩
abbrev cX9_lenient : ByteArray := prog_11_method_21_code
def yX9_lenient : MethodName := ⟨RX9, "lenient", "()I"⟩
abbrev cX9_dropped : ByteArray := prog_11_method_22_code
def yX9_dropped : MethodName := ⟨RX9, "dropped", "(I)I"⟩
abbrev cX9_isNode : ByteArray := prog_11_method_23_code
def yX9_isNode : MethodName := ⟨RX9, "isNode", "(I)Z"⟩
abbrev cX9_node : ByteArray := prog_11_method_24_code
def yX9_node : MethodName := ⟨RX9, "node", "(II)I"⟩
abbrev cX9_sign : ByteArray := prog_11_method_25_code
def yX9_sign : MethodName := ⟨RX9, "sign", "(III)I"⟩
abbrev cX9_put : ByteArray := prog_11_method_26_code
def yX9_put : MethodName := ⟨RX9, "put", "(I)V"⟩
abbrev cX9_putWord : ByteArray := prog_11_method_27_code
def yX9_putWord : MethodName := ⟨RX9, "putWord", "(II)V"⟩
abbrev cX9_putBoost : ByteArray := prog_11_method_28_code
def yX9_putBoost : MethodName := ⟨RX9, "putBoost", "(I)V"⟩
abbrev cX9_putCore : ByteArray := prog_11_method_29_code
def yX9_putCore : MethodName := ⟨RX9, "putCore", "(I)V"⟩
abbrev cX9_closes : ByteArray := prog_11_method_30_code
def yX9_closes : MethodName := ⟨RX9, "closes", "(I)V"⟩
abbrev cX9_print : ByteArray := prog_11_method_31_code
def yX9_print : MethodName := ⟨RX9, "print", "()I"⟩
abbrev cX9_out : ByteArray := prog_11_method_32_code
def yX9_out : MethodName := ⟨RX9, "out", "(I)I"⟩
abbrev cX9_isDocument : ByteArray := prog_11_method_33_code
def yX9_isDocument : MethodName := ⟨RX9, "isDocument", "(I)Z"⟩
abbrev cX9_word_ : ByteArray := prog_11_method_34_code
def yX9_word_ : MethodName := ⟨RX9, "word", "(IIJ)I"⟩
abbrev cX9_clear : ByteArray := prog_11_method_35_code
def yX9_clear : MethodName := ⟨RX9, "clear", "(I)I"⟩
abbrev cX9_against : ByteArray := prog_11_method_36_code
def yX9_against : MethodName := ⟨RX9, "against", "(III)I"⟩
abbrev cX9_least : ByteArray := prog_11_method_37_code
def yX9_least : MethodName := ⟨RX9, "least", "(II)I"⟩
abbrev cX9_changes : ByteArray := prog_11_method_38_code
def yX9_changes : MethodName := ⟨RX9, "changes", "(II)I"⟩
abbrev cX9_fitsSigns : ByteArray := prog_11_method_39_code
def yX9_fitsSigns : MethodName := ⟨RX9, "fitsSigns", "(II)Z"⟩
abbrev cX9_fitsWord : ByteArray := prog_11_method_40_code
def yX9_fitsWord : MethodName := ⟨RX9, "fitsWord", "(II)Z"⟩
abbrev cX9_quoteAt : ByteArray := prog_11_method_41_code
def yX9_quoteAt : MethodName := ⟨RX9, "quoteAt", "(IIII)Z"⟩
abbrev cX9_countOf : ByteArray := prog_11_method_42_code
def yX9_countOf : MethodName := ⟨RX9, "countOf", "(II)I"⟩
abbrev cX9_reckonGroup : ByteArray := prog_11_method_43_code
def yX9_reckonGroup : MethodName := ⟨RX9, "reckonGroup", "(I)V"⟩
abbrev cX9_reckon : ByteArray := prog_11_method_44_code
def yX9_reckon : MethodName := ⟨RX9, "reckon", "(I)V"⟩
abbrev cX9_fits : ByteArray := prog_11_method_45_code
def yX9_fits : MethodName := ⟨RX9, "fits", "(II)I"⟩
abbrev cX9_worth : ByteArray := prog_11_method_46_code
def yX9_worth : MethodName := ⟨RX9, "worth", "(II)J"⟩
abbrev cX9_ratio : ByteArray := prog_11_method_47_code
def yX9_ratio : MethodName := ⟨RX9, "ratio", "(II)J"⟩
abbrev cX9_why : ByteArray := prog_11_method_48_code
def yX9_why : MethodName := ⟨RX9, "why", "(I)I"⟩
abbrev cX9_rank : ByteArray := prog_11_method_49_code
def yX9_rank : MethodName := ⟨RX9, "rank", "(I)I"⟩
def RJx00060 : String := "java/lang/ArrayIndexOutOfBoundsException"
def TJx00060 : u_T := fun k => match k with
  | 0 => ("java/lang/Throwable", "backtrace", "Ljava/lang/Object;", false)
  | 1 => ("java/lang/Throwable", "detailMessage", "Ljava/lang/String;", false)
  | 2 => ("java/lang/Throwable", "cause", "Ljava/lang/Throwable;", false)
  | 3 => ("java/lang/Throwable", "stackTrace", "[Ljava/lang/StackTraceElement;", false)
  | 4 => ("java/lang/Throwable", "depth", "I", false)
  | _ => ("java/lang/Throwable", "suppressedExceptions", "Ljava/util/List;", false)
def tyJx00060 : Nat → FieldType := fun k => match k with
  | 0 => .object "java/lang/Object"
  | 1 => .object "java/lang/String"
  | 2 => .object "java/lang/Throwable"
  | 3 => .array (.object "java/lang/StackTraceElement")
  | 4 => .int
  | _ => .object "java/util/List"
abbrev cJx00060_init_a7421 : ByteArray := prog_13_method_2_code
def yJx00060_init_a7421 : MethodName := ⟨RJx00060, "<init>", "(Ljava/lang/String;)V"⟩
def RJx3273f : String := "java/lang/ClassCastException"
def TJx3273f : u_T := fun k => match k with
  | 0 => ("java/lang/Throwable", "backtrace", "Ljava/lang/Object;", false)
  | 1 => ("java/lang/Throwable", "detailMessage", "Ljava/lang/String;", false)
  | 2 => ("java/lang/Throwable", "cause", "Ljava/lang/Throwable;", false)
  | 3 => ("java/lang/Throwable", "stackTrace", "[Ljava/lang/StackTraceElement;", false)
  | 4 => ("java/lang/Throwable", "depth", "I", false)
  | _ => ("java/lang/Throwable", "suppressedExceptions", "Ljava/util/List;", false)
def tyJx3273f : Nat → FieldType := fun k => match k with
  | 0 => .object "java/lang/Object"
  | 1 => .object "java/lang/String"
  | 2 => .object "java/lang/Throwable"
  | 3 => .array (.object "java/lang/StackTraceElement")
  | 4 => .int
  | _ => .object "java/util/List"
abbrev cJx3273f_init_a7421 : ByteArray := prog_14_method_2_code
def yJx3273f_init_a7421 : MethodName := ⟨RJx3273f, "<init>", "(Ljava/lang/String;)V"⟩
def RJ9 : String := "java/lang/Math"
def TJ9 : u_T := fun k => match k with
  | _ => ("", "", "", false)
def tyJ9 : Nat → FieldType := fun k => match k with
  | _ => .int
abbrev cJ9_floorDiv_f86c9 : ByteArray := prog_17_method_49_code
def yJ9_floorDiv_f86c9 : MethodName := ⟨RJ9, "floorDiv", "(JJ)J"⟩
abbrev cJ9_max_f86c9 : ByteArray := prog_17_method_66_code
def yJ9_max_f86c9 : MethodName := ⟨RJ9, "max", "(JJ)J"⟩
abbrev cJ9_min_7cf53 : ByteArray := prog_17_method_69_code
def yJ9_min_7cf53 : MethodName := ⟨RJ9, "min", "(II)I"⟩
def RJx5d777 : String := "java/lang/NullPointerException"
def TJx5d777 : u_T := fun k => match k with
  | 0 => ("java/lang/Throwable", "backtrace", "Ljava/lang/Object;", false)
  | 1 => ("java/lang/Throwable", "detailMessage", "Ljava/lang/String;", false)
  | 2 => ("java/lang/Throwable", "cause", "Ljava/lang/Throwable;", false)
  | 3 => ("java/lang/Throwable", "stackTrace", "[Ljava/lang/StackTraceElement;", false)
  | 4 => ("java/lang/Throwable", "depth", "I", false)
  | 5 => ("java/lang/Throwable", "suppressedExceptions", "Ljava/util/List;", false)
  | 6 => ("java/lang/NullPointerException", "extendedMessageState", "I", false)
  | _ => ("java/lang/NullPointerException", "extendedMessage", "Ljava/lang/String;", false)
def tyJx5d777 : Nat → FieldType := fun k => match k with
  | 0 => .object "java/lang/Object"
  | 1 => .object "java/lang/String"
  | 2 => .object "java/lang/Throwable"
  | 3 => .array (.object "java/lang/StackTraceElement")
  | 4 => .int
  | 5 => .object "java/util/List"
  | 6 => .int
  | _ => .object "java/lang/String"
abbrev cJx5d777_init_da8c8 : ByteArray := prog_18_method_1_code
def yJx5d777_init_da8c8 : MethodName := ⟨RJx5d777, "<init>", "()V"⟩
abbrev cJx5d777_init_a7421 : ByteArray := prog_18_method_2_code
def yJx5d777_init_a7421 : MethodName := ⟨RJx5d777, "<init>", "(Ljava/lang/String;)V"⟩
abbrev cJx5d777_fillInStackTrace_cddbd : ByteArray := prog_18_method_3_code
def yJx5d777_fillInStackTrace_cddbd : MethodName := ⟨RJx5d777, "fillInStackTrace", "()Ljava/lang/Throwable;"⟩
def RJ0 : String := "java/lang/String"
def TJ0 : u_T := fun k => match k with
  | 0 => ("java/lang/String", "value", "[B", true)
  | _ => ("java/lang/String", "coder", "B", true)
def tyJ0 : Nat → FieldType := fun k => match k with
  | 0 => .array .byte
  | _ => .byte
def RJ7 : String := "java/util/Arrays"
def TJ7 : u_T := fun k => match k with
  | _ => ("", "", "", false)
def tyJ7 : Nat → FieldType := fun k => match k with
  | _ => .int
abbrev cJ7_fill_d0a16 : ByteArray := prog_22_method_101_code
def yJ7_fill_d0a16 : MethodName := ⟨RJ7, "fill", "([JJ)V"⟩
def RL : String := "QueryTextsLaw"
abbrev cL_node : ByteArray := method_3_code
def yL_node : MethodName := ⟨RL, "node", "(LQueryTexts;II[J)I"⟩
abbrev cL_sign : ByteArray := method_4_code
def yL_sign : MethodName := ⟨RL, "sign", "(LQueryTexts;III[J)I"⟩
abbrev cL_out : ByteArray := method_5_code
def yL_out : MethodName := ⟨RL, "out", "(LQueryTexts;I[J)I"⟩
abbrev cL_ratio : ByteArray := method_6_code
def yL_ratio : MethodName := ⟨RL, "ratio", "(LQueryTexts;II[J)I"⟩
abbrev cL_law : ByteArray := code
def yL_law : MethodName := ⟨RL, "law", "([I)Z"⟩
/-! the words that every method here is given: the good ones of the tables -/
def BIG : List Cond := lw_tbl.filter goodWord
theorem big_t {w : Cond} {i : Nat} (h : tables_1[i]? = some w) (g : goodWord w = true) : w ∈ BIG := List.mem_filter.mpr ⟨List.mem_append_right _ (List.mem_of_getElem? h), g⟩
theorem big_s {w : Cond} {i : Nat} (h : (k2_sels lw_privs)[i]? = some w) (g : goodWord w = true) : w ∈ BIG := List.mem_filter.mpr ⟨List.mem_append_left _ (List.mem_of_getElem? h), g⟩
theorem big_good {w : Cond} (h : w ∈ BIG) : w ∈ BIG ∧ ((w.onTables && w.keeps) = true ∨ ∃ ty, w = .arrayClass ty) := ⟨h, good_of_word (List.mem_filter.mp h).2⟩
abbrev clsL : List vw_C := [(RX0, TX0, 8), (RX1, TX1, 3), (RX3, TX3, 1), (RX4, TX4, 8), (RX5, TX5, 2), (RX6, TX6, 2), (RX7, TX7, 2), (RX8, TX8, 10), (RX9, TX9, 39)]
def tyL : Nat → Nat → FieldType := fun c => match c with
  | 0 => tyX0
  | 1 => tyX1
  | 2 => tyX3
  | 3 => tyX4
  | 4 => tyX5
  | 5 => tyX6
  | 6 => tyX7
  | 7 => tyX8
  | _ => tyX9
def fkL : Nat → List Bool := fun c => match c with
  | 0 => [true, true, true, true, true, true, true, false]
  | 1 => [false, false, false]
  | 2 => [false]
  | 3 => [false, true, true, true, false, true, true, true]
  | 4 => [false, true]
  | 5 => [false, false]
  | 6 => [false, true]
  | 7 => [false, true, false, false, true, false, false, false, false, false]
  | _ => [true, false, true, true, false, false, false, false, false, false, false, false, false, true, false, false, false, false, false, false, false, false, false, true, true, false, false, true, false, true, false, false, false, false, false, false, false, false, false]
theorem layX0 : ∀ w ∈ u_ws RX0 TX0 8, w ∈ BIG := by
  intro w hw
  obtain ⟨k, hk, rfl⟩ := List.mem_map.mp hw
  have hk := List.mem_range.mp hk
  match k, hk with
  | 0, _ => exact big_t (i := 84) (by decide +kernel) (by decide +kernel)
  | 1, _ => exact big_t (i := 86) (by decide +kernel) (by decide +kernel)
  | 2, _ => exact big_t (i := 88) (by decide +kernel) (by decide +kernel)
  | 3, _ => exact big_t (i := 90) (by decide +kernel) (by decide +kernel)
  | 4, _ => exact big_t (i := 92) (by decide +kernel) (by decide +kernel)
  | 5, _ => exact big_t (i := 94) (by decide +kernel) (by decide +kernel)
  | 6, _ => exact big_t (i := 96) (by decide +kernel) (by decide +kernel)
  | 7, _ => exact big_t (i := 98) (by decide +kernel) (by decide +kernel)
  | _ + 8, h => exact absurd h (by omega)
theorem layX1 : ∀ w ∈ u_ws RX1 TX1 3, w ∈ BIG := by
  intro w hw
  obtain ⟨k, hk, rfl⟩ := List.mem_map.mp hw
  have hk := List.mem_range.mp hk
  match k, hk with
  | 0, _ => exact big_t (i := 196) (by decide +kernel) (by decide +kernel)
  | 1, _ => exact big_t (i := 198) (by decide +kernel) (by decide +kernel)
  | 2, _ => exact big_t (i := 200) (by decide +kernel) (by decide +kernel)
  | _ + 3, h => exact absurd h (by omega)
theorem layX3 : ∀ w ∈ u_ws RX3 TX3 1, w ∈ BIG := by
  intro w hw
  obtain ⟨k, hk, rfl⟩ := List.mem_map.mp hw
  have hk := List.mem_range.mp hk
  match k, hk with
  | 0, _ => exact big_t (i := 189) (by decide +kernel) (by decide +kernel)
  | _ + 1, h => exact absurd h (by omega)
theorem layX4 : ∀ w ∈ u_ws RX4 TX4 8, w ∈ BIG := by
  intro w hw
  obtain ⟨k, hk, rfl⟩ := List.mem_map.mp hw
  have hk := List.mem_range.mp hk
  match k, hk with
  | 0, _ => exact big_t (i := 133) (by decide +kernel) (by decide +kernel)
  | 1, _ => exact big_t (i := 135) (by decide +kernel) (by decide +kernel)
  | 2, _ => exact big_t (i := 137) (by decide +kernel) (by decide +kernel)
  | 3, _ => exact big_t (i := 139) (by decide +kernel) (by decide +kernel)
  | 4, _ => exact big_t (i := 141) (by decide +kernel) (by decide +kernel)
  | 5, _ => exact big_t (i := 143) (by decide +kernel) (by decide +kernel)
  | 6, _ => exact big_t (i := 145) (by decide +kernel) (by decide +kernel)
  | 7, _ => exact big_t (i := 147) (by decide +kernel) (by decide +kernel)
  | _ + 8, h => exact absurd h (by omega)
theorem layX5 : ∀ w ∈ u_ws RX5 TX5 2, w ∈ BIG := by
  intro w hw
  obtain ⟨k, hk, rfl⟩ := List.mem_map.mp hw
  have hk := List.mem_range.mp hk
  match k, hk with
  | 0, _ => exact big_t (i := 158) (by decide +kernel) (by decide +kernel)
  | 1, _ => exact big_t (i := 160) (by decide +kernel) (by decide +kernel)
  | _ + 2, h => exact absurd h (by omega)
theorem layX6 : ∀ w ∈ u_ws RX6 TX6 2, w ∈ BIG := by
  intro w hw
  obtain ⟨k, hk, rfl⟩ := List.mem_map.mp hw
  have hk := List.mem_range.mp hk
  match k, hk with
  | 0, _ => exact big_t (i := 177) (by decide +kernel) (by decide +kernel)
  | 1, _ => exact big_t (i := 179) (by decide +kernel) (by decide +kernel)
  | _ + 2, h => exact absurd h (by omega)
theorem layX7 : ∀ w ∈ u_ws RX7 TX7 2, w ∈ BIG := by
  intro w hw
  obtain ⟨k, hk, rfl⟩ := List.mem_map.mp hw
  have hk := List.mem_range.mp hk
  match k, hk with
  | 0, _ => exact big_t (i := 110) (by decide +kernel) (by decide +kernel)
  | 1, _ => exact big_t (i := 112) (by decide +kernel) (by decide +kernel)
  | _ + 2, h => exact absurd h (by omega)
theorem layX8 : ∀ w ∈ u_ws RX8 TX8 10, w ∈ BIG := by
  intro w hw
  obtain ⟨k, hk, rfl⟩ := List.mem_map.mp hw
  have hk := List.mem_range.mp hk
  match k, hk with
  | 0, _ => exact big_t (i := 213) (by decide +kernel) (by decide +kernel)
  | 1, _ => exact big_t (i := 215) (by decide +kernel) (by decide +kernel)
  | 2, _ => exact big_t (i := 217) (by decide +kernel) (by decide +kernel)
  | 3, _ => exact big_t (i := 219) (by decide +kernel) (by decide +kernel)
  | 4, _ => exact big_t (i := 221) (by decide +kernel) (by decide +kernel)
  | 5, _ => exact big_t (i := 223) (by decide +kernel) (by decide +kernel)
  | 6, _ => exact big_t (i := 225) (by decide +kernel) (by decide +kernel)
  | 7, _ => exact big_t (i := 227) (by decide +kernel) (by decide +kernel)
  | 8, _ => exact big_t (i := 229) (by decide +kernel) (by decide +kernel)
  | 9, _ => exact big_t (i := 231) (by decide +kernel) (by decide +kernel)
  | _ + 10, h => exact absurd h (by omega)
theorem layX9 : ∀ w ∈ u_ws RX9 TX9 39, w ∈ BIG := by
  intro w hw
  obtain ⟨k, hk, rfl⟩ := List.mem_map.mp hw
  have hk := List.mem_range.mp hk
  match k, hk with
  | 0, _ => exact big_t (i := 835) (by decide +kernel) (by decide +kernel)
  | 1, _ => exact big_t (i := 837) (by decide +kernel) (by decide +kernel)
  | 2, _ => exact big_t (i := 839) (by decide +kernel) (by decide +kernel)
  | 3, _ => exact big_t (i := 841) (by decide +kernel) (by decide +kernel)
  | 4, _ => exact big_t (i := 843) (by decide +kernel) (by decide +kernel)
  | 5, _ => exact big_t (i := 845) (by decide +kernel) (by decide +kernel)
  | 6, _ => exact big_t (i := 847) (by decide +kernel) (by decide +kernel)
  | 7, _ => exact big_t (i := 849) (by decide +kernel) (by decide +kernel)
  | 8, _ => exact big_t (i := 851) (by decide +kernel) (by decide +kernel)
  | 9, _ => exact big_t (i := 853) (by decide +kernel) (by decide +kernel)
  | 10, _ => exact big_t (i := 855) (by decide +kernel) (by decide +kernel)
  | 11, _ => exact big_t (i := 857) (by decide +kernel) (by decide +kernel)
  | 12, _ => exact big_t (i := 859) (by decide +kernel) (by decide +kernel)
  | 13, _ => exact big_t (i := 861) (by decide +kernel) (by decide +kernel)
  | 14, _ => exact big_t (i := 863) (by decide +kernel) (by decide +kernel)
  | 15, _ => exact big_t (i := 865) (by decide +kernel) (by decide +kernel)
  | 16, _ => exact big_t (i := 867) (by decide +kernel) (by decide +kernel)
  | 17, _ => exact big_t (i := 869) (by decide +kernel) (by decide +kernel)
  | 18, _ => exact big_t (i := 871) (by decide +kernel) (by decide +kernel)
  | 19, _ => exact big_t (i := 873) (by decide +kernel) (by decide +kernel)
  | 20, _ => exact big_t (i := 875) (by decide +kernel) (by decide +kernel)
  | 21, _ => exact big_t (i := 877) (by decide +kernel) (by decide +kernel)
  | 22, _ => exact big_t (i := 879) (by decide +kernel) (by decide +kernel)
  | 23, _ => exact big_t (i := 881) (by decide +kernel) (by decide +kernel)
  | 24, _ => exact big_t (i := 883) (by decide +kernel) (by decide +kernel)
  | 25, _ => exact big_t (i := 885) (by decide +kernel) (by decide +kernel)
  | 26, _ => exact big_t (i := 887) (by decide +kernel) (by decide +kernel)
  | 27, _ => exact big_t (i := 889) (by decide +kernel) (by decide +kernel)
  | 28, _ => exact big_t (i := 891) (by decide +kernel) (by decide +kernel)
  | 29, _ => exact big_t (i := 893) (by decide +kernel) (by decide +kernel)
  | 30, _ => exact big_t (i := 895) (by decide +kernel) (by decide +kernel)
  | 31, _ => exact big_t (i := 897) (by decide +kernel) (by decide +kernel)
  | 32, _ => exact big_t (i := 899) (by decide +kernel) (by decide +kernel)
  | 33, _ => exact big_t (i := 901) (by decide +kernel) (by decide +kernel)
  | 34, _ => exact big_t (i := 903) (by decide +kernel) (by decide +kernel)
  | 35, _ => exact big_t (i := 905) (by decide +kernel) (by decide +kernel)
  | 36, _ => exact big_t (i := 907) (by decide +kernel) (by decide +kernel)
  | 37, _ => exact big_t (i := 909) (by decide +kernel) (by decide +kernel)
  | 38, _ => exact big_t (i := 911) (by decide +kernel) (by decide +kernel)
  | _ + 39, h => exact absurd h (by omega)
def FL (own : String) (idx ci k : Nat) : Prop := ∃ (C : String) (T : u_T) (N : Nat), clsL[ci]? = some (C, T, N) ∧ k < N ∧ Cond.fieldLink own idx (T k).1 (T k).2.1 (T k).2.2.1 ∈ BIG
theorem fl_X0_9 : FL RX0 9 0 0 := ⟨RX0, TX0, 8, rfl, by decide, big_t (i := 43) (by decide +kernel) (by decide +kernel)⟩
theorem fl_X3_15 : FL RX3 15 0 0 := ⟨RX0, TX0, 8, rfl, by decide, big_t (i := 44) (by decide +kernel) (by decide +kernel)⟩
theorem fl_X1_39 : FL RX1 39 0 0 := ⟨RX0, TX0, 8, rfl, by decide, big_t (i := 45) (by decide +kernel) (by decide +kernel)⟩
theorem fl_X5_45 : FL RX5 45 0 0 := ⟨RX0, TX0, 8, rfl, by decide, big_t (i := 46) (by decide +kernel) (by decide +kernel)⟩
theorem fl_X7_26 : FL RX7 26 0 0 := ⟨RX0, TX0, 8, rfl, by decide, big_t (i := 47) (by decide +kernel) (by decide +kernel)⟩
theorem fl_X8_99 : FL RX8 99 0 0 := ⟨RX0, TX0, 8, rfl, by decide, big_t (i := 48) (by decide +kernel) (by decide +kernel)⟩
theorem fl_X4_125 : FL RX4 125 0 0 := ⟨RX0, TX0, 8, rfl, by decide, big_t (i := 49) (by decide +kernel) (by decide +kernel)⟩
theorem fl_X0_15 : FL RX0 15 0 1 := ⟨RX0, TX0, 8, rfl, by decide, big_t (i := 50) (by decide +kernel) (by decide +kernel)⟩
theorem fl_X1_72 : FL RX1 72 0 1 := ⟨RX0, TX0, 8, rfl, by decide, big_t (i := 51) (by decide +kernel) (by decide +kernel)⟩
theorem fl_X5_61 : FL RX5 61 0 1 := ⟨RX0, TX0, 8, rfl, by decide, big_t (i := 52) (by decide +kernel) (by decide +kernel)⟩
theorem fl_X8_104 : FL RX8 104 0 1 := ⟨RX0, TX0, 8, rfl, by decide, big_t (i := 53) (by decide +kernel) (by decide +kernel)⟩
theorem fl_X0_18 : FL RX0 18 0 2 := ⟨RX0, TX0, 8, rfl, by decide, big_t (i := 54) (by decide +kernel) (by decide +kernel)⟩
theorem fl_X1_62 : FL RX1 62 0 2 := ⟨RX0, TX0, 8, rfl, by decide, big_t (i := 55) (by decide +kernel) (by decide +kernel)⟩
theorem fl_X5_51 : FL RX5 51 0 2 := ⟨RX0, TX0, 8, rfl, by decide, big_t (i := 56) (by decide +kernel) (by decide +kernel)⟩
theorem fl_X4_100 : FL RX4 100 0 2 := ⟨RX0, TX0, 8, rfl, by decide, big_t (i := 57) (by decide +kernel) (by decide +kernel)⟩
theorem fl_X8_107 : FL RX8 107 0 2 := ⟨RX0, TX0, 8, rfl, by decide, big_t (i := 58) (by decide +kernel) (by decide +kernel)⟩
theorem fl_X0_21 : FL RX0 21 0 3 := ⟨RX0, TX0, 8, rfl, by decide, big_t (i := 59) (by decide +kernel) (by decide +kernel)⟩
theorem fl_X5_64 : FL RX5 64 0 3 := ⟨RX0, TX0, 8, rfl, by decide, big_t (i := 60) (by decide +kernel) (by decide +kernel)⟩
theorem fl_X7_39 : FL RX7 39 0 3 := ⟨RX0, TX0, 8, rfl, by decide, big_t (i := 61) (by decide +kernel) (by decide +kernel)⟩
theorem fl_X8_110 : FL RX8 110 0 3 := ⟨RX0, TX0, 8, rfl, by decide, big_t (i := 62) (by decide +kernel) (by decide +kernel)⟩
theorem fl_X4_161 : FL RX4 161 0 3 := ⟨RX0, TX0, 8, rfl, by decide, big_t (i := 63) (by decide +kernel) (by decide +kernel)⟩
theorem fl_X0_24 : FL RX0 24 0 4 := ⟨RX0, TX0, 8, rfl, by decide, big_t (i := 64) (by decide +kernel) (by decide +kernel)⟩
theorem fl_X3_25 : FL RX3 25 0 4 := ⟨RX0, TX0, 8, rfl, by decide, big_t (i := 65) (by decide +kernel) (by decide +kernel)⟩
theorem fl_X7_29 : FL RX7 29 0 4 := ⟨RX0, TX0, 8, rfl, by decide, big_t (i := 66) (by decide +kernel) (by decide +kernel)⟩
theorem fl_X5_58 : FL RX5 58 0 4 := ⟨RX0, TX0, 8, rfl, by decide, big_t (i := 67) (by decide +kernel) (by decide +kernel)⟩
theorem fl_X1_85 : FL RX1 85 0 4 := ⟨RX0, TX0, 8, rfl, by decide, big_t (i := 68) (by decide +kernel) (by decide +kernel)⟩
theorem fl_X8_113 : FL RX8 113 0 4 := ⟨RX0, TX0, 8, rfl, by decide, big_t (i := 69) (by decide +kernel) (by decide +kernel)⟩
theorem fl_X4_128 : FL RX4 128 0 4 := ⟨RX0, TX0, 8, rfl, by decide, big_t (i := 70) (by decide +kernel) (by decide +kernel)⟩
theorem fl_X0_27 : FL RX0 27 0 5 := ⟨RX0, TX0, 8, rfl, by decide, big_t (i := 71) (by decide +kernel) (by decide +kernel)⟩
theorem fl_X4_52 : FL RX4 52 0 5 := ⟨RX0, TX0, 8, rfl, by decide, big_t (i := 72) (by decide +kernel) (by decide +kernel)⟩
theorem fl_X7_36 : FL RX7 36 0 5 := ⟨RX0, TX0, 8, rfl, by decide, big_t (i := 73) (by decide +kernel) (by decide +kernel)⟩
theorem fl_X8_116 : FL RX8 116 0 5 := ⟨RX0, TX0, 8, rfl, by decide, big_t (i := 74) (by decide +kernel) (by decide +kernel)⟩
theorem fl_X5_81 : FL RX5 81 0 5 := ⟨RX0, TX0, 8, rfl, by decide, big_t (i := 75) (by decide +kernel) (by decide +kernel)⟩
theorem fl_X1_113 : FL RX1 113 0 5 := ⟨RX0, TX0, 8, rfl, by decide, big_t (i := 76) (by decide +kernel) (by decide +kernel)⟩
theorem fl_X0_30 : FL RX0 30 0 6 := ⟨RX0, TX0, 8, rfl, by decide, big_t (i := 77) (by decide +kernel) (by decide +kernel)⟩
theorem fl_X5_28 : FL RX5 28 0 6 := ⟨RX0, TX0, 8, rfl, by decide, big_t (i := 78) (by decide +kernel) (by decide +kernel)⟩
theorem fl_X1_69 : FL RX1 69 0 6 := ⟨RX0, TX0, 8, rfl, by decide, big_t (i := 79) (by decide +kernel) (by decide +kernel)⟩
theorem fl_X7_42 : FL RX7 42 0 6 := ⟨RX0, TX0, 8, rfl, by decide, big_t (i := 80) (by decide +kernel) (by decide +kernel)⟩
theorem fl_X8_119 : FL RX8 119 0 6 := ⟨RX0, TX0, 8, rfl, by decide, big_t (i := 81) (by decide +kernel) (by decide +kernel)⟩
theorem fl_X4_137 : FL RX4 137 0 6 := ⟨RX0, TX0, 8, rfl, by decide, big_t (i := 82) (by decide +kernel) (by decide +kernel)⟩
theorem fl_X0_33 : FL RX0 33 0 7 := ⟨RX0, TX0, 8, rfl, by decide, big_t (i := 83) (by decide +kernel) (by decide +kernel)⟩
theorem fl_X7_11 : FL RX7 11 6 0 := ⟨RX7, TX7, 2, rfl, by decide, big_t (i := 104) (by decide +kernel) (by decide +kernel)⟩
theorem fl_X7_17 : FL RX7 17 6 1 := ⟨RX7, TX7, 2, rfl, by decide, big_t (i := 105) (by decide +kernel) (by decide +kernel)⟩
theorem fl_X1_29 : FL RX1 29 6 1 := ⟨RX7, TX7, 2, rfl, by decide, big_t (i := 106) (by decide +kernel) (by decide +kernel)⟩
theorem fl_X5_19 : FL RX5 19 6 1 := ⟨RX7, TX7, 2, rfl, by decide, big_t (i := 107) (by decide +kernel) (by decide +kernel)⟩
theorem fl_X8_82 : FL RX8 82 6 1 := ⟨RX7, TX7, 2, rfl, by decide, big_t (i := 108) (by decide +kernel) (by decide +kernel)⟩
theorem fl_X4_134 : FL RX4 134 6 1 := ⟨RX7, TX7, 2, rfl, by decide, big_t (i := 109) (by decide +kernel) (by decide +kernel)⟩
theorem fl_X4_12 : FL RX4 12 3 0 := ⟨RX4, TX4, 8, rfl, by decide, big_t (i := 125) (by decide +kernel) (by decide +kernel)⟩
theorem fl_X4_18 : FL RX4 18 3 1 := ⟨RX4, TX4, 8, rfl, by decide, big_t (i := 126) (by decide +kernel) (by decide +kernel)⟩
theorem fl_X4_22 : FL RX4 22 3 2 := ⟨RX4, TX4, 8, rfl, by decide, big_t (i := 127) (by decide +kernel) (by decide +kernel)⟩
theorem fl_X4_25 : FL RX4 25 3 3 := ⟨RX4, TX4, 8, rfl, by decide, big_t (i := 128) (by decide +kernel) (by decide +kernel)⟩
theorem fl_X4_31 : FL RX4 31 3 4 := ⟨RX4, TX4, 8, rfl, by decide, big_t (i := 129) (by decide +kernel) (by decide +kernel)⟩
theorem fl_X4_35 : FL RX4 35 3 5 := ⟨RX4, TX4, 8, rfl, by decide, big_t (i := 130) (by decide +kernel) (by decide +kernel)⟩
theorem fl_X4_38 : FL RX4 38 3 6 := ⟨RX4, TX4, 8, rfl, by decide, big_t (i := 131) (by decide +kernel) (by decide +kernel)⟩
theorem fl_X4_41 : FL RX4 41 3 7 := ⟨RX4, TX4, 8, rfl, by decide, big_t (i := 132) (by decide +kernel) (by decide +kernel)⟩
theorem fl_X5_9 : FL RX5 9 4 0 := ⟨RX5, TX5, 2, rfl, by decide, big_t (i := 156) (by decide +kernel) (by decide +kernel)⟩
theorem fl_X5_15 : FL RX5 15 4 1 := ⟨RX5, TX5, 2, rfl, by decide, big_t (i := 157) (by decide +kernel) (by decide +kernel)⟩
theorem fl_X6_9 : FL RX6 9 5 0 := ⟨RX6, TX6, 2, rfl, by decide, big_t (i := 175) (by decide +kernel) (by decide +kernel)⟩
theorem fl_X6_15 : FL RX6 15 5 1 := ⟨RX6, TX6, 2, rfl, by decide, big_t (i := 176) (by decide +kernel) (by decide +kernel)⟩
theorem fl_X3_9 : FL RX3 9 2 0 := ⟨RX3, TX3, 1, rfl, by decide, big_t (i := 188) (by decide +kernel) (by decide +kernel)⟩
theorem fl_X1_12 : FL RX1 12 1 0 := ⟨RX1, TX1, 3, rfl, by decide, big_t (i := 192) (by decide +kernel) (by decide +kernel)⟩
theorem fl_X8_167 : FL RX8 167 1 0 := ⟨RX1, TX1, 3, rfl, by decide, big_t (i := 193) (by decide +kernel) (by decide +kernel)⟩
theorem fl_X1_21 : FL RX1 21 1 1 := ⟨RX1, TX1, 3, rfl, by decide, big_t (i := 194) (by decide +kernel) (by decide +kernel)⟩
theorem fl_X1_25 : FL RX1 25 1 2 := ⟨RX1, TX1, 3, rfl, by decide, big_t (i := 195) (by decide +kernel) (by decide +kernel)⟩
theorem fl_X8_9 : FL RX8 9 7 0 := ⟨RX8, TX8, 10, rfl, by decide, big_t (i := 203) (by decide +kernel) (by decide +kernel)⟩
theorem fl_X8_13 : FL RX8 13 7 1 := ⟨RX8, TX8, 10, rfl, by decide, big_t (i := 204) (by decide +kernel) (by decide +kernel)⟩
theorem fl_X8_17 : FL RX8 17 7 2 := ⟨RX8, TX8, 10, rfl, by decide, big_t (i := 205) (by decide +kernel) (by decide +kernel)⟩
theorem fl_X8_21 : FL RX8 21 7 3 := ⟨RX8, TX8, 10, rfl, by decide, big_t (i := 206) (by decide +kernel) (by decide +kernel)⟩
theorem fl_X8_24 : FL RX8 24 7 4 := ⟨RX8, TX8, 10, rfl, by decide, big_t (i := 207) (by decide +kernel) (by decide +kernel)⟩
theorem fl_X8_30 : FL RX8 30 7 5 := ⟨RX8, TX8, 10, rfl, by decide, big_t (i := 208) (by decide +kernel) (by decide +kernel)⟩
theorem fl_X8_37 : FL RX8 37 7 6 := ⟨RX8, TX8, 10, rfl, by decide, big_t (i := 209) (by decide +kernel) (by decide +kernel)⟩
theorem fl_X8_44 : FL RX8 44 7 7 := ⟨RX8, TX8, 10, rfl, by decide, big_t (i := 210) (by decide +kernel) (by decide +kernel)⟩
theorem fl_X8_51 : FL RX8 51 7 8 := ⟨RX8, TX8, 10, rfl, by decide, big_t (i := 211) (by decide +kernel) (by decide +kernel)⟩
theorem fl_X8_55 : FL RX8 55 7 9 := ⟨RX8, TX8, 10, rfl, by decide, big_t (i := 212) (by decide +kernel) (by decide +kernel)⟩
theorem fl_X9_1 : FL RX9 1 8 0 := ⟨RX9, TX9, 39, rfl, by decide, big_t (i := 796) (by decide +kernel) (by decide +kernel)⟩
theorem fl_X9_13 : FL RX9 13 8 1 := ⟨RX9, TX9, 39, rfl, by decide, big_t (i := 797) (by decide +kernel) (by decide +kernel)⟩
theorem fl_X9_121 : FL RX9 121 8 2 := ⟨RX9, TX9, 39, rfl, by decide, big_t (i := 798) (by decide +kernel) (by decide +kernel)⟩
theorem fl_X9_131 : FL RX9 131 8 3 := ⟨RX9, TX9, 39, rfl, by decide, big_t (i := 799) (by decide +kernel) (by decide +kernel)⟩
theorem fl_X9_17 : FL RX9 17 8 4 := ⟨RX9, TX9, 39, rfl, by decide, big_t (i := 800) (by decide +kernel) (by decide +kernel)⟩
theorem fl_X9_20 : FL RX9 20 8 5 := ⟨RX9, TX9, 39, rfl, by decide, big_t (i := 801) (by decide +kernel) (by decide +kernel)⟩
theorem fl_X9_23 : FL RX9 23 8 6 := ⟨RX9, TX9, 39, rfl, by decide, big_t (i := 802) (by decide +kernel) (by decide +kernel)⟩
theorem fl_X9_26 : FL RX9 26 8 7 := ⟨RX9, TX9, 39, rfl, by decide, big_t (i := 803) (by decide +kernel) (by decide +kernel)⟩
theorem fl_X9_29 : FL RX9 29 8 8 := ⟨RX9, TX9, 39, rfl, by decide, big_t (i := 804) (by decide +kernel) (by decide +kernel)⟩
theorem fl_X9_32 : FL RX9 32 8 9 := ⟨RX9, TX9, 39, rfl, by decide, big_t (i := 805) (by decide +kernel) (by decide +kernel)⟩
theorem fl_X9_35 : FL RX9 35 8 10 := ⟨RX9, TX9, 39, rfl, by decide, big_t (i := 806) (by decide +kernel) (by decide +kernel)⟩
theorem fl_X9_38 : FL RX9 38 8 11 := ⟨RX9, TX9, 39, rfl, by decide, big_t (i := 807) (by decide +kernel) (by decide +kernel)⟩
theorem fl_X9_41 : FL RX9 41 8 12 := ⟨RX9, TX9, 39, rfl, by decide, big_t (i := 808) (by decide +kernel) (by decide +kernel)⟩
theorem fl_X9_112 : FL RX9 112 8 13 := ⟨RX9, TX9, 39, rfl, by decide, big_t (i := 809) (by decide +kernel) (by decide +kernel)⟩
theorem fl_X9_44 : FL RX9 44 8 14 := ⟨RX9, TX9, 39, rfl, by decide, big_t (i := 810) (by decide +kernel) (by decide +kernel)⟩
theorem fl_X9_47 : FL RX9 47 8 15 := ⟨RX9, TX9, 39, rfl, by decide, big_t (i := 811) (by decide +kernel) (by decide +kernel)⟩
theorem fl_X9_50 : FL RX9 50 8 16 := ⟨RX9, TX9, 39, rfl, by decide, big_t (i := 812) (by decide +kernel) (by decide +kernel)⟩
theorem fl_X9_53 : FL RX9 53 8 17 := ⟨RX9, TX9, 39, rfl, by decide, big_t (i := 813) (by decide +kernel) (by decide +kernel)⟩
theorem fl_X9_56 : FL RX9 56 8 18 := ⟨RX9, TX9, 39, rfl, by decide, big_t (i := 814) (by decide +kernel) (by decide +kernel)⟩
theorem fl_X9_59 : FL RX9 59 8 19 := ⟨RX9, TX9, 39, rfl, by decide, big_t (i := 815) (by decide +kernel) (by decide +kernel)⟩
theorem fl_X9_62 : FL RX9 62 8 20 := ⟨RX9, TX9, 39, rfl, by decide, big_t (i := 816) (by decide +kernel) (by decide +kernel)⟩
theorem fl_X9_65 : FL RX9 65 8 21 := ⟨RX9, TX9, 39, rfl, by decide, big_t (i := 817) (by decide +kernel) (by decide +kernel)⟩
theorem fl_X9_68 : FL RX9 68 8 22 := ⟨RX9, TX9, 39, rfl, by decide, big_t (i := 818) (by decide +kernel) (by decide +kernel)⟩
theorem fl_X9_124 : FL RX9 124 8 23 := ⟨RX9, TX9, 39, rfl, by decide, big_t (i := 819) (by decide +kernel) (by decide +kernel)⟩
theorem fl_X9_127 : FL RX9 127 8 24 := ⟨RX9, TX9, 39, rfl, by decide, big_t (i := 820) (by decide +kernel) (by decide +kernel)⟩
theorem fl_X9_71 : FL RX9 71 8 25 := ⟨RX9, TX9, 39, rfl, by decide, big_t (i := 821) (by decide +kernel) (by decide +kernel)⟩
theorem fl_X9_74 : FL RX9 74 8 26 := ⟨RX9, TX9, 39, rfl, by decide, big_t (i := 822) (by decide +kernel) (by decide +kernel)⟩
theorem fl_X9_190 : FL RX9 190 8 27 := ⟨RX9, TX9, 39, rfl, by decide, big_t (i := 823) (by decide +kernel) (by decide +kernel)⟩
theorem fl_X9_77 : FL RX9 77 8 28 := ⟨RX9, TX9, 39, rfl, by decide, big_t (i := 824) (by decide +kernel) (by decide +kernel)⟩
theorem fl_X9_80 : FL RX9 80 8 29 := ⟨RX9, TX9, 39, rfl, by decide, big_t (i := 825) (by decide +kernel) (by decide +kernel)⟩
theorem fl_X9_83 : FL RX9 83 8 30 := ⟨RX9, TX9, 39, rfl, by decide, big_t (i := 826) (by decide +kernel) (by decide +kernel)⟩
theorem fl_X9_86 : FL RX9 86 8 31 := ⟨RX9, TX9, 39, rfl, by decide, big_t (i := 827) (by decide +kernel) (by decide +kernel)⟩
theorem fl_X9_89 : FL RX9 89 8 32 := ⟨RX9, TX9, 39, rfl, by decide, big_t (i := 828) (by decide +kernel) (by decide +kernel)⟩
theorem fl_X9_92 : FL RX9 92 8 33 := ⟨RX9, TX9, 39, rfl, by decide, big_t (i := 829) (by decide +kernel) (by decide +kernel)⟩
theorem fl_X9_95 : FL RX9 95 8 34 := ⟨RX9, TX9, 39, rfl, by decide, big_t (i := 830) (by decide +kernel) (by decide +kernel)⟩
theorem fl_X9_99 : FL RX9 99 8 35 := ⟨RX9, TX9, 39, rfl, by decide, big_t (i := 831) (by decide +kernel) (by decide +kernel)⟩
theorem fl_X9_103 : FL RX9 103 8 36 := ⟨RX9, TX9, 39, rfl, by decide, big_t (i := 832) (by decide +kernel) (by decide +kernel)⟩
theorem fl_X9_106 : FL RX9 106 8 37 := ⟨RX9, TX9, 39, rfl, by decide, big_t (i := 833) (by decide +kernel) (by decide +kernel)⟩
theorem fl_X9_109 : FL RX9 109 8 38 := ⟨RX9, TX9, 39, rfl, by decide, big_t (i := 834) (by decide +kernel) (by decide +kernel)⟩
abbrev MM : Type := MethodName × String × ByteArray × Nat × Option FieldType
def okName (y : MethodName) (n : Nat) : Prop := y.cls ≠ "java/lang/invoke/MethodHandle" ∧ y.cls ≠ "java/lang/invoke/VarHandle" ∧ (parseMethodDescriptor y.desc).map (fun d => d.parameters.length) = some n
def cdW (m : MM) : Cond := .code m.1 m.2.2.1 m.2.2.2.1 m.2.2.2.2
def MC (m : MM) (n : Nat) : Prop := cdW m ∈ BIG ∧ Cond.initialized m.1.cls ∈ BIG ∧ okName m.1 n ∧ plainFor m.1 = true
def MV (m : MM) (n : Nat) : Prop := MC m n ∧ Cond.instanceMethod m.1 ∈ BIG ∧ Cond.selects m.1.cls m.1 m.1 ∈ BIG
def MS (m : MM) (n : Nat) : Prop := MC m n ∧ Cond.static m.1 ∈ BIG
def MI (m : MM) (n : Nat) : Prop := MC m n ∧ Cond.instanceMethod m.1 ∈ BIG ∧ m.1.name = "<init>" ∧ m.2.2.2.2 = none
abbrev mX0_init : MM := (yX0_init, RX0, cX0_init, 1, none)
theorem iX0_init : MI mX0_init 0 := ⟨⟨big_t (i := 41) (by decide +kernel) (by decide +kernel), big_t (i := 3) (by decide +kernel) (by decide +kernel), ⟨by decide +kernel, by decide +kernel, by decide +kernel⟩, by decide +kernel⟩, big_t (i := 40) (by decide +kernel) (by decide +kernel), by decide +kernel, rfl⟩
abbrev mX0_start : MM := (yX0_start, RX0, cX0_start, 3, none)
theorem vX0_start : MV mX0_start 2 := ⟨⟨big_t (i := 253) (by decide +kernel) (by decide +kernel), big_t (i := 3) (by decide +kernel) (by decide +kernel), ⟨by decide +kernel, by decide +kernel, by decide +kernel⟩, by decide +kernel⟩, big_t (i := 251) (by decide +kernel) (by decide +kernel), big_t (i := 252) (by decide +kernel) (by decide +kernel)⟩
abbrev mX0_addSign : MM := (yX0_addSign, RX0, cX0_addSign, 4, none)
theorem vX0_addSign : MV mX0_addSign 3 := ⟨⟨big_t (i := 316) (by decide +kernel) (by decide +kernel), big_t (i := 3) (by decide +kernel) (by decide +kernel), ⟨by decide +kernel, by decide +kernel, by decide +kernel⟩, by decide +kernel⟩, big_t (i := 314) (by decide +kernel) (by decide +kernel), big_t (i := 315) (by decide +kernel) (by decide +kernel)⟩
abbrev mX0_wordAt : MM := (yX0_wordAt, RX0, cX0_wordAt, 2, (some .long))
theorem vX0_wordAt : MV mX0_wordAt 1 := ⟨⟨big_t (i := 328) (by decide +kernel) (by decide +kernel), big_t (i := 3) (by decide +kernel) (by decide +kernel), ⟨by decide +kernel, by decide +kernel, by decide +kernel⟩, by decide +kernel⟩, big_t (i := 326) (by decide +kernel) (by decide +kernel), big_t (i := 327) (by decide +kernel) (by decide +kernel)⟩
abbrev mX0_turnToField : MM := (yX0_turnToField, RX0, cX0_turnToField, 1, none)
theorem vX0_turnToField : MV mX0_turnToField 0 := ⟨⟨big_t (i := 339) (by decide +kernel) (by decide +kernel), big_t (i := 3) (by decide +kernel) (by decide +kernel), ⟨by decide +kernel, by decide +kernel, by decide +kernel⟩, by decide +kernel⟩, big_t (i := 337) (by decide +kernel) (by decide +kernel), big_t (i := 338) (by decide +kernel) (by decide +kernel)⟩
abbrev mX1_init : MM := (yX1_init, RX1, cX1_init, 1, none)
theorem iX1_init : MI mX1_init 0 := ⟨⟨big_t (i := 167) (by decide +kernel) (by decide +kernel), big_t (i := 6) (by decide +kernel) (by decide +kernel), ⟨by decide +kernel, by decide +kernel, by decide +kernel⟩, by decide +kernel⟩, big_t (i := 166) (by decide +kernel) (by decide +kernel), by decide +kernel, rfl⟩
abbrev mX1_weigh : MM := (yX1_weigh, RX1, cX1_weigh, 8, (some .long))
theorem vX1_weigh : MV mX1_weigh 3 := ⟨⟨big_t (i := 491) (by decide +kernel) (by decide +kernel), big_t (i := 6) (by decide +kernel) (by decide +kernel), ⟨by decide +kernel, by decide +kernel, by decide +kernel⟩, by decide +kernel⟩, big_t (i := 489) (by decide +kernel) (by decide +kernel), big_t (i := 490) (by decide +kernel) (by decide +kernel)⟩
abbrev mX1_setValue : MM := (yX1_setValue, RX1, cX1_setValue, 4, none)
theorem vX1_setValue : MV mX1_setValue 2 := ⟨⟨big_t (i := 511) (by decide +kernel) (by decide +kernel), big_t (i := 6) (by decide +kernel) (by decide +kernel), ⟨by decide +kernel, by decide +kernel, by decide +kernel⟩, by decide +kernel⟩, big_t (i := 510) (by decide +kernel) (by decide +kernel), big_s (i := 31) (by decide +kernel) (by decide +kernel)⟩
abbrev mX1_valueAt : MM := (yX1_valueAt, RX1, cX1_valueAt, 2, (some .long))
theorem vX1_valueAt : MV mX1_valueAt 1 := ⟨⟨big_t (i := 500) (by decide +kernel) (by decide +kernel), big_t (i := 6) (by decide +kernel) (by decide +kernel), ⟨by decide +kernel, by decide +kernel, by decide +kernel⟩, by decide +kernel⟩, big_t (i := 499) (by decide +kernel) (by decide +kernel), big_s (i := 30) (by decide +kernel) (by decide +kernel)⟩
abbrev mX1_groupValue : MM := (yX1_groupValue, RX1, cX1_groupValue, 12, (some .long))
theorem vX1_groupValue : MV mX1_groupValue 2 := ⟨⟨big_t (i := 496) (by decide +kernel) (by decide +kernel), big_t (i := 6) (by decide +kernel) (by decide +kernel), ⟨by decide +kernel, by decide +kernel, by decide +kernel⟩, by decide +kernel⟩, big_t (i := 495) (by decide +kernel) (by decide +kernel), big_s (i := 29) (by decide +kernel) (by decide +kernel)⟩
abbrev mX1_isFault : MM := (yX1_isFault, RX1, cX1_isFault, 3, (some .boolean))
theorem sX1_isFault : MS mX1_isFault 2 := ⟨⟨big_t (i := 504) (by decide +kernel) (by decide +kernel), big_t (i := 6) (by decide +kernel) (by decide +kernel), ⟨by decide +kernel, by decide +kernel, by decide +kernel⟩, by decide +kernel⟩, big_t (i := 503) (by decide +kernel) (by decide +kernel)⟩
abbrev mX1_firstFault : MM := (yX1_firstFault, RX1, cX1_firstFault, 5, (some .int))
theorem vX1_firstFault : MV mX1_firstFault 2 := ⟨⟨big_t (i := 577) (by decide +kernel) (by decide +kernel), big_t (i := 6) (by decide +kernel) (by decide +kernel), ⟨by decide +kernel, by decide +kernel, by decide +kernel⟩, by decide +kernel⟩, big_t (i := 575) (by decide +kernel) (by decide +kernel), big_t (i := 576) (by decide +kernel) (by decide +kernel)⟩
abbrev mX1_countFits : MM := (yX1_countFits, RX1, cX1_countFits, 7, (some .long))
theorem vX1_countFits : MV mX1_countFits 3 := ⟨⟨big_t (i := 520) (by decide +kernel) (by decide +kernel), big_t (i := 6) (by decide +kernel) (by decide +kernel), ⟨by decide +kernel, by decide +kernel, by decide +kernel⟩, by decide +kernel⟩, big_t (i := 519) (by decide +kernel) (by decide +kernel), big_s (i := 32) (by decide +kernel) (by decide +kernel)⟩
abbrev mX1_countWords : MM := (yX1_countWords, RX1, cX1_countWords, 7, (some .int))
theorem vX1_countWords : MV mX1_countWords 3 := ⟨⟨big_t (i := 541) (by decide +kernel) (by decide +kernel), big_t (i := 6) (by decide +kernel) (by decide +kernel), ⟨by decide +kernel, by decide +kernel, by decide +kernel⟩, by decide +kernel⟩, big_t (i := 540) (by decide +kernel) (by decide +kernel), big_s (i := 35) (by decide +kernel) (by decide +kernel)⟩
abbrev mX1_countQuotes : MM := (yX1_countQuotes, RX1, cX1_countQuotes, 7, (some .int))
theorem vX1_countQuotes : MV mX1_countQuotes 3 := ⟨⟨big_t (i := 524) (by decide +kernel) (by decide +kernel), big_t (i := 6) (by decide +kernel) (by decide +kernel), ⟨by decide +kernel, by decide +kernel, by decide +kernel⟩, by decide +kernel⟩, big_t (i := 523) (by decide +kernel) (by decide +kernel), big_s (i := 33) (by decide +kernel) (by decide +kernel)⟩
abbrev mX1_quoteStands : MM := (yX1_quoteStands, RX1, cX1_quoteStands, 8, (some .boolean))
theorem vX1_quoteStands : MV mX1_quoteStands 4 := ⟨⟨big_t (i := 534) (by decide +kernel) (by decide +kernel), big_t (i := 6) (by decide +kernel) (by decide +kernel), ⟨by decide +kernel, by decide +kernel, by decide +kernel⟩, by decide +kernel⟩, big_t (i := 533) (by decide +kernel) (by decide +kernel), big_s (i := 34) (by decide +kernel) (by decide +kernel)⟩
abbrev mX2_isLetter : MM := (yX2_isLetter, RX2, cX2_isLetter, 1, (some .boolean))
theorem sX2_isLetter : MS mX2_isLetter 1 := ⟨⟨big_t (i := 290) (by decide +kernel) (by decide +kernel), big_t (i := 11) (by decide +kernel) (by decide +kernel), ⟨by decide +kernel, by decide +kernel, by decide +kernel⟩, by decide +kernel⟩, big_t (i := 289) (by decide +kernel) (by decide +kernel)⟩
abbrev mX2_isSign : MM := (yX2_isSign, RX2, cX2_isSign, 1, (some .boolean))
theorem sX2_isSign : MS mX2_isSign 1 := ⟨⟨big_t (i := 287) (by decide +kernel) (by decide +kernel), big_t (i := 11) (by decide +kernel) (by decide +kernel), ⟨by decide +kernel, by decide +kernel, by decide +kernel⟩, by decide +kernel⟩, big_t (i := 286) (by decide +kernel) (by decide +kernel)⟩
abbrev mX2_signAt : MM := (yX2_signAt, RX2, cX2_signAt, 3, (some .int))
theorem sX2_signAt : MS mX2_signAt 2 := ⟨⟨big_t (i := 331) (by decide +kernel) (by decide +kernel), big_t (i := 11) (by decide +kernel) (by decide +kernel), ⟨by decide +kernel, by decide +kernel, by decide +kernel⟩, by decide +kernel⟩, big_t (i := 330) (by decide +kernel) (by decide +kernel)⟩
abbrev mX2_isPlain : MM := (yX2_isPlain, RX2, cX2_isPlain, 5, (some .boolean))
theorem sX2_isPlain : MS mX2_isPlain 1 := ⟨⟨big_t (i := 460) (by decide +kernel) (by decide +kernel), big_t (i := 11) (by decide +kernel) (by decide +kernel), ⟨by decide +kernel, by decide +kernel, by decide +kernel⟩, by decide +kernel⟩, big_t (i := 459) (by decide +kernel) (by decide +kernel)⟩
abbrev mX2_moveAhead : MM := (yX2_moveAhead, RX2, cX2_moveAhead, 5, (some .long))
theorem sX2_moveAhead : MS mX2_moveAhead 1 := ⟨⟨big_t (i := 463) (by decide +kernel) (by decide +kernel), big_t (i := 11) (by decide +kernel) (by decide +kernel), ⟨by decide +kernel, by decide +kernel, by decide +kernel⟩, by decide +kernel⟩, big_t (i := 462) (by decide +kernel) (by decide +kernel)⟩
abbrev mX2_lengthOf : MM := (yX2_lengthOf, RX2, cX2_lengthOf, 3, (some .int))
theorem sX2_lengthOf : MS mX2_lengthOf 1 := ⟨⟨big_t (i := 444) (by decide +kernel) (by decide +kernel), big_t (i := 11) (by decide +kernel) (by decide +kernel), ⟨by decide +kernel, by decide +kernel, by decide +kernel⟩, by decide +kernel⟩, big_t (i := 443) (by decide +kernel) (by decide +kernel)⟩
abbrev mX3_init : MM := (yX3_init, RX3, cX3_init, 1, none)
theorem iX3_init : MI mX3_init 0 := ⟨⟨big_t (i := 186) (by decide +kernel) (by decide +kernel), big_t (i := 8) (by decide +kernel) (by decide +kernel), ⟨by decide +kernel, by decide +kernel, by decide +kernel⟩, by decide +kernel⟩, big_t (i := 185) (by decide +kernel) (by decide +kernel), by decide +kernel, rfl⟩
abbrev mX3_isFor : MM := (yX3_isFor, RX3, cX3_isFor, 4, (some .boolean))
theorem vX3_isFor : MV mX3_isFor 2 := ⟨⟨big_t (i := 545) (by decide +kernel) (by decide +kernel), big_t (i := 8) (by decide +kernel) (by decide +kernel), ⟨by decide +kernel, by decide +kernel, by decide +kernel⟩, by decide +kernel⟩, big_t (i := 543) (by decide +kernel) (by decide +kernel), big_t (i := 544) (by decide +kernel) (by decide +kernel)⟩
abbrev mX3_isWithin : MM := (yX3_isWithin, RX3, cX3_isWithin, 7, (some .boolean))
theorem sX3_isWithin : MS mX3_isWithin 2 := ⟨⟨big_t (i := 548) (by decide +kernel) (by decide +kernel), big_t (i := 8) (by decide +kernel) (by decide +kernel), ⟨by decide +kernel, by decide +kernel, by decide +kernel⟩, by decide +kernel⟩, big_t (i := 547) (by decide +kernel) (by decide +kernel)⟩
abbrev mX3_changes : MM := (yX3_changes, RX3, cX3_changes, 12, (some .int))
theorem vX3_changes : MV mX3_changes 2 := ⟨⟨big_t (i := 553) (by decide +kernel) (by decide +kernel), big_t (i := 8) (by decide +kernel) (by decide +kernel), ⟨by decide +kernel, by decide +kernel, by decide +kernel⟩, by decide +kernel⟩, big_t (i := 552) (by decide +kernel) (by decide +kernel), big_s (i := 36) (by decide +kernel) (by decide +kernel)⟩
abbrev mX3_hasSigns : MM := (yX3_hasSigns, RX3, cX3_hasSigns, 10, (some .boolean))
theorem sX3_hasSigns : MS mX3_hasSigns 2 := ⟨⟨big_t (i := 559) (by decide +kernel) (by decide +kernel), big_t (i := 8) (by decide +kernel) (by decide +kernel), ⟨by decide +kernel, by decide +kernel, by decide +kernel⟩, by decide +kernel⟩, big_t (i := 558) (by decide +kernel) (by decide +kernel)⟩
abbrev mX3_placesOf : MM := (yX3_placesOf, RX3, cX3_placesOf, 6, (some .int))
theorem sX3_placesOf : MS mX3_placesOf 3 := ⟨⟨big_t (i := 562) (by decide +kernel) (by decide +kernel), big_t (i := 8) (by decide +kernel) (by decide +kernel), ⟨by decide +kernel, by decide +kernel, by decide +kernel⟩, by decide +kernel⟩, big_t (i := 561) (by decide +kernel) (by decide +kernel)⟩
abbrev mX4_init : MM := (yX4_init, RX4, cX4_init, 1, none)
theorem iX4_init : MI mX4_init 0 := ⟨⟨big_t (i := 119) (by decide +kernel) (by decide +kernel), big_t (i := 4) (by decide +kernel) (by decide +kernel), ⟨by decide +kernel, by decide +kernel, by decide +kernel⟩, by decide +kernel⟩, big_t (i := 118) (by decide +kernel) (by decide +kernel), by decide +kernel, rfl⟩
abbrev mX4_begin : MM := (yX4_begin, RX4, cX4_begin, 1, none)
theorem vX4_begin : MV mX4_begin 0 := ⟨⟨big_t (i := 245) (by decide +kernel) (by decide +kernel), big_t (i := 4) (by decide +kernel) (by decide +kernel), ⟨by decide +kernel, by decide +kernel, by decide +kernel⟩, by decide +kernel⟩, big_t (i := 243) (by decide +kernel) (by decide +kernel), big_t (i := 244) (by decide +kernel) (by decide +kernel)⟩
abbrev mX4_exchange : MM := (yX4_exchange, RX4, cX4_exchange, 3, (some (Jvm.ClassFile.FieldType.object "QueryTexts$Tree")))
theorem vX4_exchange : MV mX4_exchange 1 := ⟨⟨big_t (i := 387) (by decide +kernel) (by decide +kernel), big_t (i := 4) (by decide +kernel) (by decide +kernel), ⟨by decide +kernel, by decide +kernel, by decide +kernel⟩, by decide +kernel⟩, big_t (i := 385) (by decide +kernel) (by decide +kernel), big_t (i := 386) (by decide +kernel) (by decide +kernel)⟩
abbrev mX4_isWhole : MM := (yX4_isWhole, RX4, cX4_isWhole, 1, (some .boolean))
theorem vX4_isWhole : MV mX4_isWhole 0 := ⟨⟨big_t (i := 379) (by decide +kernel) (by decide +kernel), big_t (i := 4) (by decide +kernel) (by decide +kernel), ⟨by decide +kernel, by decide +kernel, by decide +kernel⟩, by decide +kernel⟩, big_t (i := 377) (by decide +kernel) (by decide +kernel), big_t (i := 378) (by decide +kernel) (by decide +kernel)⟩
abbrev mX4_takes : MM := (yX4_takes, RX4, cX4_takes, 2, (some .boolean))
theorem vX4_takes : MV mX4_takes 1 := ⟨⟨big_t (i := 260) (by decide +kernel) (by decide +kernel), big_t (i := 4) (by decide +kernel) (by decide +kernel), ⟨by decide +kernel, by decide +kernel, by decide +kernel⟩, by decide +kernel⟩, big_t (i := 258) (by decide +kernel) (by decide +kernel), big_t (i := 259) (by decide +kernel) (by decide +kernel)⟩
abbrev mX4_goTo : MM := (yX4_goTo, RX4, cX4_goTo, 2, (some .boolean))
theorem vX4_goTo : MV mX4_goTo 1 := ⟨⟨big_t (i := 276) (by decide +kernel) (by decide +kernel), big_t (i := 4) (by decide +kernel) (by decide +kernel), ⟨by decide +kernel, by decide +kernel, by decide +kernel⟩, by decide +kernel⟩, big_t (i := 275) (by decide +kernel) (by decide +kernel), big_s (i := 2) (by decide +kernel) (by decide +kernel)⟩
abbrev mX4_isFigure : MM := (yX4_isFigure, RX4, cX4_isFigure, 1, (some .boolean))
theorem sX4_isFigure : MS mX4_isFigure 1 := ⟨⟨big_t (i := 371) (by decide +kernel) (by decide +kernel), big_t (i := 4) (by decide +kernel) (by decide +kernel), ⟨by decide +kernel, by decide +kernel, by decide +kernel⟩, by decide +kernel⟩, big_t (i := 370) (by decide +kernel) (by decide +kernel)⟩
abbrev mX4_takesInGap : MM := (yX4_takesInGap, RX4, cX4_takesInGap, 3, (some .boolean))
theorem vX4_takesInGap : MV mX4_takesInGap 1 := ⟨⟨big_t (i := 264) (by decide +kernel) (by decide +kernel), big_t (i := 4) (by decide +kernel) (by decide +kernel), ⟨by decide +kernel, by decide +kernel, by decide +kernel⟩, by decide +kernel⟩, big_t (i := 263) (by decide +kernel) (by decide +kernel), big_s (i := 0) (by decide +kernel) (by decide +kernel)⟩
abbrev mX4_canBeginCore : MM := (yX4_canBeginCore, RX4, cX4_canBeginCore, 3, (some .boolean))
theorem vX4_canBeginCore : MV mX4_canBeginCore 2 := ⟨⟨big_t (i := 284) (by decide +kernel) (by decide +kernel), big_t (i := 4) (by decide +kernel) (by decide +kernel), ⟨by decide +kernel, by decide +kernel, by decide +kernel⟩, by decide +kernel⟩, big_t (i := 283) (by decide +kernel) (by decide +kernel), big_s (i := 3) (by decide +kernel) (by decide +kernel)⟩
abbrev mX4_beginCore : MM := (yX4_beginCore, RX4, cX4_beginCore, 2, (some .boolean))
theorem vX4_beginCore : MV mX4_beginCore 1 := ⟨⟨big_t (i := 299) (by decide +kernel) (by decide +kernel), big_t (i := 4) (by decide +kernel) (by decide +kernel), ⟨by decide +kernel, by decide +kernel, by decide +kernel⟩, by decide +kernel⟩, big_t (i := 298) (by decide +kernel) (by decide +kernel), big_s (i := 4) (by decide +kernel) (by decide +kernel)⟩
abbrev mX4_openGroup : MM := (yX4_openGroup, RX4, cX4_openGroup, 1, (some .boolean))
theorem vX4_openGroup : MV mX4_openGroup 0 := ⟨⟨big_t (i := 303) (by decide +kernel) (by decide +kernel), big_t (i := 4) (by decide +kernel) (by decide +kernel), ⟨by decide +kernel, by decide +kernel, by decide +kernel⟩, by decide +kernel⟩, big_t (i := 302) (by decide +kernel) (by decide +kernel), big_s (i := 5) (by decide +kernel) (by decide +kernel)⟩
abbrev mX4_closeGroup : MM := (yX4_closeGroup, RX4, cX4_closeGroup, 1, (some .boolean))
theorem vX4_closeGroup : MV mX4_closeGroup 0 := ⟨⟨big_t (i := 272) (by decide +kernel) (by decide +kernel), big_t (i := 4) (by decide +kernel) (by decide +kernel), ⟨by decide +kernel, by decide +kernel, by decide +kernel⟩, by decide +kernel⟩, big_t (i := 271) (by decide +kernel) (by decide +kernel), big_s (i := 1) (by decide +kernel) (by decide +kernel)⟩
abbrev mX4_beginWord : MM := (yX4_beginWord, RX4, cX4_beginWord, 3, (some .boolean))
theorem vX4_beginWord : MV mX4_beginWord 2 := ⟨⟨big_t (i := 307) (by decide +kernel) (by decide +kernel), big_t (i := 4) (by decide +kernel) (by decide +kernel), ⟨by decide +kernel, by decide +kernel, by decide +kernel⟩, by decide +kernel⟩, big_t (i := 306) (by decide +kernel) (by decide +kernel), big_s (i := 6) (by decide +kernel) (by decide +kernel)⟩
abbrev mX4_takeSign : MM := (yX4_takeSign, RX4, cX4_takeSign, 2, (some .boolean))
theorem vX4_takeSign : MV mX4_takeSign 1 := ⟨⟨big_t (i := 311) (by decide +kernel) (by decide +kernel), big_t (i := 4) (by decide +kernel) (by decide +kernel), ⟨by decide +kernel, by decide +kernel, by decide +kernel⟩, by decide +kernel⟩, big_t (i := 310) (by decide +kernel) (by decide +kernel), big_s (i := 7) (by decide +kernel) (by decide +kernel)⟩
abbrev mX4_takesLetter : MM := (yX4_takesLetter, RX4, cX4_takesLetter, 3, (some .boolean))
theorem vX4_takesLetter : MV mX4_takesLetter 2 := ⟨⟨big_t (i := 356) (by decide +kernel) (by decide +kernel), big_t (i := 4) (by decide +kernel) (by decide +kernel), ⟨by decide +kernel, by decide +kernel, by decide +kernel⟩, by decide +kernel⟩, big_t (i := 355) (by decide +kernel) (by decide +kernel), big_s (i := 14) (by decide +kernel) (by decide +kernel)⟩
abbrev mX4_takesInWord : MM := (yX4_takesInWord, RX4, cX4_takesInWord, 2, (some .boolean))
theorem vX4_takesInWord : MV mX4_takesInWord 1 := ⟨⟨big_t (i := 320) (by decide +kernel) (by decide +kernel), big_t (i := 4) (by decide +kernel) (by decide +kernel), ⟨by decide +kernel, by decide +kernel, by decide +kernel⟩, by decide +kernel⟩, big_t (i := 319) (by decide +kernel) (by decide +kernel), big_s (i := 8) (by decide +kernel) (by decide +kernel)⟩
abbrev mX4_isFieldLetter : MM := (yX4_isFieldLetter, RX4, cX4_isFieldLetter, 2, (some .boolean))
theorem vX4_isFieldLetter : MV mX4_isFieldLetter 0 := ⟨⟨big_t (i := 324) (by decide +kernel) (by decide +kernel), big_t (i := 4) (by decide +kernel) (by decide +kernel), ⟨by decide +kernel, by decide +kernel, by decide +kernel⟩, by decide +kernel⟩, big_t (i := 323) (by decide +kernel) (by decide +kernel), big_s (i := 9) (by decide +kernel) (by decide +kernel)⟩
abbrev mX4_takeField : MM := (yX4_takeField, RX4, cX4_takeField, 1, (some .boolean))
theorem vX4_takeField : MV mX4_takeField 0 := ⟨⟨big_t (i := 335) (by decide +kernel) (by decide +kernel), big_t (i := 4) (by decide +kernel) (by decide +kernel), ⟨by decide +kernel, by decide +kernel, by decide +kernel⟩, by decide +kernel⟩, big_t (i := 334) (by decide +kernel) (by decide +kernel), big_s (i := 10) (by decide +kernel) (by decide +kernel)⟩
abbrev mX4_takesInQuote : MM := (yX4_takesInQuote, RX4, cX4_takesInQuote, 2, (some .boolean))
theorem vX4_takesInQuote : MV mX4_takesInQuote 1 := ⟨⟨big_t (i := 360) (by decide +kernel) (by decide +kernel), big_t (i := 4) (by decide +kernel) (by decide +kernel), ⟨by decide +kernel, by decide +kernel, by decide +kernel⟩, by decide +kernel⟩, big_t (i := 359) (by decide +kernel) (by decide +kernel), big_s (i := 15) (by decide +kernel) (by decide +kernel)⟩
abbrev mX4_takesInQuoteGap : MM := (yX4_takesInQuoteGap, RX4, cX4_takesInQuoteGap, 2, (some .boolean))
theorem vX4_takesInQuoteGap : MV mX4_takesInQuoteGap 1 := ⟨⟨big_t (i := 364) (by decide +kernel) (by decide +kernel), big_t (i := 4) (by decide +kernel) (by decide +kernel), ⟨by decide +kernel, by decide +kernel, by decide +kernel⟩, by decide +kernel⟩, big_t (i := 363) (by decide +kernel) (by decide +kernel), big_s (i := 16) (by decide +kernel) (by decide +kernel)⟩
abbrev mX4_takesInSpan : MM := (yX4_takesInSpan, RX4, cX4_takesInSpan, 2, (some .boolean))
theorem vX4_takesInSpan : MV mX4_takesInSpan 1 := ⟨⟨big_t (i := 368) (by decide +kernel) (by decide +kernel), big_t (i := 4) (by decide +kernel) (by decide +kernel), ⟨by decide +kernel, by decide +kernel, by decide +kernel⟩, by decide +kernel⟩, big_t (i := 367) (by decide +kernel) (by decide +kernel), big_s (i := 17) (by decide +kernel) (by decide +kernel)⟩
abbrev mX4_takesDetail : MM := (yX4_takesDetail, RX4, cX4_takesDetail, 4, (some .boolean))
theorem vX4_takesDetail : MV mX4_takesDetail 3 := ⟨⟨big_t (i := 352) (by decide +kernel) (by decide +kernel), big_t (i := 4) (by decide +kernel) (by decide +kernel), ⟨by decide +kernel, by decide +kernel, by decide +kernel⟩, by decide +kernel⟩, big_t (i := 351) (by decide +kernel) (by decide +kernel), big_s (i := 13) (by decide +kernel) (by decide +kernel)⟩
abbrev mX4_takeBoost : MM := (yX4_takeBoost, RX4, cX4_takeBoost, 3, (some .boolean))
theorem vX4_takeBoost : MV mX4_takeBoost 2 := ⟨⟨big_t (i := 375) (by decide +kernel) (by decide +kernel), big_t (i := 4) (by decide +kernel) (by decide +kernel), ⟨by decide +kernel, by decide +kernel, by decide +kernel⟩, by decide +kernel⟩, big_t (i := 374) (by decide +kernel) (by decide +kernel), big_s (i := 18) (by decide +kernel) (by decide +kernel)⟩
abbrev mX4_takesTail : MM := (yX4_takesTail, RX4, cX4_takesTail, 2, (some .boolean))
theorem vX4_takesTail : MV mX4_takesTail 1 := ⟨⟨big_t (i := 344) (by decide +kernel) (by decide +kernel), big_t (i := 4) (by decide +kernel) (by decide +kernel), ⟨by decide +kernel, by decide +kernel, by decide +kernel⟩, by decide +kernel⟩, big_t (i := 343) (by decide +kernel) (by decide +kernel), big_s (i := 11) (by decide +kernel) (by decide +kernel)⟩
abbrev mX4_takesEnd : MM := (yX4_takesEnd, RX4, cX4_takesEnd, 2, (some .boolean))
theorem vX4_takesEnd : MV mX4_takesEnd 1 := ⟨⟨big_t (i := 348) (by decide +kernel) (by decide +kernel), big_t (i := 4) (by decide +kernel) (by decide +kernel), ⟨by decide +kernel, by decide +kernel, by decide +kernel⟩, by decide +kernel⟩, big_t (i := 347) (by decide +kernel) (by decide +kernel), big_s (i := 12) (by decide +kernel) (by decide +kernel)⟩
abbrev mX5_init : MM := (yX5_init, RX5, cX5_init, 1, none)
theorem iX5_init : MI mX5_init 0 := ⟨⟨big_t (i := 154) (by decide +kernel) (by decide +kernel), big_t (i := 5) (by decide +kernel) (by decide +kernel), ⟨by decide +kernel, by decide +kernel, by decide +kernel⟩, by decide +kernel⟩, big_t (i := 153) (by decide +kernel) (by decide +kernel), by decide +kernel, rfl⟩
abbrev mX5_isWritten : MM := (yX5_isWritten, RX5, cX5_isWritten, 1, (some .boolean))
theorem vX5_isWritten : MV mX5_isWritten 0 := ⟨⟨big_t (i := 746) (by decide +kernel) (by decide +kernel), big_t (i := 5) (by decide +kernel) (by decide +kernel), ⟨by decide +kernel, by decide +kernel, by decide +kernel⟩, by decide +kernel⟩, big_t (i := 744) (by decide +kernel) (by decide +kernel), big_t (i := 745) (by decide +kernel) (by decide +kernel)⟩
abbrev mX5_byteAt : MM := (yX5_byteAt, RX5, cX5_byteAt, 2, (some .int))
theorem vX5_byteAt : MV mX5_byteAt 1 := ⟨⟨big_t (i := 756) (by decide +kernel) (by decide +kernel), big_t (i := 5) (by decide +kernel) (by decide +kernel), ⟨by decide +kernel, by decide +kernel, by decide +kernel⟩, by decide +kernel⟩, big_t (i := 754) (by decide +kernel) (by decide +kernel), big_t (i := 755) (by decide +kernel) (by decide +kernel)⟩
abbrev mX5_write : MM := (yX5_write, RX5, cX5_write, 5, (some .int))
theorem vX5_write : MV mX5_write 1 := ⟨⟨big_t (i := 411) (by decide +kernel) (by decide +kernel), big_t (i := 5) (by decide +kernel) (by decide +kernel), ⟨by decide +kernel, by decide +kernel, by decide +kernel⟩, by decide +kernel⟩, big_t (i := 409) (by decide +kernel) (by decide +kernel), big_t (i := 410) (by decide +kernel) (by decide +kernel)⟩
abbrev mX5_closeGroups : MM := (yX5_closeGroups, RX5, cX5_closeGroups, 7, (some .int))
theorem vX5_closeGroups : MV mX5_closeGroups 3 := ⟨⟨big_t (i := 416) (by decide +kernel) (by decide +kernel), big_t (i := 5) (by decide +kernel) (by decide +kernel), ⟨by decide +kernel, by decide +kernel, by decide +kernel⟩, by decide +kernel⟩, big_t (i := 415) (by decide +kernel) (by decide +kernel), big_s (i := 21) (by decide +kernel) (by decide +kernel)⟩
abbrev mX5_put : MM := (yX5_put, RX5, cX5_put, 2, none)
theorem vX5_put : MV mX5_put 1 := ⟨⟨big_t (i := 420) (by decide +kernel) (by decide +kernel), big_t (i := 5) (by decide +kernel) (by decide +kernel), ⟨by decide +kernel, by decide +kernel, by decide +kernel⟩, by decide +kernel⟩, big_t (i := 419) (by decide +kernel) (by decide +kernel), big_s (i := 22) (by decide +kernel) (by decide +kernel)⟩
abbrev mX5_putHead : MM := (yX5_putHead, RX5, cX5_putHead, 2, none)
theorem vX5_putHead : MV mX5_putHead 1 := ⟨⟨big_t (i := 428) (by decide +kernel) (by decide +kernel), big_t (i := 5) (by decide +kernel) (by decide +kernel), ⟨by decide +kernel, by decide +kernel, by decide +kernel⟩, by decide +kernel⟩, big_t (i := 427) (by decide +kernel) (by decide +kernel), big_s (i := 24) (by decide +kernel) (by decide +kernel)⟩
abbrev mX5_putCore : MM := (yX5_putCore, RX5, cX5_putCore, 2, none)
theorem vX5_putCore : MV mX5_putCore 1 := ⟨⟨big_t (i := 432) (by decide +kernel) (by decide +kernel), big_t (i := 5) (by decide +kernel) (by decide +kernel), ⟨by decide +kernel, by decide +kernel, by decide +kernel⟩, by decide +kernel⟩, big_t (i := 431) (by decide +kernel) (by decide +kernel), big_s (i := 25) (by decide +kernel) (by decide +kernel)⟩
abbrev mX5_putQuote : MM := (yX5_putQuote, RX5, cX5_putQuote, 3, none)
theorem vX5_putQuote : MV mX5_putQuote 1 := ⟨⟨big_t (i := 436) (by decide +kernel) (by decide +kernel), big_t (i := 5) (by decide +kernel) (by decide +kernel), ⟨by decide +kernel, by decide +kernel, by decide +kernel⟩, by decide +kernel⟩, big_t (i := 435) (by decide +kernel) (by decide +kernel), big_s (i := 26) (by decide +kernel) (by decide +kernel)⟩
abbrev mX5_putSpan : MM := (yX5_putSpan, RX5, cX5_putSpan, 2, none)
theorem vX5_putSpan : MV mX5_putSpan 1 := ⟨⟨big_t (i := 450) (by decide +kernel) (by decide +kernel), big_t (i := 5) (by decide +kernel) (by decide +kernel), ⟨by decide +kernel, by decide +kernel, by decide +kernel⟩, by decide +kernel⟩, big_t (i := 449) (by decide +kernel) (by decide +kernel), big_s (i := 28) (by decide +kernel) (by decide +kernel)⟩
abbrev mX5_putWord : MM := (yX5_putWord, RX5, cX5_putWord, 5, none)
theorem vX5_putWord : MV mX5_putWord 1 := ⟨⟨big_t (i := 441) (by decide +kernel) (by decide +kernel), big_t (i := 5) (by decide +kernel) (by decide +kernel), ⟨by decide +kernel, by decide +kernel, by decide +kernel⟩, by decide +kernel⟩, big_t (i := 440) (by decide +kernel) (by decide +kernel), big_s (i := 27) (by decide +kernel) (by decide +kernel)⟩
abbrev mX5_putTold : MM := (yX5_putTold, RX5, cX5_putTold, 4, none)
theorem vX5_putTold : MV mX5_putTold 3 := ⟨⟨big_t (i := 424) (by decide +kernel) (by decide +kernel), big_t (i := 5) (by decide +kernel) (by decide +kernel), ⟨by decide +kernel, by decide +kernel, by decide +kernel⟩, by decide +kernel⟩, big_t (i := 423) (by decide +kernel) (by decide +kernel), big_s (i := 23) (by decide +kernel) (by decide +kernel)⟩
abbrev mX6_init : MM := (yX6_init, RX6, cX6_init, 1, none)
theorem iX6_init : MI mX6_init 0 := ⟨⟨big_t (i := 173) (by decide +kernel) (by decide +kernel), big_t (i := 7) (by decide +kernel) (by decide +kernel), ⟨by decide +kernel, by decide +kernel, by decide +kernel⟩, by decide +kernel⟩, big_t (i := 172) (by decide +kernel) (by decide +kernel), by decide +kernel, rfl⟩
abbrev mX6_countOf : MM := (yX6_countOf, RX6, cX6_countOf, 4, (some .int))
theorem vX6_countOf : MV mX6_countOf 2 := ⟨⟨big_t (i := 471) (by decide +kernel) (by decide +kernel), big_t (i := 7) (by decide +kernel) (by decide +kernel), ⟨by decide +kernel, by decide +kernel, by decide +kernel⟩, by decide +kernel⟩, big_t (i := 469) (by decide +kernel) (by decide +kernel), big_t (i := 470) (by decide +kernel) (by decide +kernel)⟩
abbrev mX6_wordAt : MM := (yX6_wordAt, RX6, cX6_wordAt, 5, (some .long))
theorem vX6_wordAt : MV mX6_wordAt 3 := ⟨⟨big_t (i := 529) (by decide +kernel) (by decide +kernel), big_t (i := 7) (by decide +kernel) (by decide +kernel), ⟨by decide +kernel, by decide +kernel, by decide +kernel⟩, by decide +kernel⟩, big_t (i := 527) (by decide +kernel) (by decide +kernel), big_t (i := 528) (by decide +kernel) (by decide +kernel)⟩
abbrev mX6_add : MM := (yX6_add, RX6, cX6_add, 8, (some .int))
theorem vX6_add : MV mX6_add 3 := ⟨⟨big_t (i := 467) (by decide +kernel) (by decide +kernel), big_t (i := 7) (by decide +kernel) (by decide +kernel), ⟨by decide +kernel, by decide +kernel, by decide +kernel⟩, by decide +kernel⟩, big_t (i := 465) (by decide +kernel) (by decide +kernel), big_t (i := 466) (by decide +kernel) (by decide +kernel)⟩
abbrev mX6_empty : MM := (yX6_empty, RX6, cX6_empty, 5, (some .int))
theorem vX6_empty : MV mX6_empty 1 := ⟨⟨big_t (i := 479) (by decide +kernel) (by decide +kernel), big_t (i := 7) (by decide +kernel) (by decide +kernel), ⟨by decide +kernel, by decide +kernel, by decide +kernel⟩, by decide +kernel⟩, big_t (i := 477) (by decide +kernel) (by decide +kernel), big_t (i := 478) (by decide +kernel) (by decide +kernel)⟩
abbrev mX7_init : MM := (yX7_init, RX7, cX7_init, 2, none)
theorem iX7_init : MI mX7_init 0 := ⟨⟨big_t (i := 34) (by decide +kernel) (by decide +kernel), big_t (i := 2) (by decide +kernel) (by decide +kernel), ⟨by decide +kernel, by decide +kernel, by decide +kernel⟩, by decide +kernel⟩, big_t (i := 33) (by decide +kernel) (by decide +kernel), by decide +kernel, rfl⟩
abbrev mX7_isEmpty : MM := (yX7_isEmpty, RX7, cX7_isEmpty, 1, (some .boolean))
theorem vX7_isEmpty : MV mX7_isEmpty 0 := ⟨⟨big_t (i := 407) (by decide +kernel) (by decide +kernel), big_t (i := 2) (by decide +kernel) (by decide +kernel), ⟨by decide +kernel, by decide +kernel, by decide +kernel⟩, by decide +kernel⟩, big_t (i := 405) (by decide +kernel) (by decide +kernel), big_t (i := 406) (by decide +kernel) (by decide +kernel)⟩
abbrev mX7_has : MM := (yX7_has, RX7, cX7_has, 2, (some .boolean))
theorem vX7_has : MV mX7_has 1 := ⟨⟨big_t (i := 487) (by decide +kernel) (by decide +kernel), big_t (i := 2) (by decide +kernel) (by decide +kernel), ⟨by decide +kernel, by decide +kernel, by decide +kernel⟩, by decide +kernel⟩, big_t (i := 485) (by decide +kernel) (by decide +kernel), big_t (i := 486) (by decide +kernel) (by decide +kernel)⟩
abbrev mX7_at : MM := (yX7_at, RX7, cX7_at, 2, (some (Jvm.ClassFile.FieldType.object "QueryTexts$Clause")))
theorem vX7_at : MV mX7_at 1 := ⟨⟨big_t (i := 268) (by decide +kernel) (by decide +kernel), big_t (i := 2) (by decide +kernel) (by decide +kernel), ⟨by decide +kernel, by decide +kernel, by decide +kernel⟩, by decide +kernel⟩, big_t (i := 266) (by decide +kernel) (by decide +kernel), big_t (i := 267) (by decide +kernel) (by decide +kernel)⟩
abbrev mX7_begin : MM := (yX7_begin, RX7, cX7_begin, 2, none)
theorem vX7_begin : MV mX7_begin 0 := ⟨⟨big_t (i := 249) (by decide +kernel) (by decide +kernel), big_t (i := 2) (by decide +kernel) (by decide +kernel), ⟨by decide +kernel, by decide +kernel, by decide +kernel⟩, by decide +kernel⟩, big_t (i := 247) (by decide +kernel) (by decide +kernel), big_t (i := 248) (by decide +kernel) (by decide +kernel)⟩
abbrev mX7_hasRoom : MM := (yX7_hasRoom, RX7, cX7_hasRoom, 2, (some .boolean))
theorem vX7_hasRoom : MV mX7_hasRoom 1 := ⟨⟨big_t (i := 280) (by decide +kernel) (by decide +kernel), big_t (i := 2) (by decide +kernel) (by decide +kernel), ⟨by decide +kernel, by decide +kernel, by decide +kernel⟩, by decide +kernel⟩, big_t (i := 278) (by decide +kernel) (by decide +kernel), big_t (i := 279) (by decide +kernel) (by decide +kernel)⟩
abbrev mX7_add : MM := (yX7_add, RX7, cX7_add, 4, (some (Jvm.ClassFile.FieldType.object "QueryTexts$Clause")))
theorem vX7_add : MV mX7_add 2 := ⟨⟨big_t (i := 294) (by decide +kernel) (by decide +kernel), big_t (i := 2) (by decide +kernel) (by decide +kernel), ⟨by decide +kernel, by decide +kernel, by decide +kernel⟩, by decide +kernel⟩, big_t (i := 292) (by decide +kernel) (by decide +kernel), big_t (i := 293) (by decide +kernel) (by decide +kernel)⟩
abbrev mX7_fieldOf : MM := (yX7_fieldOf, RX7, cX7_fieldOf, 4, (some .int))
theorem vX7_fieldOf : MV mX7_fieldOf 1 := ⟨⟨big_t (i := 515) (by decide +kernel) (by decide +kernel), big_t (i := 2) (by decide +kernel) (by decide +kernel), ⟨by decide +kernel, by decide +kernel, by decide +kernel⟩, by decide +kernel⟩, big_t (i := 513) (by decide +kernel) (by decide +kernel), big_t (i := 514) (by decide +kernel) (by decide +kernel)⟩
abbrev mX8_init : MM := (yX8_init, RX8, cX8_init, 1, none)
theorem iX8_init : MI mX8_init 0 := ⟨⟨big_t (i := 26) (by decide +kernel) (by decide +kernel), big_t (i := 1) (by decide +kernel) (by decide +kernel), ⟨by decide +kernel, by decide +kernel, by decide +kernel⟩, by decide +kernel⟩, big_t (i := 25) (by decide +kernel) (by decide +kernel), by decide +kernel, rfl⟩
abbrev mX8_feed : MM := (yX8_feed, RX8, cX8_feed, 5, (some .int))
theorem vX8_feed : MV mX8_feed 2 := ⟨⟨big_t (i := 237) (by decide +kernel) (by decide +kernel), big_t (i := 1) (by decide +kernel) (by decide +kernel), ⟨by decide +kernel, by decide +kernel, by decide +kernel⟩, by decide +kernel⟩, big_t (i := 235) (by decide +kernel) (by decide +kernel), big_t (i := 236) (by decide +kernel) (by decide +kernel)⟩
abbrev mX8_read : MM := (yX8_read, RX8, cX8_read, 3, (some .int))
theorem vX8_read : MV mX8_read 0 := ⟨⟨big_t (i := 241) (by decide +kernel) (by decide +kernel), big_t (i := 1) (by decide +kernel) (by decide +kernel), ⟨by decide +kernel, by decide +kernel, by decide +kernel⟩, by decide +kernel⟩, big_t (i := 239) (by decide +kernel) (by decide +kernel), big_t (i := 240) (by decide +kernel) (by decide +kernel)⟩
abbrev mX8_lenient : MM := (yX8_lenient, RX8, cX8_lenient, 5, (some .int))
theorem vX8_lenient : MV mX8_lenient 0 := ⟨⟨big_t (i := 391) (by decide +kernel) (by decide +kernel), big_t (i := 1) (by decide +kernel) (by decide +kernel), ⟨by decide +kernel, by decide +kernel, by decide +kernel⟩, by decide +kernel⟩, big_t (i := 389) (by decide +kernel) (by decide +kernel), big_t (i := 390) (by decide +kernel) (by decide +kernel)⟩
abbrev mX8_drop : MM := (yX8_drop, RX8, cX8_drop, 2, none)
theorem vX8_drop : MV mX8_drop 1 := ⟨⟨big_t (i := 395) (by decide +kernel) (by decide +kernel), big_t (i := 1) (by decide +kernel) (by decide +kernel), ⟨by decide +kernel, by decide +kernel, by decide +kernel⟩, by decide +kernel⟩, big_t (i := 394) (by decide +kernel) (by decide +kernel), big_s (i := 20) (by decide +kernel) (by decide +kernel)⟩
abbrev mX8_adoptReading : MM := (yX8_adoptReading, RX8, cX8_adoptReading, 1, (some .int))
theorem vX8_adoptReading : MV mX8_adoptReading 0 := ⟨⟨big_t (i := 383) (by decide +kernel) (by decide +kernel), big_t (i := 1) (by decide +kernel) (by decide +kernel), ⟨by decide +kernel, by decide +kernel, by decide +kernel⟩, by decide +kernel⟩, big_t (i := 382) (by decide +kernel) (by decide +kernel), big_s (i := 19) (by decide +kernel) (by decide +kernel)⟩
abbrev mX8_dropped : MM := (yX8_dropped, RX8, cX8_dropped, 2, (some .int))
theorem vX8_dropped : MV mX8_dropped 1 := ⟨⟨big_t (i := 399) (by decide +kernel) (by decide +kernel), big_t (i := 1) (by decide +kernel) (by decide +kernel), ⟨by decide +kernel, by decide +kernel, by decide +kernel⟩, by decide +kernel⟩, big_t (i := 397) (by decide +kernel) (by decide +kernel), big_t (i := 398) (by decide +kernel) (by decide +kernel)⟩
abbrev mX8_node : MM := (yX8_node, RX8, cX8_node, 4, (some .int))
theorem vX8_node : MV mX8_node 2 := ⟨⟨big_t (i := 678) (by decide +kernel) (by decide +kernel), big_t (i := 1) (by decide +kernel) (by decide +kernel), ⟨by decide +kernel, by decide +kernel, by decide +kernel⟩, by decide +kernel⟩, big_t (i := 676) (by decide +kernel) (by decide +kernel), big_t (i := 677) (by decide +kernel) (by decide +kernel)⟩
abbrev mX8_sign : MM := (yX8_sign, RX8, cX8_sign, 6, (some .int))
theorem vX8_sign : MV mX8_sign 3 := ⟨⟨big_t (i := 703) (by decide +kernel) (by decide +kernel), big_t (i := 1) (by decide +kernel) (by decide +kernel), ⟨by decide +kernel, by decide +kernel, by decide +kernel⟩, by decide +kernel⟩, big_t (i := 701) (by decide +kernel) (by decide +kernel), big_t (i := 702) (by decide +kernel) (by decide +kernel)⟩
abbrev mX8_print : MM := (yX8_print, RX8, cX8_print, 1, (some .int))
theorem vX8_print : MV mX8_print 0 := ⟨⟨big_t (i := 403) (by decide +kernel) (by decide +kernel), big_t (i := 1) (by decide +kernel) (by decide +kernel), ⟨by decide +kernel, by decide +kernel, by decide +kernel⟩, by decide +kernel⟩, big_t (i := 401) (by decide +kernel) (by decide +kernel), big_t (i := 402) (by decide +kernel) (by decide +kernel)⟩
abbrev mX8_out : MM := (yX8_out, RX8, cX8_out, 3, (some .int))
theorem vX8_out : MV mX8_out 1 := ⟨⟨big_t (i := 742) (by decide +kernel) (by decide +kernel), big_t (i := 1) (by decide +kernel) (by decide +kernel), ⟨by decide +kernel, by decide +kernel, by decide +kernel⟩, by decide +kernel⟩, big_t (i := 740) (by decide +kernel) (by decide +kernel), big_t (i := 741) (by decide +kernel) (by decide +kernel)⟩
abbrev mX8_word : MM := (yX8_word, RX8, cX8_word, 5, (some .int))
theorem vX8_word : MV mX8_word 3 := ⟨⟨big_t (i := 454) (by decide +kernel) (by decide +kernel), big_t (i := 1) (by decide +kernel) (by decide +kernel), ⟨by decide +kernel, by decide +kernel, by decide +kernel⟩, by decide +kernel⟩, big_t (i := 452) (by decide +kernel) (by decide +kernel), big_t (i := 453) (by decide +kernel) (by decide +kernel)⟩
abbrev mX8_clear : MM := (yX8_clear, RX8, cX8_clear, 2, (some .int))
theorem vX8_clear : MV mX8_clear 1 := ⟨⟨big_t (i := 475) (by decide +kernel) (by decide +kernel), big_t (i := 1) (by decide +kernel) (by decide +kernel), ⟨by decide +kernel, by decide +kernel, by decide +kernel⟩, by decide +kernel⟩, big_t (i := 473) (by decide +kernel) (by decide +kernel), big_t (i := 474) (by decide +kernel) (by decide +kernel)⟩
abbrev mX8_fits : MM := (yX8_fits, RX8, cX8_fits, 3, (some .int))
theorem vX8_fits : MV mX8_fits 2 := ⟨⟨big_t (i := 483) (by decide +kernel) (by decide +kernel), big_t (i := 1) (by decide +kernel) (by decide +kernel), ⟨by decide +kernel, by decide +kernel, by decide +kernel⟩, by decide +kernel⟩, big_t (i := 481) (by decide +kernel) (by decide +kernel), big_t (i := 482) (by decide +kernel) (by decide +kernel)⟩
abbrev mX8_worth : MM := (yX8_worth, RX8, cX8_worth, 3, (some .long))
theorem vX8_worth : MV mX8_worth 2 := ⟨⟨big_t (i := 567) (by decide +kernel) (by decide +kernel), big_t (i := 1) (by decide +kernel) (by decide +kernel), ⟨by decide +kernel, by decide +kernel, by decide +kernel⟩, by decide +kernel⟩, big_t (i := 565) (by decide +kernel) (by decide +kernel), big_t (i := 566) (by decide +kernel) (by decide +kernel)⟩
abbrev mX8_ratio : MM := (yX8_ratio, RX8, cX8_ratio, 5, (some .long))
theorem vX8_ratio : MV mX8_ratio 2 := ⟨⟨big_t (i := 778) (by decide +kernel) (by decide +kernel), big_t (i := 1) (by decide +kernel) (by decide +kernel), ⟨by decide +kernel, by decide +kernel, by decide +kernel⟩, by decide +kernel⟩, big_t (i := 776) (by decide +kernel) (by decide +kernel), big_t (i := 777) (by decide +kernel) (by decide +kernel)⟩
abbrev mX8_why : MM := (yX8_why, RX8, cX8_why, 3, (some .int))
theorem vX8_why : MV mX8_why 1 := ⟨⟨big_t (i := 573) (by decide +kernel) (by decide +kernel), big_t (i := 1) (by decide +kernel) (by decide +kernel), ⟨by decide +kernel, by decide +kernel, by decide +kernel⟩, by decide +kernel⟩, big_t (i := 571) (by decide +kernel) (by decide +kernel), big_t (i := 572) (by decide +kernel) (by decide +kernel)⟩
abbrev mX8_rank : MM := (yX8_rank, RX8, cX8_rank, 3, (some .int))
theorem vX8_rank : MV mX8_rank 1 := ⟨⟨big_t (i := 581) (by decide +kernel) (by decide +kernel), big_t (i := 1) (by decide +kernel) (by decide +kernel), ⟨by decide +kernel, by decide +kernel, by decide +kernel⟩, by decide +kernel⟩, big_t (i := 579) (by decide +kernel) (by decide +kernel), big_t (i := 580) (by decide +kernel) (by decide +kernel)⟩
abbrev mX8_countAhead : MM := (yX8_countAhead, RX8, cX8_countAhead, 6, (some .int))
theorem vX8_countAhead : MV mX8_countAhead 1 := ⟨⟨big_t (i := 585) (by decide +kernel) (by decide +kernel), big_t (i := 1) (by decide +kernel) (by decide +kernel), ⟨by decide +kernel, by decide +kernel, by decide +kernel⟩, by decide +kernel⟩, big_t (i := 584) (by decide +kernel) (by decide +kernel), big_s (i := 37) (by decide +kernel) (by decide +kernel)⟩
abbrev mX8_isDocument : MM := (yX8_isDocument, RX8, cX8_isDocument, 1, (some .boolean))
theorem sX8_isDocument : MS mX8_isDocument 1 := ⟨⟨big_t (i := 457) (by decide +kernel) (by decide +kernel), big_t (i := 1) (by decide +kernel) (by decide +kernel), ⟨by decide +kernel, by decide +kernel, by decide +kernel⟩, by decide +kernel⟩, big_t (i := 456) (by decide +kernel) (by decide +kernel)⟩
abbrev mX9_thrown : MM := (yX9_thrown, RX9, cX9_thrown, 1, (some .int))
theorem vX9_thrown : MV mX9_thrown 0 := ⟨⟨big_t (i := 789) (by decide +kernel) (by decide +kernel), big_t (i := 9) (by decide +kernel) (by decide +kernel), ⟨by decide +kernel, by decide +kernel, by decide +kernel⟩, by decide +kernel⟩, big_t (i := 787) (by decide +kernel) (by decide +kernel), big_t (i := 788) (by decide +kernel) (by decide +kernel)⟩
abbrev mX9_in : MM := (yX9_in, RX9, cX9_in, 6, (some .boolean))
theorem sX9_in : MS mX9_in 3 := ⟨⟨big_t (i := 922) (by decide +kernel) (by decide +kernel), big_t (i := 9) (by decide +kernel) (by decide +kernel), ⟨by decide +kernel, by decide +kernel, by decide +kernel⟩, by decide +kernel⟩, big_t (i := 921) (by decide +kernel) (by decide +kernel)⟩
abbrev mX9_isLetter : MM := (yX9_isLetter, RX9, cX9_isLetter, 1, (some .boolean))
theorem sX9_isLetter : MS mX9_isLetter 1 := ⟨⟨big_t (i := 956) (by decide +kernel) (by decide +kernel), big_t (i := 9) (by decide +kernel) (by decide +kernel), ⟨by decide +kernel, by decide +kernel, by decide +kernel⟩, by decide +kernel⟩, big_t (i := 955) (by decide +kernel) (by decide +kernel)⟩
abbrev mX9_isFigure : MM := (yX9_isFigure, RX9, cX9_isFigure, 3, (some .boolean))
theorem sX9_isFigure : MS mX9_isFigure 3 := ⟨⟨big_t (i := 945) (by decide +kernel) (by decide +kernel), big_t (i := 9) (by decide +kernel) (by decide +kernel), ⟨by decide +kernel, by decide +kernel, by decide +kernel⟩, by decide +kernel⟩, big_t (i := 944) (by decide +kernel) (by decide +kernel)⟩
abbrev mX9_init : MM := (yX9_init, RX9, cX9_init, 1, none)
theorem iX9_init : MI mX9_init 0 := ⟨⟨big_t (i := 794) (by decide +kernel) (by decide +kernel), big_t (i := 9) (by decide +kernel) (by decide +kernel), ⟨by decide +kernel, by decide +kernel, by decide +kernel⟩, by decide +kernel⟩, big_t (i := 793) (by decide +kernel) (by decide +kernel), by decide +kernel, rfl⟩
abbrev mX9_feed : MM := (yX9_feed, RX9, cX9_feed, 5, (some .int))
theorem vX9_feed : MV mX9_feed 2 := ⟨⟨big_t (i := 918) (by decide +kernel) (by decide +kernel), big_t (i := 9) (by decide +kernel) (by decide +kernel), ⟨by decide +kernel, by decide +kernel, by decide +kernel⟩, by decide +kernel⟩, big_t (i := 916) (by decide +kernel) (by decide +kernel), big_t (i := 917) (by decide +kernel) (by decide +kernel)⟩
abbrev mX9_here : MM := (yX9_here, RX9, cX9_here, 1, (some .int))
theorem vX9_here : MV mX9_here 0 := ⟨⟨big_t (i := 938) (by decide +kernel) (by decide +kernel), big_t (i := 9) (by decide +kernel) (by decide +kernel), ⟨by decide +kernel, by decide +kernel, by decide +kernel⟩, by decide +kernel⟩, big_t (i := 937) (by decide +kernel) (by decide +kernel), big_s (i := 42) (by decide +kernel) (by decide +kernel)⟩
abbrev mX9_fails : MM := (yX9_fails, RX9, cX9_fails, 1, (some .boolean))
theorem vX9_fails : MV mX9_fails 0 := ⟨⟨big_t (i := 949) (by decide +kernel) (by decide +kernel), big_t (i := 9) (by decide +kernel) (by decide +kernel), ⟨by decide +kernel, by decide +kernel, by decide +kernel⟩, by decide +kernel⟩, big_t (i := 948) (by decide +kernel) (by decide +kernel), big_s (i := 44) (by decide +kernel) (by decide +kernel)⟩
abbrev mX9_newNode : MM := (yX9_newNode, RX9, cX9_newNode, 3, (some .int))
theorem vX9_newNode : MV mX9_newNode 1 := ⟨⟨big_t (i := 934) (by decide +kernel) (by decide +kernel), big_t (i := 9) (by decide +kernel) (by decide +kernel), ⟨by decide +kernel, by decide +kernel, by decide +kernel⟩, by decide +kernel⟩, big_t (i := 933) (by decide +kernel) (by decide +kernel), big_s (i := 41) (by decide +kernel) (by decide +kernel)⟩
abbrev mX9_letters : MM := (yX9_letters, RX9, cX9_letters, 4, (some .boolean))
theorem vX9_letters : MV mX9_letters 1 := ⟨⟨big_t (i := 978) (by decide +kernel) (by decide +kernel), big_t (i := 9) (by decide +kernel) (by decide +kernel), ⟨by decide +kernel, by decide +kernel, by decide +kernel⟩, by decide +kernel⟩, big_t (i := 977) (by decide +kernel) (by decide +kernel), big_s (i := 50) (by decide +kernel) (by decide +kernel)⟩
abbrev mX9_figure : MM := (yX9_figure, RX9, cX9_figure, 5, (some .boolean))
theorem vX9_figure : MV mX9_figure 4 := ⟨⟨big_t (i := 942) (by decide +kernel) (by decide +kernel), big_t (i := 9) (by decide +kernel) (by decide +kernel), ⟨by decide +kernel, by decide +kernel, by decide +kernel⟩, by decide +kernel⟩, big_t (i := 941) (by decide +kernel) (by decide +kernel), big_s (i := 43) (by decide +kernel) (by decide +kernel)⟩
abbrev mX9_word : MM := (yX9_word, RX9, cX9_word, 4, (some .boolean))
theorem vX9_word : MV mX9_word 1 := ⟨⟨big_t (i := 970) (by decide +kernel) (by decide +kernel), big_t (i := 9) (by decide +kernel) (by decide +kernel), ⟨by decide +kernel, by decide +kernel, by decide +kernel⟩, by decide +kernel⟩, big_t (i := 969) (by decide +kernel) (by decide +kernel), big_s (i := 48) (by decide +kernel) (by decide +kernel)⟩
abbrev mX9_quote : MM := (yX9_quote, RX9, cX9_quote, 3, (some .boolean))
theorem vX9_quote : MV mX9_quote 1 := ⟨⟨big_t (i := 974) (by decide +kernel) (by decide +kernel), big_t (i := 9) (by decide +kernel) (by decide +kernel), ⟨by decide +kernel, by decide +kernel, by decide +kernel⟩, by decide +kernel⟩, big_t (i := 973) (by decide +kernel) (by decide +kernel), big_s (i := 49) (by decide +kernel) (by decide +kernel)⟩
abbrev mX9_span : MM := (yX9_span, RX9, cX9_span, 4, (some .boolean))
theorem vX9_span : MV mX9_span 1 := ⟨⟨big_t (i := 982) (by decide +kernel) (by decide +kernel), big_t (i := 9) (by decide +kernel) (by decide +kernel), ⟨by decide +kernel, by decide +kernel, by decide +kernel⟩, by decide +kernel⟩, big_t (i := 981) (by decide +kernel) (by decide +kernel), big_s (i := 51) (by decide +kernel) (by decide +kernel)⟩
abbrev mX9_ends : MM := (yX9_ends, RX9, cX9_ends, 2, (some .boolean))
theorem vX9_ends : MV mX9_ends 1 := ⟨⟨big_t (i := 953) (by decide +kernel) (by decide +kernel), big_t (i := 9) (by decide +kernel) (by decide +kernel), ⟨by decide +kernel, by decide +kernel, by decide +kernel⟩, by decide +kernel⟩, big_t (i := 952) (by decide +kernel) (by decide +kernel), big_s (i := 45) (by decide +kernel) (by decide +kernel)⟩
abbrev mX9_marks : MM := (yX9_marks, RX9, cX9_marks, 3, none)
theorem vX9_marks : MV mX9_marks 1 := ⟨⟨big_t (i := 960) (by decide +kernel) (by decide +kernel), big_t (i := 9) (by decide +kernel) (by decide +kernel), ⟨by decide +kernel, by decide +kernel, by decide +kernel⟩, by decide +kernel⟩, big_t (i := 959) (by decide +kernel) (by decide +kernel), big_s (i := 46) (by decide +kernel) (by decide +kernel)⟩
abbrev mX9_core : MM := (yX9_core, RX9, cX9_core, 5, (some .boolean))
theorem vX9_core : MV mX9_core 2 := ⟨⟨big_t (i := 966) (by decide +kernel) (by decide +kernel), big_t (i := 9) (by decide +kernel) (by decide +kernel), ⟨by decide +kernel, by decide +kernel, by decide +kernel⟩, by decide +kernel⟩, big_t (i := 965) (by decide +kernel) (by decide +kernel), big_s (i := 47) (by decide +kernel) (by decide +kernel)⟩
abbrev mX9_goAlong : MM := (yX9_goAlong, RX9, cX9_goAlong, 7, (some .int))
theorem vX9_goAlong : MV mX9_goAlong 0 := ⟨⟨big_t (i := 930) (by decide +kernel) (by decide +kernel), big_t (i := 9) (by decide +kernel) (by decide +kernel), ⟨by decide +kernel, by decide +kernel, by decide +kernel⟩, by decide +kernel⟩, big_t (i := 929) (by decide +kernel) (by decide +kernel), big_s (i := 40) (by decide +kernel) (by decide +kernel)⟩
abbrev mX9_become : MM := (yX9_become, RX9, cX9_become, 2, none)
theorem vX9_become : MV mX9_become 0 := ⟨⟨big_t (i := 986) (by decide +kernel) (by decide +kernel), big_t (i := 9) (by decide +kernel) (by decide +kernel), ⟨by decide +kernel, by decide +kernel, by decide +kernel⟩, by decide +kernel⟩, big_t (i := 985) (by decide +kernel) (by decide +kernel), big_s (i := 52) (by decide +kernel) (by decide +kernel)⟩
abbrev mX9_read : MM := (yX9_read, RX9, cX9_read, 2, (some .int))
theorem vX9_read : MV mX9_read 0 := ⟨⟨big_t (i := 926) (by decide +kernel) (by decide +kernel), big_t (i := 9) (by decide +kernel) (by decide +kernel), ⟨by decide +kernel, by decide +kernel, by decide +kernel⟩, by decide +kernel⟩, big_t (i := 924) (by decide +kernel) (by decide +kernel), big_t (i := 925) (by decide +kernel) (by decide +kernel)⟩
abbrev mX9_lenient : MM := (yX9_lenient, RX9, cX9_lenient, 4, (some .int))
theorem vX9_lenient : MV mX9_lenient 0 := ⟨⟨big_t (i := 990) (by decide +kernel) (by decide +kernel), big_t (i := 9) (by decide +kernel) (by decide +kernel), ⟨by decide +kernel, by decide +kernel, by decide +kernel⟩, by decide +kernel⟩, big_t (i := 988) (by decide +kernel) (by decide +kernel), big_t (i := 989) (by decide +kernel) (by decide +kernel)⟩
abbrev mX9_dropped : MM := (yX9_dropped, RX9, cX9_dropped, 2, (some .int))
theorem vX9_dropped : MV mX9_dropped 1 := ⟨⟨big_t (i := 994) (by decide +kernel) (by decide +kernel), big_t (i := 9) (by decide +kernel) (by decide +kernel), ⟨by decide +kernel, by decide +kernel, by decide +kernel⟩, by decide +kernel⟩, big_t (i := 992) (by decide +kernel) (by decide +kernel), big_t (i := 993) (by decide +kernel) (by decide +kernel)⟩
abbrev mX9_isNode : MM := (yX9_isNode, RX9, cX9_isNode, 2, (some .boolean))
theorem vX9_isNode : MV mX9_isNode 1 := ⟨⟨big_t (i := 1002) (by decide +kernel) (by decide +kernel), big_t (i := 9) (by decide +kernel) (by decide +kernel), ⟨by decide +kernel, by decide +kernel, by decide +kernel⟩, by decide +kernel⟩, big_t (i := 1001) (by decide +kernel) (by decide +kernel), big_s (i := 53) (by decide +kernel) (by decide +kernel)⟩
abbrev mX9_node : MM := (yX9_node, RX9, cX9_node, 3, (some .int))
theorem vX9_node : MV mX9_node 2 := ⟨⟨big_t (i := 998) (by decide +kernel) (by decide +kernel), big_t (i := 9) (by decide +kernel) (by decide +kernel), ⟨by decide +kernel, by decide +kernel, by decide +kernel⟩, by decide +kernel⟩, big_t (i := 996) (by decide +kernel) (by decide +kernel), big_t (i := 997) (by decide +kernel) (by decide +kernel)⟩
abbrev mX9_sign : MM := (yX9_sign, RX9, cX9_sign, 4, (some .int))
theorem vX9_sign : MV mX9_sign 3 := ⟨⟨big_t (i := 1006) (by decide +kernel) (by decide +kernel), big_t (i := 9) (by decide +kernel) (by decide +kernel), ⟨by decide +kernel, by decide +kernel, by decide +kernel⟩, by decide +kernel⟩, big_t (i := 1004) (by decide +kernel) (by decide +kernel), big_t (i := 1005) (by decide +kernel) (by decide +kernel)⟩
abbrev mX9_put : MM := (yX9_put, RX9, cX9_put, 2, none)
theorem vX9_put : MV mX9_put 1 := ⟨⟨big_t (i := 1018) (by decide +kernel) (by decide +kernel), big_t (i := 9) (by decide +kernel) (by decide +kernel), ⟨by decide +kernel, by decide +kernel, by decide +kernel⟩, by decide +kernel⟩, big_t (i := 1017) (by decide +kernel) (by decide +kernel), big_s (i := 55) (by decide +kernel) (by decide +kernel)⟩
abbrev mX9_putWord : MM := (yX9_putWord, RX9, cX9_putWord, 4, none)
theorem vX9_putWord : MV mX9_putWord 2 := ⟨⟨big_t (i := 1030) (by decide +kernel) (by decide +kernel), big_t (i := 9) (by decide +kernel) (by decide +kernel), ⟨by decide +kernel, by decide +kernel, by decide +kernel⟩, by decide +kernel⟩, big_t (i := 1029) (by decide +kernel) (by decide +kernel), big_s (i := 58) (by decide +kernel) (by decide +kernel)⟩
abbrev mX9_putBoost : MM := (yX9_putBoost, RX9, cX9_putBoost, 2, none)
theorem vX9_putBoost : MV mX9_putBoost 1 := ⟨⟨big_t (i := 1022) (by decide +kernel) (by decide +kernel), big_t (i := 9) (by decide +kernel) (by decide +kernel), ⟨by decide +kernel, by decide +kernel, by decide +kernel⟩, by decide +kernel⟩, big_t (i := 1021) (by decide +kernel) (by decide +kernel), big_s (i := 56) (by decide +kernel) (by decide +kernel)⟩
abbrev mX9_putCore : MM := (yX9_putCore, RX9, cX9_putCore, 3, none)
theorem vX9_putCore : MV mX9_putCore 1 := ⟨⟨big_t (i := 1026) (by decide +kernel) (by decide +kernel), big_t (i := 9) (by decide +kernel) (by decide +kernel), ⟨by decide +kernel, by decide +kernel, by decide +kernel⟩, by decide +kernel⟩, big_t (i := 1025) (by decide +kernel) (by decide +kernel), big_s (i := 57) (by decide +kernel) (by decide +kernel)⟩
abbrev mX9_closes : MM := (yX9_closes, RX9, cX9_closes, 2, none)
theorem vX9_closes : MV mX9_closes 1 := ⟨⟨big_t (i := 1014) (by decide +kernel) (by decide +kernel), big_t (i := 9) (by decide +kernel) (by decide +kernel), ⟨by decide +kernel, by decide +kernel, by decide +kernel⟩, by decide +kernel⟩, big_t (i := 1013) (by decide +kernel) (by decide +kernel), big_s (i := 54) (by decide +kernel) (by decide +kernel)⟩
abbrev mX9_print : MM := (yX9_print, RX9, cX9_print, 4, (some .int))
theorem vX9_print : MV mX9_print 0 := ⟨⟨big_t (i := 1010) (by decide +kernel) (by decide +kernel), big_t (i := 9) (by decide +kernel) (by decide +kernel), ⟨by decide +kernel, by decide +kernel, by decide +kernel⟩, by decide +kernel⟩, big_t (i := 1008) (by decide +kernel) (by decide +kernel), big_t (i := 1009) (by decide +kernel) (by decide +kernel)⟩
abbrev mX9_out : MM := (yX9_out, RX9, cX9_out, 2, (some .int))
theorem vX9_out : MV mX9_out 1 := ⟨⟨big_t (i := 1034) (by decide +kernel) (by decide +kernel), big_t (i := 9) (by decide +kernel) (by decide +kernel), ⟨by decide +kernel, by decide +kernel, by decide +kernel⟩, by decide +kernel⟩, big_t (i := 1032) (by decide +kernel) (by decide +kernel), big_t (i := 1033) (by decide +kernel) (by decide +kernel)⟩
abbrev mX9_isDocument : MM := (yX9_isDocument, RX9, cX9_isDocument, 1, (some .boolean))
theorem sX9_isDocument : MS mX9_isDocument 1 := ⟨⟨big_t (i := 1041) (by decide +kernel) (by decide +kernel), big_t (i := 9) (by decide +kernel) (by decide +kernel), ⟨by decide +kernel, by decide +kernel, by decide +kernel⟩, by decide +kernel⟩, big_t (i := 1040) (by decide +kernel) (by decide +kernel)⟩
abbrev mX9_word_ : MM := (yX9_word_, RX9, cX9_word_, 10, (some .int))
theorem vX9_word_ : MV mX9_word_ 3 := ⟨⟨big_t (i := 1038) (by decide +kernel) (by decide +kernel), big_t (i := 9) (by decide +kernel) (by decide +kernel), ⟨by decide +kernel, by decide +kernel, by decide +kernel⟩, by decide +kernel⟩, big_t (i := 1036) (by decide +kernel) (by decide +kernel), big_t (i := 1037) (by decide +kernel) (by decide +kernel)⟩
abbrev mX9_clear : MM := (yX9_clear, RX9, cX9_clear, 4, (some .int))
theorem vX9_clear : MV mX9_clear 1 := ⟨⟨big_t (i := 1047) (by decide +kernel) (by decide +kernel), big_t (i := 9) (by decide +kernel) (by decide +kernel), ⟨by decide +kernel, by decide +kernel, by decide +kernel⟩, by decide +kernel⟩, big_t (i := 1045) (by decide +kernel) (by decide +kernel), big_t (i := 1046) (by decide +kernel) (by decide +kernel)⟩
abbrev mX9_against : MM := (yX9_against, RX9, cX9_against, 8, (some .int))
theorem vX9_against : MV mX9_against 3 := ⟨⟨big_t (i := 1071) (by decide +kernel) (by decide +kernel), big_t (i := 9) (by decide +kernel) (by decide +kernel), ⟨by decide +kernel, by decide +kernel, by decide +kernel⟩, by decide +kernel⟩, big_t (i := 1070) (by decide +kernel) (by decide +kernel), big_s (i := 63) (by decide +kernel) (by decide +kernel)⟩
abbrev mX9_least : MM := (yX9_least, RX9, cX9_least, 2, (some .int))
theorem sX9_least : MS mX9_least 2 := ⟨⟨big_t (i := 1082) (by decide +kernel) (by decide +kernel), big_t (i := 9) (by decide +kernel) (by decide +kernel), ⟨by decide +kernel, by decide +kernel, by decide +kernel⟩, by decide +kernel⟩, big_t (i := 1081) (by decide +kernel) (by decide +kernel)⟩
abbrev mX9_changes : MM := (yX9_changes, RX9, cX9_changes, 9, (some .int))
theorem vX9_changes : MV mX9_changes 2 := ⟨⟨big_t (i := 1079) (by decide +kernel) (by decide +kernel), big_t (i := 9) (by decide +kernel) (by decide +kernel), ⟨by decide +kernel, by decide +kernel, by decide +kernel⟩, by decide +kernel⟩, big_t (i := 1078) (by decide +kernel) (by decide +kernel), big_s (i := 65) (by decide +kernel) (by decide +kernel)⟩
abbrev mX9_fitsSigns : MM := (yX9_fitsSigns, RX9, cX9_fitsSigns, 9, (some .boolean))
theorem vX9_fitsSigns : MV mX9_fitsSigns 2 := ⟨⟨big_t (i := 1086) (by decide +kernel) (by decide +kernel), big_t (i := 9) (by decide +kernel) (by decide +kernel), ⟨by decide +kernel, by decide +kernel, by decide +kernel⟩, by decide +kernel⟩, big_t (i := 1085) (by decide +kernel) (by decide +kernel), big_s (i := 66) (by decide +kernel) (by decide +kernel)⟩
abbrev mX9_fitsWord : MM := (yX9_fitsWord, RX9, cX9_fitsWord, 5, (some .boolean))
theorem vX9_fitsWord : MV mX9_fitsWord 2 := ⟨⟨big_t (i := 1075) (by decide +kernel) (by decide +kernel), big_t (i := 9) (by decide +kernel) (by decide +kernel), ⟨by decide +kernel, by decide +kernel, by decide +kernel⟩, by decide +kernel⟩, big_t (i := 1074) (by decide +kernel) (by decide +kernel), big_s (i := 64) (by decide +kernel) (by decide +kernel)⟩
abbrev mX9_quoteAt : MM := (yX9_quoteAt, RX9, cX9_quoteAt, 7, (some .boolean))
theorem vX9_quoteAt : MV mX9_quoteAt 4 := ⟨⟨big_t (i := 1067) (by decide +kernel) (by decide +kernel), big_t (i := 9) (by decide +kernel) (by decide +kernel), ⟨by decide +kernel, by decide +kernel, by decide +kernel⟩, by decide +kernel⟩, big_t (i := 1066) (by decide +kernel) (by decide +kernel), big_s (i := 62) (by decide +kernel) (by decide +kernel)⟩
abbrev mX9_countOf : MM := (yX9_countOf, RX9, cX9_countOf, 9, (some .int))
theorem vX9_countOf : MV mX9_countOf 2 := ⟨⟨big_t (i := 1063) (by decide +kernel) (by decide +kernel), big_t (i := 9) (by decide +kernel) (by decide +kernel), ⟨by decide +kernel, by decide +kernel, by decide +kernel⟩, by decide +kernel⟩, big_t (i := 1062) (by decide +kernel) (by decide +kernel), big_s (i := 61) (by decide +kernel) (by decide +kernel)⟩
abbrev mX9_reckonGroup : MM := (yX9_reckonGroup, RX9, cX9_reckonGroup, 9, none)
theorem vX9_reckonGroup : MV mX9_reckonGroup 1 := ⟨⟨big_t (i := 1059) (by decide +kernel) (by decide +kernel), big_t (i := 9) (by decide +kernel) (by decide +kernel), ⟨by decide +kernel, by decide +kernel, by decide +kernel⟩, by decide +kernel⟩, big_t (i := 1058) (by decide +kernel) (by decide +kernel), big_s (i := 60) (by decide +kernel) (by decide +kernel)⟩
abbrev mX9_reckon : MM := (yX9_reckon, RX9, cX9_reckon, 4, none)
theorem vX9_reckon : MV mX9_reckon 1 := ⟨⟨big_t (i := 1055) (by decide +kernel) (by decide +kernel), big_t (i := 9) (by decide +kernel) (by decide +kernel), ⟨by decide +kernel, by decide +kernel, by decide +kernel⟩, by decide +kernel⟩, big_t (i := 1054) (by decide +kernel) (by decide +kernel), big_s (i := 59) (by decide +kernel) (by decide +kernel)⟩
abbrev mX9_fits : MM := (yX9_fits, RX9, cX9_fits, 3, (some .int))
theorem vX9_fits : MV mX9_fits 2 := ⟨⟨big_t (i := 1051) (by decide +kernel) (by decide +kernel), big_t (i := 9) (by decide +kernel) (by decide +kernel), ⟨by decide +kernel, by decide +kernel, by decide +kernel⟩, by decide +kernel⟩, big_t (i := 1049) (by decide +kernel) (by decide +kernel), big_t (i := 1050) (by decide +kernel) (by decide +kernel)⟩
abbrev mX9_worth : MM := (yX9_worth, RX9, cX9_worth, 3, (some .long))
theorem vX9_worth : MV mX9_worth 2 := ⟨⟨big_t (i := 1090) (by decide +kernel) (by decide +kernel), big_t (i := 9) (by decide +kernel) (by decide +kernel), ⟨by decide +kernel, by decide +kernel, by decide +kernel⟩, by decide +kernel⟩, big_t (i := 1088) (by decide +kernel) (by decide +kernel), big_t (i := 1089) (by decide +kernel) (by decide +kernel)⟩
abbrev mX9_ratio : MM := (yX9_ratio, RX9, cX9_ratio, 5, (some .long))
theorem vX9_ratio : MV mX9_ratio 2 := ⟨⟨big_t (i := 1095) (by decide +kernel) (by decide +kernel), big_t (i := 9) (by decide +kernel) (by decide +kernel), ⟨by decide +kernel, by decide +kernel, by decide +kernel⟩, by decide +kernel⟩, big_t (i := 1093) (by decide +kernel) (by decide +kernel), big_t (i := 1094) (by decide +kernel) (by decide +kernel)⟩
abbrev mX9_why : MM := (yX9_why, RX9, cX9_why, 4, (some .int))
theorem vX9_why : MV mX9_why 1 := ⟨⟨big_t (i := 1100) (by decide +kernel) (by decide +kernel), big_t (i := 9) (by decide +kernel) (by decide +kernel), ⟨by decide +kernel, by decide +kernel, by decide +kernel⟩, by decide +kernel⟩, big_t (i := 1098) (by decide +kernel) (by decide +kernel), big_t (i := 1099) (by decide +kernel) (by decide +kernel)⟩
abbrev mX9_rank : MM := (yX9_rank, RX9, cX9_rank, 6, (some .int))
theorem vX9_rank : MV mX9_rank 1 := ⟨⟨big_t (i := 1104) (by decide +kernel) (by decide +kernel), big_t (i := 9) (by decide +kernel) (by decide +kernel), ⟨by decide +kernel, by decide +kernel, by decide +kernel⟩, by decide +kernel⟩, big_t (i := 1102) (by decide +kernel) (by decide +kernel), big_t (i := 1103) (by decide +kernel) (by decide +kernel)⟩
abbrev mJx00060_init_a7421 : MM := (yJx00060_init_a7421, RJx00060, cJx00060_init_a7421, 2, none)
theorem iJx00060_init_a7421 : MI mJx00060_init_a7421 1 := ⟨⟨big_t (i := 592) (by decide +kernel) (by decide +kernel), big_t (i := 16) (by decide +kernel) (by decide +kernel), ⟨by decide +kernel, by decide +kernel, by decide +kernel⟩, by decide +kernel⟩, big_t (i := 591) (by decide +kernel) (by decide +kernel), by decide +kernel, rfl⟩
abbrev mJx3273f_init_a7421 : MM := (yJx3273f_init_a7421, RJx3273f, cJx3273f_init_a7421, 2, none)
theorem iJx3273f_init_a7421 : MI mJx3273f_init_a7421 1 := ⟨⟨big_t (i := 689) (by decide +kernel) (by decide +kernel), big_t (i := 18) (by decide +kernel) (by decide +kernel), ⟨by decide +kernel, by decide +kernel, by decide +kernel⟩, by decide +kernel⟩, big_t (i := 688) (by decide +kernel) (by decide +kernel), by decide +kernel, rfl⟩
abbrev mJ9_floorDiv_f86c9 : MM := (yJ9_floorDiv_f86c9, RJ9, cJ9_floorDiv_f86c9, 6, (some .long))
theorem sJ9_floorDiv_f86c9 : MS mJ9_floorDiv_f86c9 2 := ⟨⟨big_t (i := 785) (by decide +kernel) (by decide +kernel), big_t (i := 20) (by decide +kernel) (by decide +kernel), ⟨by decide +kernel, by decide +kernel, by decide +kernel⟩, by decide +kernel⟩, big_t (i := 784) (by decide +kernel) (by decide +kernel)⟩
abbrev mJ9_max_f86c9 : MM := (yJ9_max_f86c9, RJ9, cJ9_max_f86c9, 4, (some .long))
theorem sJ9_max_f86c9 : MS mJ9_max_f86c9 2 := ⟨⟨big_t (i := 507) (by decide +kernel) (by decide +kernel), big_t (i := 20) (by decide +kernel) (by decide +kernel), ⟨by decide +kernel, by decide +kernel, by decide +kernel⟩, by decide +kernel⟩, big_t (i := 506) (by decide +kernel) (by decide +kernel)⟩
abbrev mJ9_min_7cf53 : MM := (yJ9_min_7cf53, RJ9, cJ9_min_7cf53, 2, (some .int))
theorem sJ9_min_7cf53 : MS mJ9_min_7cf53 2 := ⟨⟨big_t (i := 537) (by decide +kernel) (by decide +kernel), big_t (i := 20) (by decide +kernel) (by decide +kernel), ⟨by decide +kernel, by decide +kernel, by decide +kernel⟩, by decide +kernel⟩, big_t (i := 536) (by decide +kernel) (by decide +kernel)⟩
abbrev mJx5d777_init_da8c8 : MM := (yJx5d777_init_da8c8, RJx5d777, cJx5d777_init_da8c8, 1, none)
theorem iJx5d777_init_da8c8 : MI mJx5d777_init_da8c8 0 := ⟨⟨big_t (i := 715) (by decide +kernel) (by decide +kernel), big_t (i := 19) (by decide +kernel) (by decide +kernel), ⟨by decide +kernel, by decide +kernel, by decide +kernel⟩, by decide +kernel⟩, big_t (i := 714) (by decide +kernel) (by decide +kernel), by decide +kernel, rfl⟩
abbrev mJx5d777_init_a7421 : MM := (yJx5d777_init_a7421, RJx5d777, cJx5d777_init_a7421, 2, none)
theorem iJx5d777_init_a7421 : MI mJx5d777_init_a7421 1 := ⟨⟨big_t (i := 751) (by decide +kernel) (by decide +kernel), big_t (i := 19) (by decide +kernel) (by decide +kernel), ⟨by decide +kernel, by decide +kernel, by decide +kernel⟩, by decide +kernel⟩, big_t (i := 750) (by decide +kernel) (by decide +kernel), by decide +kernel, rfl⟩
abbrev mJ7_fill_d0a16 : MM := (yJ7_fill_d0a16, RJ7, cJ7_fill_d0a16, 5, none)
theorem sJ7_fill_d0a16 : MS mJ7_fill_d0a16 2 := ⟨⟨big_t (i := 256) (by decide +kernel) (by decide +kernel), big_t (i := 10) (by decide +kernel) (by decide +kernel), ⟨by decide +kernel, by decide +kernel, by decide +kernel⟩, by decide +kernel⟩, big_t (i := 255) (by decide +kernel) (by decide +kernel)⟩
theorem ii_L : Cond.initialized RL ∈ BIG := big_t (i := 0) (by decide +kernel) (by decide +kernel)
theorem ii_X8 : Cond.initialized RX8 ∈ BIG := big_t (i := 1) (by decide +kernel) (by decide +kernel)
theorem ii_X7 : Cond.initialized RX7 ∈ BIG := big_t (i := 2) (by decide +kernel) (by decide +kernel)
theorem ii_X0 : Cond.initialized RX0 ∈ BIG := big_t (i := 3) (by decide +kernel) (by decide +kernel)
theorem ii_X4 : Cond.initialized RX4 ∈ BIG := big_t (i := 4) (by decide +kernel) (by decide +kernel)
theorem ii_X5 : Cond.initialized RX5 ∈ BIG := big_t (i := 5) (by decide +kernel) (by decide +kernel)
theorem ii_X1 : Cond.initialized RX1 ∈ BIG := big_t (i := 6) (by decide +kernel) (by decide +kernel)
theorem ii_X6 : Cond.initialized RX6 ∈ BIG := big_t (i := 7) (by decide +kernel) (by decide +kernel)
theorem ii_X3 : Cond.initialized RX3 ∈ BIG := big_t (i := 8) (by decide +kernel) (by decide +kernel)
theorem ii_X9 : Cond.initialized RX9 ∈ BIG := big_t (i := 9) (by decide +kernel) (by decide +kernel)
theorem ii_J7 : Cond.initialized RJ7 ∈ BIG := big_t (i := 10) (by decide +kernel) (by decide +kernel)
theorem ii_X2 : Cond.initialized RX2 ∈ BIG := big_t (i := 11) (by decide +kernel) (by decide +kernel)
theorem ii_Jx00060 : Cond.initialized RJx00060 ∈ BIG := big_t (i := 16) (by decide +kernel) (by decide +kernel)
theorem ii_J0 : Cond.initialized RJ0 ∈ BIG := big_t (i := 17) (by decide +kernel) (by decide +kernel)
theorem ii_Jx3273f : Cond.initialized RJx3273f ∈ BIG := big_t (i := 18) (by decide +kernel) (by decide +kernel)
theorem ii_Jx5d777 : Cond.initialized RJx5d777 ∈ BIG := big_t (i := 19) (by decide +kernel) (by decide +kernel)
theorem ii_J9 : Cond.initialized RJ9 ∈ BIG := big_t (i := 20) (by decide +kernel) (by decide +kernel)
theorem cl_L_8 : Cond.classLink RL 8 RX8 ∈ BIG := big_t (i := 22) (by decide +kernel) (by decide +kernel)
theorem in_X8 : Cond.instantiable RX8 10 ∈ BIG := big_t (i := 23) (by decide +kernel) (by decide +kernel)
theorem ml_L_33 : Cond.methodLink RL 33 yX8_init ∈ BIG := big_t (i := 24) (by decide +kernel) (by decide +kernel)
theorem ml_X8_1 : Cond.methodLink RX8 1 ⟨"java/lang/Object", "<init>", "()V"⟩ ∈ BIG := big_t (i := 27) (by decide +kernel) (by decide +kernel)
theorem cl_X8_27 : Cond.classLink RX8 27 RX7 ∈ BIG := big_t (i := 30) (by decide +kernel) (by decide +kernel)
theorem in_X7 : Cond.instantiable RX7 2 ∈ BIG := big_t (i := 31) (by decide +kernel) (by decide +kernel)
theorem ml_X8_29 : Cond.methodLink RX8 29 yX7_init ∈ BIG := big_t (i := 32) (by decide +kernel) (by decide +kernel)
theorem ml_X7_3 : Cond.methodLink RX7 3 ⟨"java/lang/Object", "<init>", "()V"⟩ ∈ BIG := big_t (i := 35) (by decide +kernel) (by decide +kernel)
theorem cl_X7_9 : Cond.classLink RX7 9 RX0 ∈ BIG := big_t (i := 36) (by decide +kernel) (by decide +kernel)
theorem in_X0 : Cond.instantiable RX0 8 ∈ BIG := big_t (i := 38) (by decide +kernel) (by decide +kernel)
theorem ml_X0_3 : Cond.methodLink RX0 3 ⟨"java/lang/Object", "<init>", "()V"⟩ ∈ BIG := big_t (i := 42) (by decide +kernel) (by decide +kernel)
theorem cl_X8_34 : Cond.classLink RX8 34 RX4 ∈ BIG := big_t (i := 115) (by decide +kernel) (by decide +kernel)
theorem in_X4 : Cond.instantiable RX4 8 ∈ BIG := big_t (i := 116) (by decide +kernel) (by decide +kernel)
theorem ml_X4_3 : Cond.methodLink RX4 3 ⟨"java/lang/Object", "<init>", "()V"⟩ ∈ BIG := big_t (i := 120) (by decide +kernel) (by decide +kernel)
theorem cl_X4_9 : Cond.classLink RX4 9 RX7 ∈ BIG := big_t (i := 121) (by decide +kernel) (by decide +kernel)
theorem ml_X4_11 : Cond.methodLink RX4 11 yX7_init ∈ BIG := big_t (i := 122) (by decide +kernel) (by decide +kernel)
theorem cl_X4_28 : Cond.classLink RX4 28 RX0 ∈ BIG := big_t (i := 123) (by decide +kernel) (by decide +kernel)
theorem cl_X8_41 : Cond.classLink RX8 41 RX5 ∈ BIG := big_t (i := 150) (by decide +kernel) (by decide +kernel)
theorem in_X5 : Cond.instantiable RX5 2 ∈ BIG := big_t (i := 151) (by decide +kernel) (by decide +kernel)
theorem ml_X5_3 : Cond.methodLink RX5 3 ⟨"java/lang/Object", "<init>", "()V"⟩ ∈ BIG := big_t (i := 155) (by decide +kernel) (by decide +kernel)
theorem cl_X8_48 : Cond.classLink RX8 48 RX1 ∈ BIG := big_t (i := 163) (by decide +kernel) (by decide +kernel)
theorem in_X1 : Cond.instantiable RX1 3 ∈ BIG := big_t (i := 164) (by decide +kernel) (by decide +kernel)
theorem ml_X1_3 : Cond.methodLink RX1 3 ⟨"java/lang/Object", "<init>", "()V"⟩ ∈ BIG := big_t (i := 168) (by decide +kernel) (by decide +kernel)
theorem cl_X1_9 : Cond.classLink RX1 9 RX6 ∈ BIG := big_t (i := 169) (by decide +kernel) (by decide +kernel)
theorem in_X6 : Cond.instantiable RX6 2 ∈ BIG := big_t (i := 170) (by decide +kernel) (by decide +kernel)
theorem ml_X6_3 : Cond.methodLink RX6 3 ⟨"java/lang/Object", "<init>", "()V"⟩ ∈ BIG := big_t (i := 174) (by decide +kernel) (by decide +kernel)
theorem cl_X1_18 : Cond.classLink RX1 18 RX3 ∈ BIG := big_t (i := 182) (by decide +kernel) (by decide +kernel)
theorem in_X3 : Cond.instantiable RX3 1 ∈ BIG := big_t (i := 183) (by decide +kernel) (by decide +kernel)
theorem ml_X3_3 : Cond.methodLink RX3 3 ⟨"java/lang/Object", "<init>", "()V"⟩ ∈ BIG := big_t (i := 187) (by decide +kernel) (by decide +kernel)
theorem ml_L_39 : Cond.methodLink RL 39 yX8_feed ∈ BIG := big_t (i := 234) (by decide +kernel) (by decide +kernel)
theorem ml_L_44 : Cond.methodLink RL 44 yX8_read ∈ BIG := big_t (i := 238) (by decide +kernel) (by decide +kernel)
theorem ml_X8_59 : Cond.methodLink RX8 59 yX4_begin ∈ BIG := big_t (i := 242) (by decide +kernel) (by decide +kernel)
theorem ml_X4_45 : Cond.methodLink RX4 45 yX7_begin ∈ BIG := big_t (i := 246) (by decide +kernel) (by decide +kernel)
theorem ml_X7_22 : Cond.methodLink RX7 22 yX0_start ∈ BIG := big_t (i := 250) (by decide +kernel) (by decide +kernel)
theorem ml_X0_37 : Cond.methodLink RX0 37 yJ7_fill_d0a16 ∈ BIG := big_t (i := 254) (by decide +kernel) (by decide +kernel)
theorem ml_X8_62 : Cond.methodLink RX8 62 yX4_takes ∈ BIG := big_t (i := 257) (by decide +kernel) (by decide +kernel)
theorem ml_X4_55 : Cond.methodLink RX4 55 yX4_takesInGap ∈ BIG := big_t (i := 261) (by decide +kernel) (by decide +kernel)
theorem ml_X4_48 : Cond.methodLink RX4 48 yX7_at ∈ BIG := big_t (i := 265) (by decide +kernel) (by decide +kernel)
theorem ml_X4_106 : Cond.methodLink RX4 106 yX4_closeGroup ∈ BIG := big_t (i := 269) (by decide +kernel) (by decide +kernel)
theorem ml_X4_82 : Cond.methodLink RX4 82 yX4_goTo ∈ BIG := big_t (i := 273) (by decide +kernel) (by decide +kernel)
theorem ml_X4_110 : Cond.methodLink RX4 110 yX7_hasRoom ∈ BIG := big_t (i := 277) (by decide +kernel) (by decide +kernel)
theorem ml_X4_59 : Cond.methodLink RX4 59 yX4_canBeginCore ∈ BIG := big_t (i := 281) (by decide +kernel) (by decide +kernel)
theorem ml_X4_117 : Cond.methodLink RX4 117 yX2_isSign ∈ BIG := big_t (i := 285) (by decide +kernel) (by decide +kernel)
theorem ml_X2_9 : Cond.methodLink RX2 9 yX2_isLetter ∈ BIG := big_t (i := 288) (by decide +kernel) (by decide +kernel)
theorem ml_X4_113 : Cond.methodLink RX4 113 yX7_add ∈ BIG := big_t (i := 291) (by decide +kernel) (by decide +kernel)
theorem ml_X7_32 : Cond.methodLink RX7 32 yX7_at ∈ BIG := big_t (i := 295) (by decide +kernel) (by decide +kernel)
theorem ml_X4_63 : Cond.methodLink RX4 63 yX4_beginCore ∈ BIG := big_t (i := 296) (by decide +kernel) (by decide +kernel)
theorem ml_X4_122 : Cond.methodLink RX4 122 yX4_openGroup ∈ BIG := big_t (i := 300) (by decide +kernel) (by decide +kernel)
theorem ml_X4_91 : Cond.methodLink RX4 91 yX4_beginWord ∈ BIG := big_t (i := 304) (by decide +kernel) (by decide +kernel)
theorem ml_X4_131 : Cond.methodLink RX4 131 yX4_takeSign ∈ BIG := big_t (i := 308) (by decide +kernel) (by decide +kernel)
theorem ml_X4_140 : Cond.methodLink RX4 140 yX2_isLetter ∈ BIG := big_t (i := 312) (by decide +kernel) (by decide +kernel)
theorem ml_X4_143 : Cond.methodLink RX4 143 yX0_addSign ∈ BIG := big_t (i := 313) (by decide +kernel) (by decide +kernel)
theorem ml_X4_66 : Cond.methodLink RX4 66 yX4_takesInWord ∈ BIG := big_t (i := 317) (by decide +kernel) (by decide +kernel)
theorem ml_X4_147 : Cond.methodLink RX4 147 yX4_isFieldLetter ∈ BIG := big_t (i := 321) (by decide +kernel) (by decide +kernel)
theorem ml_X4_153 : Cond.methodLink RX4 153 yX0_wordAt ∈ BIG := big_t (i := 325) (by decide +kernel) (by decide +kernel)
theorem ml_X4_157 : Cond.methodLink RX4 157 yX2_signAt ∈ BIG := big_t (i := 329) (by decide +kernel) (by decide +kernel)
theorem ml_X4_150 : Cond.methodLink RX4 150 yX4_takeField ∈ BIG := big_t (i := 332) (by decide +kernel) (by decide +kernel)
theorem ml_X4_164 : Cond.methodLink RX4 164 yX0_turnToField ∈ BIG := big_t (i := 336) (by decide +kernel) (by decide +kernel)
theorem ml_X0_43 : Cond.methodLink RX0 43 yX2_signAt ∈ BIG := big_t (i := 340) (by decide +kernel) (by decide +kernel)
theorem ml_X4_85 : Cond.methodLink RX4 85 yX4_takesTail ∈ BIG := big_t (i := 341) (by decide +kernel) (by decide +kernel)
theorem ml_X4_103 : Cond.methodLink RX4 103 yX4_takesEnd ∈ BIG := big_t (i := 345) (by decide +kernel) (by decide +kernel)
theorem ml_X4_69 : Cond.methodLink RX4 69 yX4_takesDetail ∈ BIG := big_t (i := 349) (by decide +kernel) (by decide +kernel)
theorem ml_X4_73 : Cond.methodLink RX4 73 yX4_takesLetter ∈ BIG := big_t (i := 353) (by decide +kernel) (by decide +kernel)
theorem ml_X4_76 : Cond.methodLink RX4 76 yX4_takesInQuote ∈ BIG := big_t (i := 357) (by decide +kernel) (by decide +kernel)
theorem ml_X4_79 : Cond.methodLink RX4 79 yX4_takesInQuoteGap ∈ BIG := big_t (i := 361) (by decide +kernel) (by decide +kernel)
theorem ml_X4_88 : Cond.methodLink RX4 88 yX4_takesInSpan ∈ BIG := big_t (i := 365) (by decide +kernel) (by decide +kernel)
theorem ml_X4_94 : Cond.methodLink RX4 94 yX4_isFigure ∈ BIG := big_t (i := 369) (by decide +kernel) (by decide +kernel)
theorem ml_X4_97 : Cond.methodLink RX4 97 yX4_takeBoost ∈ BIG := big_t (i := 372) (by decide +kernel) (by decide +kernel)
theorem ml_X8_66 : Cond.methodLink RX8 66 yX4_isWhole ∈ BIG := big_t (i := 376) (by decide +kernel) (by decide +kernel)
theorem ml_X8_70 : Cond.methodLink RX8 70 yX8_adoptReading ∈ BIG := big_t (i := 380) (by decide +kernel) (by decide +kernel)
theorem ml_X8_78 : Cond.methodLink RX8 78 yX4_exchange ∈ BIG := big_t (i := 384) (by decide +kernel) (by decide +kernel)
theorem ml_L_49 : Cond.methodLink RL 49 yX8_lenient ∈ BIG := big_t (i := 388) (by decide +kernel) (by decide +kernel)
theorem ml_X8_74 : Cond.methodLink RX8 74 yX8_drop ∈ BIG := big_t (i := 392) (by decide +kernel) (by decide +kernel)
theorem ml_L_53 : Cond.methodLink RL 53 yX8_dropped ∈ BIG := big_t (i := 396) (by decide +kernel) (by decide +kernel)
theorem ml_L_70 : Cond.methodLink RL 70 yX8_print ∈ BIG := big_t (i := 400) (by decide +kernel) (by decide +kernel)
theorem ml_X8_139 : Cond.methodLink RX8 139 yX7_isEmpty ∈ BIG := big_t (i := 404) (by decide +kernel) (by decide +kernel)
theorem ml_X8_142 : Cond.methodLink RX8 142 yX5_write ∈ BIG := big_t (i := 408) (by decide +kernel) (by decide +kernel)
theorem ml_X5_24 : Cond.methodLink RX5 24 yX7_at ∈ BIG := big_t (i := 412) (by decide +kernel) (by decide +kernel)
theorem ml_X5_33 : Cond.methodLink RX5 33 yX5_closeGroups ∈ BIG := big_t (i := 413) (by decide +kernel) (by decide +kernel)
theorem ml_X5_37 : Cond.methodLink RX5 37 yX5_put ∈ BIG := big_t (i := 417) (by decide +kernel) (by decide +kernel)
theorem ml_X5_54 : Cond.methodLink RX5 54 yX5_putTold ∈ BIG := big_t (i := 421) (by decide +kernel) (by decide +kernel)
theorem ml_X5_41 : Cond.methodLink RX5 41 yX5_putHead ∈ BIG := big_t (i := 425) (by decide +kernel) (by decide +kernel)
theorem ml_X5_48 : Cond.methodLink RX5 48 yX5_putCore ∈ BIG := big_t (i := 429) (by decide +kernel) (by decide +kernel)
theorem ml_X5_67 : Cond.methodLink RX5 67 yX5_putQuote ∈ BIG := big_t (i := 433) (by decide +kernel) (by decide +kernel)
theorem ml_X5_73 : Cond.methodLink RX5 73 yX0_wordAt ∈ BIG := big_t (i := 437) (by decide +kernel) (by decide +kernel)
theorem ml_X5_77 : Cond.methodLink RX5 77 yX5_putWord ∈ BIG := big_t (i := 438) (by decide +kernel) (by decide +kernel)
theorem ml_X5_84 : Cond.methodLink RX5 84 yX2_lengthOf ∈ BIG := big_t (i := 442) (by decide +kernel) (by decide +kernel)
theorem ml_X2_15 : Cond.methodLink RX2 15 yX2_signAt ∈ BIG := big_t (i := 445) (by decide +kernel) (by decide +kernel)
theorem ml_X5_90 : Cond.methodLink RX5 90 yX2_signAt ∈ BIG := big_t (i := 446) (by decide +kernel) (by decide +kernel)
theorem ml_X5_70 : Cond.methodLink RX5 70 yX5_putSpan ∈ BIG := big_t (i := 447) (by decide +kernel) (by decide +kernel)
theorem ml_L_78 : Cond.methodLink RL 78 yX8_word ∈ BIG := big_t (i := 451) (by decide +kernel) (by decide +kernel)
theorem ml_X8_160 : Cond.methodLink RX8 160 yX8_isDocument ∈ BIG := big_t (i := 455) (by decide +kernel) (by decide +kernel)
theorem ml_X8_163 : Cond.methodLink RX8 163 yX2_isPlain ∈ BIG := big_t (i := 458) (by decide +kernel) (by decide +kernel)
theorem ml_X8_171 : Cond.methodLink RX8 171 yX2_moveAhead ∈ BIG := big_t (i := 461) (by decide +kernel) (by decide +kernel)
theorem ml_X8_175 : Cond.methodLink RX8 175 yX6_add ∈ BIG := big_t (i := 464) (by decide +kernel) (by decide +kernel)
theorem ml_X6_19 : Cond.methodLink RX6 19 yX6_countOf ∈ BIG := big_t (i := 468) (by decide +kernel) (by decide +kernel)
theorem ml_L_83 : Cond.methodLink RL 83 yX8_clear ∈ BIG := big_t (i := 472) (by decide +kernel) (by decide +kernel)
theorem ml_X8_181 : Cond.methodLink RX8 181 yX6_empty ∈ BIG := big_t (i := 476) (by decide +kernel) (by decide +kernel)
theorem ml_L_87 : Cond.methodLink RL 87 yX8_fits ∈ BIG := big_t (i := 480) (by decide +kernel) (by decide +kernel)
theorem ml_X8_85 : Cond.methodLink RX8 85 yX7_has ∈ BIG := big_t (i := 484) (by decide +kernel) (by decide +kernel)
theorem ml_X8_184 : Cond.methodLink RX8 184 yX1_weigh ∈ BIG := big_t (i := 488) (by decide +kernel) (by decide +kernel)
theorem ml_X1_35 : Cond.methodLink RX1 35 yX7_at ∈ BIG := big_t (i := 492) (by decide +kernel) (by decide +kernel)
theorem ml_X1_44 : Cond.methodLink RX1 44 yX1_groupValue ∈ BIG := big_t (i := 493) (by decide +kernel) (by decide +kernel)
theorem ml_X1_65 : Cond.methodLink RX1 65 yX1_valueAt ∈ BIG := big_t (i := 497) (by decide +kernel) (by decide +kernel)
theorem kl_X1_60 : Cond.constantLong RX1 60 (-1) ∈ BIG := big_t (i := 501) (by decide +kernel) (by decide +kernel)
theorem ml_X1_75 : Cond.methodLink RX1 75 yX1_isFault ∈ BIG := big_t (i := 502) (by decide +kernel) (by decide +kernel)
theorem ml_X1_79 : Cond.methodLink RX1 79 yJ9_max_f86c9 ∈ BIG := big_t (i := 505) (by decide +kernel) (by decide +kernel)
theorem ml_X1_48 : Cond.methodLink RX1 48 yX1_setValue ∈ BIG := big_t (i := 508) (by decide +kernel) (by decide +kernel)
theorem ml_X1_52 : Cond.methodLink RX1 52 yX7_fieldOf ∈ BIG := big_t (i := 512) (by decide +kernel) (by decide +kernel)
theorem ml_X7_45 : Cond.methodLink RX7 45 yX7_has ∈ BIG := big_t (i := 516) (by decide +kernel) (by decide +kernel)
theorem ml_X1_56 : Cond.methodLink RX1 56 yX1_countFits ∈ BIG := big_t (i := 517) (by decide +kernel) (by decide +kernel)
theorem ml_X1_88 : Cond.methodLink RX1 88 yX1_countQuotes ∈ BIG := big_t (i := 521) (by decide +kernel) (by decide +kernel)
theorem ml_X1_95 : Cond.methodLink RX1 95 yX6_countOf ∈ BIG := big_t (i := 525) (by decide +kernel) (by decide +kernel)
theorem ml_X1_99 : Cond.methodLink RX1 99 yX6_wordAt ∈ BIG := big_t (i := 526) (by decide +kernel) (by decide +kernel)
theorem ml_X1_107 : Cond.methodLink RX1 107 yX0_wordAt ∈ BIG := big_t (i := 530) (by decide +kernel) (by decide +kernel)
theorem ml_X1_109 : Cond.methodLink RX1 109 yX1_quoteStands ∈ BIG := big_t (i := 531) (by decide +kernel) (by decide +kernel)
theorem ml_X1_116 : Cond.methodLink RX1 116 yJ9_min_7cf53 ∈ BIG := big_t (i := 535) (by decide +kernel) (by decide +kernel)
theorem ml_X1_92 : Cond.methodLink RX1 92 yX1_countWords ∈ BIG := big_t (i := 538) (by decide +kernel) (by decide +kernel)
theorem ml_X1_103 : Cond.methodLink RX1 103 yX3_isFor ∈ BIG := big_t (i := 542) (by decide +kernel) (by decide +kernel)
theorem ml_X3_21 : Cond.methodLink RX3 21 yX3_isWithin ∈ BIG := big_t (i := 546) (by decide +kernel) (by decide +kernel)
theorem ml_X3_28 : Cond.methodLink RX3 28 yX0_wordAt ∈ BIG := big_t (i := 549) (by decide +kernel) (by decide +kernel)
theorem ml_X3_32 : Cond.methodLink RX3 32 yX3_changes ∈ BIG := big_t (i := 550) (by decide +kernel) (by decide +kernel)
theorem ml_X3_40 : Cond.methodLink RX3 40 yX2_lengthOf ∈ BIG := big_t (i := 554) (by decide +kernel) (by decide +kernel)
theorem ml_X3_46 : Cond.methodLink RX3 46 yX2_signAt ∈ BIG := big_t (i := 555) (by decide +kernel) (by decide +kernel)
theorem ml_X3_50 : Cond.methodLink RX3 50 yJ9_min_7cf53 ∈ BIG := big_t (i := 556) (by decide +kernel) (by decide +kernel)
theorem ml_X3_36 : Cond.methodLink RX3 36 yX3_hasSigns ∈ BIG := big_t (i := 557) (by decide +kernel) (by decide +kernel)
theorem ml_X3_56 : Cond.methodLink RX3 56 yX3_placesOf ∈ BIG := big_t (i := 560) (by decide +kernel) (by decide +kernel)
theorem kl_X8_188 : Cond.constantLong RX8 188 (-1) ∈ BIG := big_t (i := 563) (by decide +kernel) (by decide +kernel)
theorem ml_L_91 : Cond.methodLink RL 91 yX8_worth ∈ BIG := big_t (i := 564) (by decide +kernel) (by decide +kernel)
theorem kl_X8_190 : Cond.constantLong RX8 190 (-101) ∈ BIG := big_t (i := 568) (by decide +kernel) (by decide +kernel)
theorem ml_X8_192 : Cond.methodLink RX8 192 yJ9_max_f86c9 ∈ BIG := big_t (i := 569) (by decide +kernel) (by decide +kernel)
theorem ml_L_98 : Cond.methodLink RL 98 yX8_why ∈ BIG := big_t (i := 570) (by decide +kernel) (by decide +kernel)
theorem ml_X8_208 : Cond.methodLink RX8 208 yX1_firstFault ∈ BIG := big_t (i := 574) (by decide +kernel) (by decide +kernel)
theorem ml_L_102 : Cond.methodLink RL 102 yX8_rank ∈ BIG := big_t (i := 578) (by decide +kernel) (by decide +kernel)
theorem ml_X8_212 : Cond.methodLink RX8 212 yX8_countAhead ∈ BIG := big_t (i := 582) (by decide +kernel) (by decide +kernel)
theorem ml_L_57 : Cond.methodLink RL 57 yL_node ∈ BIG := big_t (i := 586) (by decide +kernel) (by decide +kernel)
theorem cl_L_13 : Cond.classLink RL 13 RJx00060 ∈ BIG := big_t (i := 589) (by decide +kernel) (by decide +kernel)
theorem in_Jx00060 : Cond.instantiable RJx00060 6 ∈ BIG := big_t (i := 590) (by decide +kernel) (by decide +kernel)
theorem in_Jx5d777 : Cond.instantiable RJx5d777 8 ∈ BIG := big_t (i := 622) (by decide +kernel) (by decide +kernel)
theorem in_J0 : Cond.instantiable RJ0 4 ∈ BIG := big_t (i := 670) (by decide +kernel) (by decide +kernel)
theorem ml_L_7 : Cond.methodLink RL 7 yX8_node ∈ BIG := big_t (i := 675) (by decide +kernel) (by decide +kernel)
theorem cl_X8_88 : Cond.classLink RX8 88 RJx00060 ∈ BIG := big_t (i := 679) (by decide +kernel) (by decide +kernel)
theorem ml_X8_92 : Cond.methodLink RX8 92 yJx00060_init_a7421 ∈ BIG := big_t (i := 681) (by decide +kernel) (by decide +kernel)
theorem ml_X8_95 : Cond.methodLink RX8 95 yX7_at ∈ BIG := big_t (i := 682) (by decide +kernel) (by decide +kernel)
theorem ml_L_66 : Cond.methodLink RL 66 yL_sign ∈ BIG := big_t (i := 683) (by decide +kernel) (by decide +kernel)
theorem cl_L_19 : Cond.classLink RL 19 RJx3273f ∈ BIG := big_t (i := 686) (by decide +kernel) (by decide +kernel)
theorem in_Jx3273f : Cond.instantiable RJx3273f 6 ∈ BIG := big_t (i := 687) (by decide +kernel) (by decide +kernel)
theorem ml_L_15 : Cond.methodLink RL 15 yX8_sign ∈ BIG := big_t (i := 700) (by decide +kernel) (by decide +kernel)
theorem cl_X8_122 : Cond.classLink RX8 122 RJx3273f ∈ BIG := big_t (i := 704) (by decide +kernel) (by decide +kernel)
theorem ml_X8_126 : Cond.methodLink RX8 126 yJx3273f_init_a7421 ∈ BIG := big_t (i := 706) (by decide +kernel) (by decide +kernel)
theorem ml_X8_127 : Cond.methodLink RX8 127 yX0_wordAt ∈ BIG := big_t (i := 707) (by decide +kernel) (by decide +kernel)
theorem ml_X8_131 : Cond.methodLink RX8 131 yX2_signAt ∈ BIG := big_t (i := 708) (by decide +kernel) (by decide +kernel)
theorem ml_L_74 : Cond.methodLink RL 74 yL_out ∈ BIG := big_t (i := 710) (by decide +kernel) (by decide +kernel)
theorem cl_L_25 : Cond.classLink RL 25 RJx5d777 ∈ BIG := big_t (i := 713) (by decide +kernel) (by decide +kernel)
theorem ml_L_21 : Cond.methodLink RL 21 yX8_out ∈ BIG := big_t (i := 739) (by decide +kernel) (by decide +kernel)
theorem ml_X8_146 : Cond.methodLink RX8 146 yX5_isWritten ∈ BIG := big_t (i := 743) (by decide +kernel) (by decide +kernel)
theorem cl_X8_149 : Cond.classLink RX8 149 RJx5d777 ∈ BIG := big_t (i := 747) (by decide +kernel) (by decide +kernel)
theorem ml_X8_153 : Cond.methodLink RX8 153 yJx5d777_init_a7421 ∈ BIG := big_t (i := 749) (by decide +kernel) (by decide +kernel)
theorem ml_X8_154 : Cond.methodLink RX8 154 yX5_byteAt ∈ BIG := big_t (i := 753) (by decide +kernel) (by decide +kernel)
theorem ml_L_95 : Cond.methodLink RL 95 yL_ratio ∈ BIG := big_t (i := 758) (by decide +kernel) (by decide +kernel)
theorem cl_L_31 : Cond.classLink RL 31 "java/lang/ArithmeticException" ∈ BIG := big_t (i := 761) (by decide +kernel) (by decide +kernel)
theorem ml_L_27 : Cond.methodLink RL 27 yX8_ratio ∈ BIG := big_t (i := 775) (by decide +kernel) (by decide +kernel)
theorem kl_X8_198 : Cond.constantLong RX8 198 (-104) ∈ BIG := big_t (i := 779) (by decide +kernel) (by decide +kernel)
theorem cl_X8_200 : Cond.classLink RX8 200 "java/lang/ArithmeticException" ∈ BIG := big_t (i := 780) (by decide +kernel) (by decide +kernel)
theorem ml_X8_204 : Cond.methodLink RX8 204 ⟨"java/lang/ArithmeticException", "<init>", "(Ljava/lang/String;)V"⟩ ∈ BIG := big_t (i := 782) (by decide +kernel) (by decide +kernel)
theorem ml_X8_205 : Cond.methodLink RX8 205 yJ9_floorDiv_f86c9 ∈ BIG := big_t (i := 783) (by decide +kernel) (by decide +kernel)
theorem ml_L_63 : Cond.methodLink RL 63 yX9_thrown ∈ BIG := big_t (i := 786) (by decide +kernel) (by decide +kernel)
theorem cl_L_34 : Cond.classLink RL 34 RX9 ∈ BIG := big_t (i := 790) (by decide +kernel) (by decide +kernel)
theorem in_X9 : Cond.instantiable RX9 39 ∈ BIG := big_t (i := 791) (by decide +kernel) (by decide +kernel)
theorem ml_L_36 : Cond.methodLink RL 36 yX9_init ∈ BIG := big_t (i := 792) (by decide +kernel) (by decide +kernel)
theorem ml_X9_7 : Cond.methodLink RX9 7 ⟨"java/lang/Object", "<init>", "()V"⟩ ∈ BIG := big_t (i := 795) (by decide +kernel) (by decide +kernel)
theorem ml_L_43 : Cond.methodLink RL 43 yX9_feed ∈ BIG := big_t (i := 915) (by decide +kernel) (by decide +kernel)
theorem kl_X9_115 : Cond.constantLong RX9 115 (8) ∈ BIG := big_t (i := 919) (by decide +kernel) (by decide +kernel)
theorem ml_X9_117 : Cond.methodLink RX9 117 yX9_in ∈ BIG := big_t (i := 920) (by decide +kernel) (by decide +kernel)
theorem ml_L_48 : Cond.methodLink RL 48 yX9_read ∈ BIG := big_t (i := 923) (by decide +kernel) (by decide +kernel)
theorem ml_X9_184 : Cond.methodLink RX9 184 yX9_goAlong ∈ BIG := big_t (i := 927) (by decide +kernel) (by decide +kernel)
theorem ml_X9_173 : Cond.methodLink RX9 173 yX9_newNode ∈ BIG := big_t (i := 931) (by decide +kernel) (by decide +kernel)
theorem ml_X9_134 : Cond.methodLink RX9 134 yX9_here ∈ BIG := big_t (i := 935) (by decide +kernel) (by decide +kernel)
theorem ml_X9_150 : Cond.methodLink RX9 150 yX9_figure ∈ BIG := big_t (i := 939) (by decide +kernel) (by decide +kernel)
theorem ml_X9_146 : Cond.methodLink RX9 146 yX9_isFigure ∈ BIG := big_t (i := 943) (by decide +kernel) (by decide +kernel)
theorem ml_X9_142 : Cond.methodLink RX9 142 yX9_fails ∈ BIG := big_t (i := 946) (by decide +kernel) (by decide +kernel)
theorem ml_X9_170 : Cond.methodLink RX9 170 yX9_ends ∈ BIG := big_t (i := 950) (by decide +kernel) (by decide +kernel)
theorem ml_X9_138 : Cond.methodLink RX9 138 yX9_isLetter ∈ BIG := big_t (i := 954) (by decide +kernel) (by decide +kernel)
theorem ml_X9_177 : Cond.methodLink RX9 177 yX9_marks ∈ BIG := big_t (i := 957) (by decide +kernel) (by decide +kernel)
theorem kl_X9_157 : Cond.constantLong RX9 157 (97) ∈ BIG := big_t (i := 961) (by decide +kernel) (by decide +kernel)
theorem kl_X9_159 : Cond.constantLong RX9 159 (100) ∈ BIG := big_t (i := 962) (by decide +kernel) (by decide +kernel)
theorem ml_X9_181 : Cond.methodLink RX9 181 yX9_core ∈ BIG := big_t (i := 963) (by decide +kernel) (by decide +kernel)
theorem ml_X9_161 : Cond.methodLink RX9 161 yX9_word ∈ BIG := big_t (i := 967) (by decide +kernel) (by decide +kernel)
theorem ml_X9_164 : Cond.methodLink RX9 164 yX9_quote ∈ BIG := big_t (i := 971) (by decide +kernel) (by decide +kernel)
theorem ml_X9_154 : Cond.methodLink RX9 154 yX9_letters ∈ BIG := big_t (i := 975) (by decide +kernel) (by decide +kernel)
theorem ml_X9_167 : Cond.methodLink RX9 167 yX9_span ∈ BIG := big_t (i := 979) (by decide +kernel) (by decide +kernel)
theorem ml_X9_187 : Cond.methodLink RX9 187 yX9_become ∈ BIG := big_t (i := 983) (by decide +kernel) (by decide +kernel)
theorem ml_L_52 : Cond.methodLink RL 52 yX9_lenient ∈ BIG := big_t (i := 987) (by decide +kernel) (by decide +kernel)
theorem ml_L_56 : Cond.methodLink RL 56 yX9_dropped ∈ BIG := big_t (i := 991) (by decide +kernel) (by decide +kernel)
theorem ml_L_62 : Cond.methodLink RL 62 yX9_node ∈ BIG := big_t (i := 995) (by decide +kernel) (by decide +kernel)
theorem ml_X9_193 : Cond.methodLink RX9 193 yX9_isNode ∈ BIG := big_t (i := 999) (by decide +kernel) (by decide +kernel)
theorem ml_L_69 : Cond.methodLink RL 69 yX9_sign ∈ BIG := big_t (i := 1003) (by decide +kernel) (by decide +kernel)
theorem ml_L_73 : Cond.methodLink RL 73 yX9_print ∈ BIG := big_t (i := 1007) (by decide +kernel) (by decide +kernel)
theorem ml_X9_206 : Cond.methodLink RX9 206 yX9_closes ∈ BIG := big_t (i := 1011) (by decide +kernel) (by decide +kernel)
theorem ml_X9_196 : Cond.methodLink RX9 196 yX9_put ∈ BIG := big_t (i := 1015) (by decide +kernel) (by decide +kernel)
theorem ml_X9_203 : Cond.methodLink RX9 203 yX9_putBoost ∈ BIG := big_t (i := 1019) (by decide +kernel) (by decide +kernel)
theorem ml_X9_209 : Cond.methodLink RX9 209 yX9_putCore ∈ BIG := big_t (i := 1023) (by decide +kernel) (by decide +kernel)
theorem ml_X9_199 : Cond.methodLink RX9 199 yX9_putWord ∈ BIG := big_t (i := 1027) (by decide +kernel) (by decide +kernel)
theorem ml_L_77 : Cond.methodLink RL 77 yX9_out ∈ BIG := big_t (i := 1031) (by decide +kernel) (by decide +kernel)
theorem ml_L_82 : Cond.methodLink RL 82 yX9_word_ ∈ BIG := big_t (i := 1035) (by decide +kernel) (by decide +kernel)
theorem ml_X9_214 : Cond.methodLink RX9 214 yX9_isDocument ∈ BIG := big_t (i := 1039) (by decide +kernel) (by decide +kernel)
theorem kl_X9_212 : Cond.constantLong RX9 212 (7) ∈ BIG := big_t (i := 1042) (by decide +kernel) (by decide +kernel)
theorem kl_X9_217 : Cond.constantLong RX9 217 (3) ∈ BIG := big_t (i := 1043) (by decide +kernel) (by decide +kernel)
theorem ml_L_86 : Cond.methodLink RL 86 yX9_clear ∈ BIG := big_t (i := 1044) (by decide +kernel) (by decide +kernel)
theorem ml_L_90 : Cond.methodLink RL 90 yX9_fits ∈ BIG := big_t (i := 1048) (by decide +kernel) (by decide +kernel)
theorem ml_X9_245 : Cond.methodLink RX9 245 yX9_reckon ∈ BIG := big_t (i := 1052) (by decide +kernel) (by decide +kernel)
theorem ml_X9_239 : Cond.methodLink RX9 239 yX9_reckonGroup ∈ BIG := big_t (i := 1056) (by decide +kernel) (by decide +kernel)
theorem ml_X9_242 : Cond.methodLink RX9 242 yX9_countOf ∈ BIG := big_t (i := 1060) (by decide +kernel) (by decide +kernel)
theorem ml_X9_233 : Cond.methodLink RX9 233 yX9_quoteAt ∈ BIG := big_t (i := 1064) (by decide +kernel) (by decide +kernel)
theorem ml_X9_223 : Cond.methodLink RX9 223 yX9_against ∈ BIG := big_t (i := 1068) (by decide +kernel) (by decide +kernel)
theorem ml_X9_236 : Cond.methodLink RX9 236 yX9_fitsWord ∈ BIG := big_t (i := 1072) (by decide +kernel) (by decide +kernel)
theorem ml_X9_227 : Cond.methodLink RX9 227 yX9_changes ∈ BIG := big_t (i := 1076) (by decide +kernel) (by decide +kernel)
theorem ml_X9_219 : Cond.methodLink RX9 219 yX9_least ∈ BIG := big_t (i := 1080) (by decide +kernel) (by decide +kernel)
theorem ml_X9_230 : Cond.methodLink RX9 230 yX9_fitsSigns ∈ BIG := big_t (i := 1083) (by decide +kernel) (by decide +kernel)
theorem ml_L_94 : Cond.methodLink RL 94 yX9_worth ∈ BIG := big_t (i := 1087) (by decide +kernel) (by decide +kernel)
theorem kl_X9_248 : Cond.constantLong RX9 248 (-101) ∈ BIG := big_t (i := 1091) (by decide +kernel) (by decide +kernel)
theorem ml_L_97 : Cond.methodLink RL 97 yX9_ratio ∈ BIG := big_t (i := 1092) (by decide +kernel) (by decide +kernel)
theorem kl_X9_250 : Cond.constantLong RX9 250 (-104) ∈ BIG := big_t (i := 1096) (by decide +kernel) (by decide +kernel)
theorem ml_L_101 : Cond.methodLink RL 101 yX9_why ∈ BIG := big_t (i := 1097) (by decide +kernel) (by decide +kernel)
theorem ml_L_105 : Cond.methodLink RL 105 yX9_rank ∈ BIG := big_t (i := 1101) (by decide +kernel) (by decide +kernel)
theorem kl_L_37 : Cond.constantLong RL 37 (4294967295) ∈ BIG := big_t (i := 1105) (by decide +kernel) (by decide +kernel)
