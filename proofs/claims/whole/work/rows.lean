section
-- ===== PART A: goes FIRST, ahead of the names: the tables' words, and 'selects' of the private methods out of them =====
/-- a private method of a class that the tables say can be made, by its rows of tables_1 -/
def lw_okq (q : MethodName × Nat) : Prop := (q.1.cls ≠ "java/lang/invoke/MethodHandle" ∧ q.1.cls ≠ "java/lang/invoke/VarHandle") ∧ Cond.instantiable q.1.cls q.2 ∈ tables_1 ∧ Cond.privateMethod q.1 ∈ tables_1 ∧ Cond.instanceMethod q.1 ∈ tables_1
theorem lw_p0 : lw_okq (⟨"QueryTexts$Reader", "takesInGap", "(I)Z"⟩, 8) := ⟨⟨by decide +kernel, by decide +kernel⟩, List.mem_of_getElem? (i := 116) (by decide +kernel), List.mem_of_getElem? (i := 262) (by decide +kernel), List.mem_of_getElem? (i := 263) (by decide +kernel)⟩
theorem lw_p1 : lw_okq (⟨"QueryTexts$Reader", "closeGroup", "()Z"⟩, 8) := ⟨⟨by decide +kernel, by decide +kernel⟩, List.mem_of_getElem? (i := 116) (by decide +kernel), List.mem_of_getElem? (i := 270) (by decide +kernel), List.mem_of_getElem? (i := 271) (by decide +kernel)⟩
theorem lw_p2 : lw_okq (⟨"QueryTexts$Reader", "goTo", "(I)Z"⟩, 8) := ⟨⟨by decide +kernel, by decide +kernel⟩, List.mem_of_getElem? (i := 116) (by decide +kernel), List.mem_of_getElem? (i := 274) (by decide +kernel), List.mem_of_getElem? (i := 275) (by decide +kernel)⟩
theorem lw_p3 : lw_okq (⟨"QueryTexts$Reader", "canBeginCore", "(II)Z"⟩, 8) := ⟨⟨by decide +kernel, by decide +kernel⟩, List.mem_of_getElem? (i := 116) (by decide +kernel), List.mem_of_getElem? (i := 282) (by decide +kernel), List.mem_of_getElem? (i := 283) (by decide +kernel)⟩
theorem lw_p4 : lw_okq (⟨"QueryTexts$Reader", "beginCore", "(I)Z"⟩, 8) := ⟨⟨by decide +kernel, by decide +kernel⟩, List.mem_of_getElem? (i := 116) (by decide +kernel), List.mem_of_getElem? (i := 297) (by decide +kernel), List.mem_of_getElem? (i := 298) (by decide +kernel)⟩
theorem lw_p5 : lw_okq (⟨"QueryTexts$Reader", "openGroup", "()Z"⟩, 8) := ⟨⟨by decide +kernel, by decide +kernel⟩, List.mem_of_getElem? (i := 116) (by decide +kernel), List.mem_of_getElem? (i := 301) (by decide +kernel), List.mem_of_getElem? (i := 302) (by decide +kernel)⟩
theorem lw_p6 : lw_okq (⟨"QueryTexts$Reader", "beginWord", "(II)Z"⟩, 8) := ⟨⟨by decide +kernel, by decide +kernel⟩, List.mem_of_getElem? (i := 116) (by decide +kernel), List.mem_of_getElem? (i := 305) (by decide +kernel), List.mem_of_getElem? (i := 306) (by decide +kernel)⟩
theorem lw_p7 : lw_okq (⟨"QueryTexts$Reader", "takeSign", "(I)Z"⟩, 8) := ⟨⟨by decide +kernel, by decide +kernel⟩, List.mem_of_getElem? (i := 116) (by decide +kernel), List.mem_of_getElem? (i := 309) (by decide +kernel), List.mem_of_getElem? (i := 310) (by decide +kernel)⟩
theorem lw_p8 : lw_okq (⟨"QueryTexts$Reader", "takesInWord", "(I)Z"⟩, 8) := ⟨⟨by decide +kernel, by decide +kernel⟩, List.mem_of_getElem? (i := 116) (by decide +kernel), List.mem_of_getElem? (i := 318) (by decide +kernel), List.mem_of_getElem? (i := 319) (by decide +kernel)⟩
theorem lw_p9 : lw_okq (⟨"QueryTexts$Reader", "isFieldLetter", "()Z"⟩, 8) := ⟨⟨by decide +kernel, by decide +kernel⟩, List.mem_of_getElem? (i := 116) (by decide +kernel), List.mem_of_getElem? (i := 322) (by decide +kernel), List.mem_of_getElem? (i := 323) (by decide +kernel)⟩
theorem lw_p10 : lw_okq (⟨"QueryTexts$Reader", "takeField", "()Z"⟩, 8) := ⟨⟨by decide +kernel, by decide +kernel⟩, List.mem_of_getElem? (i := 116) (by decide +kernel), List.mem_of_getElem? (i := 333) (by decide +kernel), List.mem_of_getElem? (i := 334) (by decide +kernel)⟩
theorem lw_p11 : lw_okq (⟨"QueryTexts$Reader", "takesTail", "(I)Z"⟩, 8) := ⟨⟨by decide +kernel, by decide +kernel⟩, List.mem_of_getElem? (i := 116) (by decide +kernel), List.mem_of_getElem? (i := 342) (by decide +kernel), List.mem_of_getElem? (i := 343) (by decide +kernel)⟩
theorem lw_p12 : lw_okq (⟨"QueryTexts$Reader", "takesEnd", "(I)Z"⟩, 8) := ⟨⟨by decide +kernel, by decide +kernel⟩, List.mem_of_getElem? (i := 116) (by decide +kernel), List.mem_of_getElem? (i := 346) (by decide +kernel), List.mem_of_getElem? (i := 347) (by decide +kernel)⟩
theorem lw_p13 : lw_okq (⟨"QueryTexts$Reader", "takesDetail", "(III)Z"⟩, 8) := ⟨⟨by decide +kernel, by decide +kernel⟩, List.mem_of_getElem? (i := 116) (by decide +kernel), List.mem_of_getElem? (i := 350) (by decide +kernel), List.mem_of_getElem? (i := 351) (by decide +kernel)⟩
theorem lw_p14 : lw_okq (⟨"QueryTexts$Reader", "takesLetter", "(II)Z"⟩, 8) := ⟨⟨by decide +kernel, by decide +kernel⟩, List.mem_of_getElem? (i := 116) (by decide +kernel), List.mem_of_getElem? (i := 354) (by decide +kernel), List.mem_of_getElem? (i := 355) (by decide +kernel)⟩
theorem lw_p15 : lw_okq (⟨"QueryTexts$Reader", "takesInQuote", "(I)Z"⟩, 8) := ⟨⟨by decide +kernel, by decide +kernel⟩, List.mem_of_getElem? (i := 116) (by decide +kernel), List.mem_of_getElem? (i := 358) (by decide +kernel), List.mem_of_getElem? (i := 359) (by decide +kernel)⟩
def lw_privs_1 : List (MethodName × Nat) := [(⟨"QueryTexts$Reader", "takesInGap", "(I)Z"⟩, 8), (⟨"QueryTexts$Reader", "closeGroup", "()Z"⟩, 8), (⟨"QueryTexts$Reader", "goTo", "(I)Z"⟩, 8), (⟨"QueryTexts$Reader", "canBeginCore", "(II)Z"⟩, 8), (⟨"QueryTexts$Reader", "beginCore", "(I)Z"⟩, 8), (⟨"QueryTexts$Reader", "openGroup", "()Z"⟩, 8), (⟨"QueryTexts$Reader", "beginWord", "(II)Z"⟩, 8), (⟨"QueryTexts$Reader", "takeSign", "(I)Z"⟩, 8), (⟨"QueryTexts$Reader", "takesInWord", "(I)Z"⟩, 8), (⟨"QueryTexts$Reader", "isFieldLetter", "()Z"⟩, 8), (⟨"QueryTexts$Reader", "takeField", "()Z"⟩, 8), (⟨"QueryTexts$Reader", "takesTail", "(I)Z"⟩, 8), (⟨"QueryTexts$Reader", "takesEnd", "(I)Z"⟩, 8), (⟨"QueryTexts$Reader", "takesDetail", "(III)Z"⟩, 8), (⟨"QueryTexts$Reader", "takesLetter", "(II)Z"⟩, 8), (⟨"QueryTexts$Reader", "takesInQuote", "(I)Z"⟩, 8)]
theorem lw_r1 : ∀ q ∈ lw_privs_1, lw_okq q := List.forall_mem_cons.mpr ⟨lw_p0, List.forall_mem_cons.mpr ⟨lw_p1, List.forall_mem_cons.mpr ⟨lw_p2, List.forall_mem_cons.mpr ⟨lw_p3, List.forall_mem_cons.mpr ⟨lw_p4, List.forall_mem_cons.mpr ⟨lw_p5, List.forall_mem_cons.mpr ⟨lw_p6, List.forall_mem_cons.mpr ⟨lw_p7, List.forall_mem_cons.mpr ⟨lw_p8, List.forall_mem_cons.mpr ⟨lw_p9, List.forall_mem_cons.mpr ⟨lw_p10, List.forall_mem_cons.mpr ⟨lw_p11, List.forall_mem_cons.mpr ⟨lw_p12, List.forall_mem_cons.mpr ⟨lw_p13, List.forall_mem_cons.mpr ⟨lw_p14, List.forall_mem_cons.mpr ⟨lw_p15, fun _ h => absurd h List.not_mem_nil⟩⟩⟩⟩⟩⟩⟩⟩⟩⟩⟩⟩⟩⟩⟩⟩
theorem lw_p16 : lw_okq (⟨"QueryTexts$Reader", "takesInQuoteGap", "(I)Z"⟩, 8) := ⟨⟨by decide +kernel, by decide +kernel⟩, List.mem_of_getElem? (i := 116) (by decide +kernel), List.mem_of_getElem? (i := 362) (by decide +kernel), List.mem_of_getElem? (i := 363) (by decide +kernel)⟩
theorem lw_p17 : lw_okq (⟨"QueryTexts$Reader", "takesInSpan", "(I)Z"⟩, 8) := ⟨⟨by decide +kernel, by decide +kernel⟩, List.mem_of_getElem? (i := 116) (by decide +kernel), List.mem_of_getElem? (i := 366) (by decide +kernel), List.mem_of_getElem? (i := 367) (by decide +kernel)⟩
theorem lw_p18 : lw_okq (⟨"QueryTexts$Reader", "takeBoost", "(II)Z"⟩, 8) := ⟨⟨by decide +kernel, by decide +kernel⟩, List.mem_of_getElem? (i := 116) (by decide +kernel), List.mem_of_getElem? (i := 373) (by decide +kernel), List.mem_of_getElem? (i := 374) (by decide +kernel)⟩
theorem lw_p19 : lw_okq (⟨"QueryTexts", "adoptReading", "()I"⟩, 10) := ⟨⟨by decide +kernel, by decide +kernel⟩, List.mem_of_getElem? (i := 23) (by decide +kernel), List.mem_of_getElem? (i := 381) (by decide +kernel), List.mem_of_getElem? (i := 382) (by decide +kernel)⟩
theorem lw_p20 : lw_okq (⟨"QueryTexts", "drop", "(I)V"⟩, 10) := ⟨⟨by decide +kernel, by decide +kernel⟩, List.mem_of_getElem? (i := 23) (by decide +kernel), List.mem_of_getElem? (i := 393) (by decide +kernel), List.mem_of_getElem? (i := 394) (by decide +kernel)⟩
theorem lw_p21 : lw_okq (⟨"QueryTexts$Sheet", "closeGroups", "(LQueryTexts$Tree;II)I"⟩, 2) := ⟨⟨by decide +kernel, by decide +kernel⟩, List.mem_of_getElem? (i := 151) (by decide +kernel), List.mem_of_getElem? (i := 414) (by decide +kernel), List.mem_of_getElem? (i := 415) (by decide +kernel)⟩
theorem lw_p22 : lw_okq (⟨"QueryTexts$Sheet", "put", "(I)V"⟩, 2) := ⟨⟨by decide +kernel, by decide +kernel⟩, List.mem_of_getElem? (i := 151) (by decide +kernel), List.mem_of_getElem? (i := 418) (by decide +kernel), List.mem_of_getElem? (i := 419) (by decide +kernel)⟩
theorem lw_p23 : lw_okq (⟨"QueryTexts$Sheet", "putTold", "(III)V"⟩, 2) := ⟨⟨by decide +kernel, by decide +kernel⟩, List.mem_of_getElem? (i := 151) (by decide +kernel), List.mem_of_getElem? (i := 422) (by decide +kernel), List.mem_of_getElem? (i := 423) (by decide +kernel)⟩
theorem lw_p24 : lw_okq (⟨"QueryTexts$Sheet", "putHead", "(LQueryTexts$Clause;)V"⟩, 2) := ⟨⟨by decide +kernel, by decide +kernel⟩, List.mem_of_getElem? (i := 151) (by decide +kernel), List.mem_of_getElem? (i := 426) (by decide +kernel), List.mem_of_getElem? (i := 427) (by decide +kernel)⟩
theorem lw_p25 : lw_okq (⟨"QueryTexts$Sheet", "putCore", "(LQueryTexts$Clause;)V"⟩, 2) := ⟨⟨by decide +kernel, by decide +kernel⟩, List.mem_of_getElem? (i := 151) (by decide +kernel), List.mem_of_getElem? (i := 430) (by decide +kernel), List.mem_of_getElem? (i := 431) (by decide +kernel)⟩
theorem lw_p26 : lw_okq (⟨"QueryTexts$Sheet", "putQuote", "(LQueryTexts$Clause;)V"⟩, 2) := ⟨⟨by decide +kernel, by decide +kernel⟩, List.mem_of_getElem? (i := 151) (by decide +kernel), List.mem_of_getElem? (i := 434) (by decide +kernel), List.mem_of_getElem? (i := 435) (by decide +kernel)⟩
theorem lw_p27 : lw_okq (⟨"QueryTexts$Sheet", "putWord", "(J)V"⟩, 2) := ⟨⟨by decide +kernel, by decide +kernel⟩, List.mem_of_getElem? (i := 151) (by decide +kernel), List.mem_of_getElem? (i := 439) (by decide +kernel), List.mem_of_getElem? (i := 440) (by decide +kernel)⟩
theorem lw_p28 : lw_okq (⟨"QueryTexts$Sheet", "putSpan", "(LQueryTexts$Clause;)V"⟩, 2) := ⟨⟨by decide +kernel, by decide +kernel⟩, List.mem_of_getElem? (i := 151) (by decide +kernel), List.mem_of_getElem? (i := 448) (by decide +kernel), List.mem_of_getElem? (i := 449) (by decide +kernel)⟩
theorem lw_p29 : lw_okq (⟨"QueryTexts$Judge", "groupValue", "(LQueryTexts$Tree;I)J"⟩, 3) := ⟨⟨by decide +kernel, by decide +kernel⟩, List.mem_of_getElem? (i := 164) (by decide +kernel), List.mem_of_getElem? (i := 494) (by decide +kernel), List.mem_of_getElem? (i := 495) (by decide +kernel)⟩
theorem lw_p30 : lw_okq (⟨"QueryTexts$Judge", "valueAt", "(I)J"⟩, 3) := ⟨⟨by decide +kernel, by decide +kernel⟩, List.mem_of_getElem? (i := 164) (by decide +kernel), List.mem_of_getElem? (i := 498) (by decide +kernel), List.mem_of_getElem? (i := 499) (by decide +kernel)⟩
theorem lw_p31 : lw_okq (⟨"QueryTexts$Judge", "setValue", "(IJ)V"⟩, 3) := ⟨⟨by decide +kernel, by decide +kernel⟩, List.mem_of_getElem? (i := 164) (by decide +kernel), List.mem_of_getElem? (i := 509) (by decide +kernel), List.mem_of_getElem? (i := 510) (by decide +kernel)⟩
def lw_privs_2 : List (MethodName × Nat) := [(⟨"QueryTexts$Reader", "takesInQuoteGap", "(I)Z"⟩, 8), (⟨"QueryTexts$Reader", "takesInSpan", "(I)Z"⟩, 8), (⟨"QueryTexts$Reader", "takeBoost", "(II)Z"⟩, 8), (⟨"QueryTexts", "adoptReading", "()I"⟩, 10), (⟨"QueryTexts", "drop", "(I)V"⟩, 10), (⟨"QueryTexts$Sheet", "closeGroups", "(LQueryTexts$Tree;II)I"⟩, 2), (⟨"QueryTexts$Sheet", "put", "(I)V"⟩, 2), (⟨"QueryTexts$Sheet", "putTold", "(III)V"⟩, 2), (⟨"QueryTexts$Sheet", "putHead", "(LQueryTexts$Clause;)V"⟩, 2), (⟨"QueryTexts$Sheet", "putCore", "(LQueryTexts$Clause;)V"⟩, 2), (⟨"QueryTexts$Sheet", "putQuote", "(LQueryTexts$Clause;)V"⟩, 2), (⟨"QueryTexts$Sheet", "putWord", "(J)V"⟩, 2), (⟨"QueryTexts$Sheet", "putSpan", "(LQueryTexts$Clause;)V"⟩, 2), (⟨"QueryTexts$Judge", "groupValue", "(LQueryTexts$Tree;I)J"⟩, 3), (⟨"QueryTexts$Judge", "valueAt", "(I)J"⟩, 3), (⟨"QueryTexts$Judge", "setValue", "(IJ)V"⟩, 3)]
theorem lw_r2 : ∀ q ∈ lw_privs_2, lw_okq q := List.forall_mem_cons.mpr ⟨lw_p16, List.forall_mem_cons.mpr ⟨lw_p17, List.forall_mem_cons.mpr ⟨lw_p18, List.forall_mem_cons.mpr ⟨lw_p19, List.forall_mem_cons.mpr ⟨lw_p20, List.forall_mem_cons.mpr ⟨lw_p21, List.forall_mem_cons.mpr ⟨lw_p22, List.forall_mem_cons.mpr ⟨lw_p23, List.forall_mem_cons.mpr ⟨lw_p24, List.forall_mem_cons.mpr ⟨lw_p25, List.forall_mem_cons.mpr ⟨lw_p26, List.forall_mem_cons.mpr ⟨lw_p27, List.forall_mem_cons.mpr ⟨lw_p28, List.forall_mem_cons.mpr ⟨lw_p29, List.forall_mem_cons.mpr ⟨lw_p30, List.forall_mem_cons.mpr ⟨lw_p31, fun _ h => absurd h List.not_mem_nil⟩⟩⟩⟩⟩⟩⟩⟩⟩⟩⟩⟩⟩⟩⟩⟩
theorem lw_p32 : lw_okq (⟨"QueryTexts$Judge", "countFits", "(LQueryTexts$Clause;II)J"⟩, 3) := ⟨⟨by decide +kernel, by decide +kernel⟩, List.mem_of_getElem? (i := 164) (by decide +kernel), List.mem_of_getElem? (i := 518) (by decide +kernel), List.mem_of_getElem? (i := 519) (by decide +kernel)⟩
theorem lw_p33 : lw_okq (⟨"QueryTexts$Judge", "countQuotes", "(LQueryTexts$Clause;II)I"⟩, 3) := ⟨⟨by decide +kernel, by decide +kernel⟩, List.mem_of_getElem? (i := 164) (by decide +kernel), List.mem_of_getElem? (i := 522) (by decide +kernel), List.mem_of_getElem? (i := 523) (by decide +kernel)⟩
theorem lw_p34 : lw_okq (⟨"QueryTexts$Judge", "quoteStands", "(LQueryTexts$Clause;III)Z"⟩, 3) := ⟨⟨by decide +kernel, by decide +kernel⟩, List.mem_of_getElem? (i := 164) (by decide +kernel), List.mem_of_getElem? (i := 532) (by decide +kernel), List.mem_of_getElem? (i := 533) (by decide +kernel)⟩
theorem lw_p35 : lw_okq (⟨"QueryTexts$Judge", "countWords", "(LQueryTexts$Clause;II)I"⟩, 3) := ⟨⟨by decide +kernel, by decide +kernel⟩, List.mem_of_getElem? (i := 164) (by decide +kernel), List.mem_of_getElem? (i := 539) (by decide +kernel), List.mem_of_getElem? (i := 540) (by decide +kernel)⟩
theorem lw_p36 : lw_okq (⟨"QueryTexts$Likeness", "changes", "(JJ)I"⟩, 1) := ⟨⟨by decide +kernel, by decide +kernel⟩, List.mem_of_getElem? (i := 183) (by decide +kernel), List.mem_of_getElem? (i := 551) (by decide +kernel), List.mem_of_getElem? (i := 552) (by decide +kernel)⟩
theorem lw_p37 : lw_okq (⟨"QueryTexts", "countAhead", "(I)I"⟩, 10) := ⟨⟨by decide +kernel, by decide +kernel⟩, List.mem_of_getElem? (i := 23) (by decide +kernel), List.mem_of_getElem? (i := 583) (by decide +kernel), List.mem_of_getElem? (i := 584) (by decide +kernel)⟩
theorem lw_p38 : lw_okq (⟨"java/lang/NullPointerException", "getExtendedNPEMessage", "()Ljava/lang/String;"⟩, 8) := ⟨⟨by decide +kernel, by decide +kernel⟩, List.mem_of_getElem? (i := 622) (by decide +kernel), List.mem_of_getElem? (i := 620) (by decide +kernel), List.mem_of_getElem? (i := 621) (by decide +kernel)⟩
theorem lw_p39 : lw_okq (⟨"java/lang/Throwable", "fillInStackTrace", "(I)Ljava/lang/Throwable;"⟩, 6) := ⟨⟨by decide +kernel, by decide +kernel⟩, List.mem_of_getElem? (i := 631) (by decide +kernel), List.mem_of_getElem? (i := 629) (by decide +kernel), List.mem_of_getElem? (i := 630) (by decide +kernel)⟩
theorem lw_p40 : lw_okq (⟨"QueryTextsModel", "goAlong", "()I"⟩, 39) := ⟨⟨by decide +kernel, by decide +kernel⟩, List.mem_of_getElem? (i := 791) (by decide +kernel), List.mem_of_getElem? (i := 928) (by decide +kernel), List.mem_of_getElem? (i := 929) (by decide +kernel)⟩
theorem lw_p41 : lw_okq (⟨"QueryTextsModel", "newNode", "(I)I"⟩, 39) := ⟨⟨by decide +kernel, by decide +kernel⟩, List.mem_of_getElem? (i := 791) (by decide +kernel), List.mem_of_getElem? (i := 932) (by decide +kernel), List.mem_of_getElem? (i := 933) (by decide +kernel)⟩
theorem lw_p42 : lw_okq (⟨"QueryTextsModel", "here", "()I"⟩, 39) := ⟨⟨by decide +kernel, by decide +kernel⟩, List.mem_of_getElem? (i := 791) (by decide +kernel), List.mem_of_getElem? (i := 936) (by decide +kernel), List.mem_of_getElem? (i := 937) (by decide +kernel)⟩
theorem lw_p43 : lw_okq (⟨"QueryTextsModel", "figure", "(IIII)Z"⟩, 39) := ⟨⟨by decide +kernel, by decide +kernel⟩, List.mem_of_getElem? (i := 791) (by decide +kernel), List.mem_of_getElem? (i := 940) (by decide +kernel), List.mem_of_getElem? (i := 941) (by decide +kernel)⟩
theorem lw_p44 : lw_okq (⟨"QueryTextsModel", "fails", "()Z"⟩, 39) := ⟨⟨by decide +kernel, by decide +kernel⟩, List.mem_of_getElem? (i := 791) (by decide +kernel), List.mem_of_getElem? (i := 947) (by decide +kernel), List.mem_of_getElem? (i := 948) (by decide +kernel)⟩
theorem lw_p45 : lw_okq (⟨"QueryTextsModel", "ends", "(I)Z"⟩, 39) := ⟨⟨by decide +kernel, by decide +kernel⟩, List.mem_of_getElem? (i := 791) (by decide +kernel), List.mem_of_getElem? (i := 951) (by decide +kernel), List.mem_of_getElem? (i := 952) (by decide +kernel)⟩
theorem lw_p46 : lw_okq (⟨"QueryTextsModel", "marks", "(I)V"⟩, 39) := ⟨⟨by decide +kernel, by decide +kernel⟩, List.mem_of_getElem? (i := 791) (by decide +kernel), List.mem_of_getElem? (i := 958) (by decide +kernel), List.mem_of_getElem? (i := 959) (by decide +kernel)⟩
theorem lw_p47 : lw_okq (⟨"QueryTextsModel", "core", "(II)Z"⟩, 39) := ⟨⟨by decide +kernel, by decide +kernel⟩, List.mem_of_getElem? (i := 791) (by decide +kernel), List.mem_of_getElem? (i := 964) (by decide +kernel), List.mem_of_getElem? (i := 965) (by decide +kernel)⟩
def lw_privs_3 : List (MethodName × Nat) := [(⟨"QueryTexts$Judge", "countFits", "(LQueryTexts$Clause;II)J"⟩, 3), (⟨"QueryTexts$Judge", "countQuotes", "(LQueryTexts$Clause;II)I"⟩, 3), (⟨"QueryTexts$Judge", "quoteStands", "(LQueryTexts$Clause;III)Z"⟩, 3), (⟨"QueryTexts$Judge", "countWords", "(LQueryTexts$Clause;II)I"⟩, 3), (⟨"QueryTexts$Likeness", "changes", "(JJ)I"⟩, 1), (⟨"QueryTexts", "countAhead", "(I)I"⟩, 10), (⟨"java/lang/NullPointerException", "getExtendedNPEMessage", "()Ljava/lang/String;"⟩, 8), (⟨"java/lang/Throwable", "fillInStackTrace", "(I)Ljava/lang/Throwable;"⟩, 6), (⟨"QueryTextsModel", "goAlong", "()I"⟩, 39), (⟨"QueryTextsModel", "newNode", "(I)I"⟩, 39), (⟨"QueryTextsModel", "here", "()I"⟩, 39), (⟨"QueryTextsModel", "figure", "(IIII)Z"⟩, 39), (⟨"QueryTextsModel", "fails", "()Z"⟩, 39), (⟨"QueryTextsModel", "ends", "(I)Z"⟩, 39), (⟨"QueryTextsModel", "marks", "(I)V"⟩, 39), (⟨"QueryTextsModel", "core", "(II)Z"⟩, 39)]
theorem lw_r3 : ∀ q ∈ lw_privs_3, lw_okq q := List.forall_mem_cons.mpr ⟨lw_p32, List.forall_mem_cons.mpr ⟨lw_p33, List.forall_mem_cons.mpr ⟨lw_p34, List.forall_mem_cons.mpr ⟨lw_p35, List.forall_mem_cons.mpr ⟨lw_p36, List.forall_mem_cons.mpr ⟨lw_p37, List.forall_mem_cons.mpr ⟨lw_p38, List.forall_mem_cons.mpr ⟨lw_p39, List.forall_mem_cons.mpr ⟨lw_p40, List.forall_mem_cons.mpr ⟨lw_p41, List.forall_mem_cons.mpr ⟨lw_p42, List.forall_mem_cons.mpr ⟨lw_p43, List.forall_mem_cons.mpr ⟨lw_p44, List.forall_mem_cons.mpr ⟨lw_p45, List.forall_mem_cons.mpr ⟨lw_p46, List.forall_mem_cons.mpr ⟨lw_p47, fun _ h => absurd h List.not_mem_nil⟩⟩⟩⟩⟩⟩⟩⟩⟩⟩⟩⟩⟩⟩⟩⟩
theorem lw_p48 : lw_okq (⟨"QueryTextsModel", "word", "(I)Z"⟩, 39) := ⟨⟨by decide +kernel, by decide +kernel⟩, List.mem_of_getElem? (i := 791) (by decide +kernel), List.mem_of_getElem? (i := 968) (by decide +kernel), List.mem_of_getElem? (i := 969) (by decide +kernel)⟩
theorem lw_p49 : lw_okq (⟨"QueryTextsModel", "quote", "(I)Z"⟩, 39) := ⟨⟨by decide +kernel, by decide +kernel⟩, List.mem_of_getElem? (i := 791) (by decide +kernel), List.mem_of_getElem? (i := 972) (by decide +kernel), List.mem_of_getElem? (i := 973) (by decide +kernel)⟩
theorem lw_p50 : lw_okq (⟨"QueryTextsModel", "letters", "(I)Z"⟩, 39) := ⟨⟨by decide +kernel, by decide +kernel⟩, List.mem_of_getElem? (i := 791) (by decide +kernel), List.mem_of_getElem? (i := 976) (by decide +kernel), List.mem_of_getElem? (i := 977) (by decide +kernel)⟩
theorem lw_p51 : lw_okq (⟨"QueryTextsModel", "span", "(I)Z"⟩, 39) := ⟨⟨by decide +kernel, by decide +kernel⟩, List.mem_of_getElem? (i := 791) (by decide +kernel), List.mem_of_getElem? (i := 980) (by decide +kernel), List.mem_of_getElem? (i := 981) (by decide +kernel)⟩
theorem lw_p52 : lw_okq (⟨"QueryTextsModel", "become", "()V"⟩, 39) := ⟨⟨by decide +kernel, by decide +kernel⟩, List.mem_of_getElem? (i := 791) (by decide +kernel), List.mem_of_getElem? (i := 984) (by decide +kernel), List.mem_of_getElem? (i := 985) (by decide +kernel)⟩
theorem lw_p53 : lw_okq (⟨"QueryTextsModel", "isNode", "(I)Z"⟩, 39) := ⟨⟨by decide +kernel, by decide +kernel⟩, List.mem_of_getElem? (i := 791) (by decide +kernel), List.mem_of_getElem? (i := 1000) (by decide +kernel), List.mem_of_getElem? (i := 1001) (by decide +kernel)⟩
theorem lw_p54 : lw_okq (⟨"QueryTextsModel", "closes", "(I)V"⟩, 39) := ⟨⟨by decide +kernel, by decide +kernel⟩, List.mem_of_getElem? (i := 791) (by decide +kernel), List.mem_of_getElem? (i := 1012) (by decide +kernel), List.mem_of_getElem? (i := 1013) (by decide +kernel)⟩
theorem lw_p55 : lw_okq (⟨"QueryTextsModel", "put", "(I)V"⟩, 39) := ⟨⟨by decide +kernel, by decide +kernel⟩, List.mem_of_getElem? (i := 791) (by decide +kernel), List.mem_of_getElem? (i := 1016) (by decide +kernel), List.mem_of_getElem? (i := 1017) (by decide +kernel)⟩
theorem lw_p56 : lw_okq (⟨"QueryTextsModel", "putBoost", "(I)V"⟩, 39) := ⟨⟨by decide +kernel, by decide +kernel⟩, List.mem_of_getElem? (i := 791) (by decide +kernel), List.mem_of_getElem? (i := 1020) (by decide +kernel), List.mem_of_getElem? (i := 1021) (by decide +kernel)⟩
theorem lw_p57 : lw_okq (⟨"QueryTextsModel", "putCore", "(I)V"⟩, 39) := ⟨⟨by decide +kernel, by decide +kernel⟩, List.mem_of_getElem? (i := 791) (by decide +kernel), List.mem_of_getElem? (i := 1024) (by decide +kernel), List.mem_of_getElem? (i := 1025) (by decide +kernel)⟩
theorem lw_p58 : lw_okq (⟨"QueryTextsModel", "putWord", "(II)V"⟩, 39) := ⟨⟨by decide +kernel, by decide +kernel⟩, List.mem_of_getElem? (i := 791) (by decide +kernel), List.mem_of_getElem? (i := 1028) (by decide +kernel), List.mem_of_getElem? (i := 1029) (by decide +kernel)⟩
theorem lw_p59 : lw_okq (⟨"QueryTextsModel", "reckon", "(I)V"⟩, 39) := ⟨⟨by decide +kernel, by decide +kernel⟩, List.mem_of_getElem? (i := 791) (by decide +kernel), List.mem_of_getElem? (i := 1053) (by decide +kernel), List.mem_of_getElem? (i := 1054) (by decide +kernel)⟩
theorem lw_p60 : lw_okq (⟨"QueryTextsModel", "reckonGroup", "(I)V"⟩, 39) := ⟨⟨by decide +kernel, by decide +kernel⟩, List.mem_of_getElem? (i := 791) (by decide +kernel), List.mem_of_getElem? (i := 1057) (by decide +kernel), List.mem_of_getElem? (i := 1058) (by decide +kernel)⟩
theorem lw_p61 : lw_okq (⟨"QueryTextsModel", "countOf", "(II)I"⟩, 39) := ⟨⟨by decide +kernel, by decide +kernel⟩, List.mem_of_getElem? (i := 791) (by decide +kernel), List.mem_of_getElem? (i := 1061) (by decide +kernel), List.mem_of_getElem? (i := 1062) (by decide +kernel)⟩
theorem lw_p62 : lw_okq (⟨"QueryTextsModel", "quoteAt", "(IIII)Z"⟩, 39) := ⟨⟨by decide +kernel, by decide +kernel⟩, List.mem_of_getElem? (i := 791) (by decide +kernel), List.mem_of_getElem? (i := 1065) (by decide +kernel), List.mem_of_getElem? (i := 1066) (by decide +kernel)⟩
theorem lw_p63 : lw_okq (⟨"QueryTextsModel", "against", "(III)I"⟩, 39) := ⟨⟨by decide +kernel, by decide +kernel⟩, List.mem_of_getElem? (i := 791) (by decide +kernel), List.mem_of_getElem? (i := 1069) (by decide +kernel), List.mem_of_getElem? (i := 1070) (by decide +kernel)⟩
def lw_privs_4 : List (MethodName × Nat) := [(⟨"QueryTextsModel", "word", "(I)Z"⟩, 39), (⟨"QueryTextsModel", "quote", "(I)Z"⟩, 39), (⟨"QueryTextsModel", "letters", "(I)Z"⟩, 39), (⟨"QueryTextsModel", "span", "(I)Z"⟩, 39), (⟨"QueryTextsModel", "become", "()V"⟩, 39), (⟨"QueryTextsModel", "isNode", "(I)Z"⟩, 39), (⟨"QueryTextsModel", "closes", "(I)V"⟩, 39), (⟨"QueryTextsModel", "put", "(I)V"⟩, 39), (⟨"QueryTextsModel", "putBoost", "(I)V"⟩, 39), (⟨"QueryTextsModel", "putCore", "(I)V"⟩, 39), (⟨"QueryTextsModel", "putWord", "(II)V"⟩, 39), (⟨"QueryTextsModel", "reckon", "(I)V"⟩, 39), (⟨"QueryTextsModel", "reckonGroup", "(I)V"⟩, 39), (⟨"QueryTextsModel", "countOf", "(II)I"⟩, 39), (⟨"QueryTextsModel", "quoteAt", "(IIII)Z"⟩, 39), (⟨"QueryTextsModel", "against", "(III)I"⟩, 39)]
theorem lw_r4 : ∀ q ∈ lw_privs_4, lw_okq q := List.forall_mem_cons.mpr ⟨lw_p48, List.forall_mem_cons.mpr ⟨lw_p49, List.forall_mem_cons.mpr ⟨lw_p50, List.forall_mem_cons.mpr ⟨lw_p51, List.forall_mem_cons.mpr ⟨lw_p52, List.forall_mem_cons.mpr ⟨lw_p53, List.forall_mem_cons.mpr ⟨lw_p54, List.forall_mem_cons.mpr ⟨lw_p55, List.forall_mem_cons.mpr ⟨lw_p56, List.forall_mem_cons.mpr ⟨lw_p57, List.forall_mem_cons.mpr ⟨lw_p58, List.forall_mem_cons.mpr ⟨lw_p59, List.forall_mem_cons.mpr ⟨lw_p60, List.forall_mem_cons.mpr ⟨lw_p61, List.forall_mem_cons.mpr ⟨lw_p62, List.forall_mem_cons.mpr ⟨lw_p63, fun _ h => absurd h List.not_mem_nil⟩⟩⟩⟩⟩⟩⟩⟩⟩⟩⟩⟩⟩⟩⟩⟩
theorem lw_p64 : lw_okq (⟨"QueryTextsModel", "fitsWord", "(II)Z"⟩, 39) := ⟨⟨by decide +kernel, by decide +kernel⟩, List.mem_of_getElem? (i := 791) (by decide +kernel), List.mem_of_getElem? (i := 1073) (by decide +kernel), List.mem_of_getElem? (i := 1074) (by decide +kernel)⟩
theorem lw_p65 : lw_okq (⟨"QueryTextsModel", "changes", "(II)I"⟩, 39) := ⟨⟨by decide +kernel, by decide +kernel⟩, List.mem_of_getElem? (i := 791) (by decide +kernel), List.mem_of_getElem? (i := 1077) (by decide +kernel), List.mem_of_getElem? (i := 1078) (by decide +kernel)⟩
theorem lw_p66 : lw_okq (⟨"QueryTextsModel", "fitsSigns", "(II)Z"⟩, 39) := ⟨⟨by decide +kernel, by decide +kernel⟩, List.mem_of_getElem? (i := 791) (by decide +kernel), List.mem_of_getElem? (i := 1084) (by decide +kernel), List.mem_of_getElem? (i := 1085) (by decide +kernel)⟩
def lw_privs_5 : List (MethodName × Nat) := [(⟨"QueryTextsModel", "fitsWord", "(II)Z"⟩, 39), (⟨"QueryTextsModel", "changes", "(II)I"⟩, 39), (⟨"QueryTextsModel", "fitsSigns", "(II)Z"⟩, 39)]
theorem lw_r5 : ∀ q ∈ lw_privs_5, lw_okq q := List.forall_mem_cons.mpr ⟨lw_p64, List.forall_mem_cons.mpr ⟨lw_p65, List.forall_mem_cons.mpr ⟨lw_p66, fun _ h => absurd h List.not_mem_nil⟩⟩⟩
def lw_privs : List (MethodName × Nat) := lw_privs_1 ++ (lw_privs_2 ++ (lw_privs_3 ++ (lw_privs_4 ++ (lw_privs_5))))
def lw_tbl : List Cond := k2_sels lw_privs ++ tables_1
theorem lw_privs_ok : ∀ q ∈ lw_privs, lw_okq q := by
  show ∀ q ∈ lw_privs_1 ++ (lw_privs_2 ++ (lw_privs_3 ++ (lw_privs_4 ++ (lw_privs_5)))), lw_okq q
  exact List.forall_mem_append.mpr ⟨lw_r1, List.forall_mem_append.mpr ⟨lw_r2, List.forall_mem_append.mpr ⟨lw_r3, List.forall_mem_append.mpr ⟨lw_r4, lw_r5⟩⟩⟩⟩
def RX0 : String := "QueryTexts$Clause"
def TX0 : u_T := fun k => match k with
  | 0 => ("QueryTexts$Clause", "core", "I", false)
  | 1 => ("QueryTexts$Clause", "mark", "I", false)
  | 2 => ("QueryTexts$Clause", "boost", "I", false)
  | 3 => ("QueryTexts$Clause", "field", "I", false)
  | 4 => ("QueryTexts$Clause", "detail", "I", false)
  | 5 => ("QueryTexts$Clause", "size", "I", false)
  | 6 => ("QueryTexts$Clause", "around", "I", false)
  | _ => ("QueryTexts$Clause", "words", "[J", true)
def tyX0 : Nat → FieldType := fun k => match k with
  | 0 => .int
  | 1 => .int
  | 2 => .int
  | 3 => .int
  | 4 => .int
  | 5 => .int
  | 6 => .int
  | _ => .array .long
abbrev wsX00 : List Cond := u_ws RX0 TX0 8
theorem nmX0 : ∀ a, a < 8 → ∀ b, b < 8 → a ≠ b → (TX0 a).2.1 ≠ (TX0 b).2.1 := by decide +kernel
theorem tyX0_ok : ∀ k, k < 8 → parseFieldDescriptor (TX0 k).2.2.1 = some (tyX0 k) := by decide +kernel
abbrev cX0_init : ByteArray := prog_2_method_1_code
def yX0_init : MethodName := ⟨RX0, "<init>", "()V"⟩
abbrev cX0_start : ByteArray := prog_2_method_2_code
def yX0_start : MethodName := ⟨RX0, "start", "(II)V"⟩
abbrev cX0_addSign : ByteArray := prog_2_method_3_code
def yX0_addSign : MethodName := ⟨RX0, "addSign", "(III)V"⟩
abbrev cX0_wordAt : ByteArray := prog_2_method_4_code
def yX0_wordAt : MethodName := ⟨RX0, "wordAt", "(I)J"⟩
abbrev cX0_turnToField : ByteArray := prog_2_method_5_code
def yX0_turnToField : MethodName := ⟨RX0, "turnToField", "()V"⟩
def RX1 : String := "QueryTexts$Judge"
def TX1 : u_T := fun k => match k with
  | 0 => ("QueryTexts$Judge", "shelf", "LQueryTexts$Shelf;", true)
  | 1 => ("QueryTexts$Judge", "likeness", "LQueryTexts$Likeness;", true)
  | _ => ("QueryTexts$Judge", "values", "[J", true)
def tyX1 : Nat → FieldType := fun k => match k with
  | 0 => .object "QueryTexts$Shelf"
  | 1 => .object "QueryTexts$Likeness"
  | _ => .array .long
abbrev wsX10 : List Cond := u_ws RX1 TX1 3
theorem nmX1 : ∀ a, a < 3 → ∀ b, b < 3 → a ≠ b → (TX1 a).2.1 ≠ (TX1 b).2.1 := by decide +kernel
theorem tyX1_ok : ∀ k, k < 3 → parseFieldDescriptor (TX1 k).2.2.1 = some (tyX1 k) := by decide +kernel
abbrev cX1_init : ByteArray := prog_3_method_1_code
def yX1_init : MethodName := ⟨RX1, "<init>", "()V"⟩
abbrev cX1_weigh : ByteArray := prog_3_method_2_code
def yX1_weigh : MethodName := ⟨RX1, "weigh", "(LQueryTexts$Tree;II)J"⟩
abbrev cX1_setValue : ByteArray := prog_3_method_3_code
def yX1_setValue : MethodName := ⟨RX1, "setValue", "(IJ)V"⟩
abbrev cX1_valueAt : ByteArray := prog_3_method_4_code
def yX1_valueAt : MethodName := ⟨RX1, "valueAt", "(I)J"⟩
abbrev cX1_groupValue : ByteArray := prog_3_method_5_code
def yX1_groupValue : MethodName := ⟨RX1, "groupValue", "(LQueryTexts$Tree;I)J"⟩
abbrev cX1_isFault : ByteArray := prog_3_method_6_code
def yX1_isFault : MethodName := ⟨RX1, "isFault", "(IJ)Z"⟩
abbrev cX1_firstFault : ByteArray := prog_3_method_7_code
def yX1_firstFault : MethodName := ⟨RX1, "firstFault", "(LQueryTexts$Tree;I)I"⟩
abbrev cX1_countFits : ByteArray := prog_3_method_8_code
def yX1_countFits : MethodName := ⟨RX1, "countFits", "(LQueryTexts$Clause;II)J"⟩
abbrev cX1_countWords : ByteArray := prog_3_method_9_code
def yX1_countWords : MethodName := ⟨RX1, "countWords", "(LQueryTexts$Clause;II)I"⟩
abbrev cX1_countQuotes : ByteArray := prog_3_method_10_code
def yX1_countQuotes : MethodName := ⟨RX1, "countQuotes", "(LQueryTexts$Clause;II)I"⟩
abbrev cX1_quoteStands : ByteArray := prog_3_method_11_code
def yX1_quoteStands : MethodName := ⟨RX1, "quoteStands", "(LQueryTexts$Clause;III)Z"⟩
def RX2 : String := "QueryTexts$Letters"
def TX2 : u_T := fun k => match k with
  | _ => ("", "", "", false)
def tyX2 : Nat → FieldType := fun k => match k with
  | _ => .int
abbrev wsX20 : List Cond := u_ws RX2 TX2 0
theorem nmX2 : ∀ a, a < 0 → ∀ b, b < 0 → a ≠ b → (TX2 a).2.1 ≠ (TX2 b).2.1 := by decide +kernel
theorem tyX2_ok : ∀ k, k < 0 → parseFieldDescriptor (TX2 k).2.2.1 = some (tyX2 k) := by decide +kernel
abbrev cX2_isLetter : ByteArray := prog_4_method_2_code
def yX2_isLetter : MethodName := ⟨RX2, "isLetter", "(I)Z"⟩
abbrev cX2_isSign : ByteArray := prog_4_method_3_code
def yX2_isSign : MethodName := ⟨RX2, "isSign", "(I)Z"⟩
abbrev cX2_signAt : ByteArray := prog_4_method_4_code
def yX2_signAt : MethodName := ⟨RX2, "signAt", "(JI)I"⟩
abbrev cX2_isPlain : ByteArray := prog_4_method_5_code
def yX2_isPlain : MethodName := ⟨RX2, "isPlain", "(J)Z"⟩
abbrev cX2_moveAhead : ByteArray := prog_4_method_6_code
def yX2_moveAhead : MethodName := ⟨RX2, "moveAhead", "(J)J"⟩
abbrev cX2_lengthOf : ByteArray := prog_4_method_7_code
def yX2_lengthOf : MethodName := ⟨RX2, "lengthOf", "(J)I"⟩
def RX3 : String := "QueryTexts$Likeness"
def TX3 : u_T := fun k => match k with
  | _ => ("QueryTexts$Likeness", "row", "[I", true)
def tyX3 : Nat → FieldType := fun k => match k with
  | _ => .array .int
abbrev wsX30 : List Cond := u_ws RX3 TX3 1
theorem nmX3 : ∀ a, a < 1 → ∀ b, b < 1 → a ≠ b → (TX3 a).2.1 ≠ (TX3 b).2.1 := by decide +kernel
theorem tyX3_ok : ∀ k, k < 1 → parseFieldDescriptor (TX3 k).2.2.1 = some (tyX3 k) := by decide +kernel
abbrev cX3_init : ByteArray := prog_5_method_1_code
def yX3_init : MethodName := ⟨RX3, "<init>", "()V"⟩
abbrev cX3_isFor : ByteArray := prog_5_method_2_code
def yX3_isFor : MethodName := ⟨RX3, "isFor", "(LQueryTexts$Clause;J)Z"⟩
abbrev cX3_isWithin : ByteArray := prog_5_method_3_code
def yX3_isWithin : MethodName := ⟨RX3, "isWithin", "(LQueryTexts$Clause;J)Z"⟩
abbrev cX3_changes : ByteArray := prog_5_method_4_code
def yX3_changes : MethodName := ⟨RX3, "changes", "(JJ)I"⟩
abbrev cX3_hasSigns : ByteArray := prog_5_method_5_code
def yX3_hasSigns : MethodName := ⟨RX3, "hasSigns", "(JJ)Z"⟩
abbrev cX3_placesOf : ByteArray := prog_5_method_6_code
def yX3_placesOf : MethodName := ⟨RX3, "placesOf", "(IJI)I"⟩
def RX4 : String := "QueryTexts$Reader"
def TX4 : u_T := fun k => match k with
  | 0 => ("QueryTexts$Reader", "tree", "LQueryTexts$Tree;", false)
  | 1 => ("QueryTexts$Reader", "state", "I", false)
  | 2 => ("QueryTexts$Reader", "depth", "I", false)
  | 3 => ("QueryTexts$Reader", "open", "I", false)
  | 4 => ("QueryTexts$Reader", "clause", "LQueryTexts$Clause;", false)
  | 5 => ("QueryTexts$Reader", "wordNumber", "I", false)
  | 6 => ("QueryTexts$Reader", "signs", "I", false)
  | _ => ("QueryTexts$Reader", "plain", "Z", false)
def tyX4 : Nat → FieldType := fun k => match k with
  | 0 => .object "QueryTexts$Tree"
  | 1 => .int
  | 2 => .int
  | 3 => .int
  | 4 => .object "QueryTexts$Clause"
  | 5 => .int
  | 6 => .int
  | _ => .boolean
abbrev wsX40 : List Cond := u_ws RX4 TX4 8
theorem nmX4 : ∀ a, a < 8 → ∀ b, b < 8 → a ≠ b → (TX4 a).2.1 ≠ (TX4 b).2.1 := by decide +kernel
theorem tyX4_ok : ∀ k, k < 8 → parseFieldDescriptor (TX4 k).2.2.1 = some (tyX4 k) := by decide +kernel
abbrev cX4_init : ByteArray := prog_6_method_1_code
def yX4_init : MethodName := ⟨RX4, "<init>", "()V"⟩
abbrev cX4_begin : ByteArray := prog_6_method_2_code
def yX4_begin : MethodName := ⟨RX4, "begin", "()V"⟩
abbrev cX4_exchange : ByteArray := prog_6_method_3_code
def yX4_exchange : MethodName := ⟨RX4, "exchange", "(LQueryTexts$Tree;)LQueryTexts$Tree;"⟩
abbrev cX4_isWhole : ByteArray := prog_6_method_4_code
def yX4_isWhole : MethodName := ⟨RX4, "isWhole", "()Z"⟩
abbrev cX4_takes : ByteArray := prog_6_method_5_code
def yX4_takes : MethodName := ⟨RX4, "takes", "(I)Z"⟩
abbrev cX4_goTo : ByteArray := prog_6_method_6_code
def yX4_goTo : MethodName := ⟨RX4, "goTo", "(I)Z"⟩
abbrev cX4_isFigure : ByteArray := prog_6_method_7_code
def yX4_isFigure : MethodName := ⟨RX4, "isFigure", "(I)Z"⟩
abbrev cX4_takesInGap : ByteArray := prog_6_method_8_code
def yX4_takesInGap : MethodName := ⟨RX4, "takesInGap", "(I)Z"⟩
abbrev cX4_canBeginCore : ByteArray := prog_6_method_9_code
def yX4_canBeginCore : MethodName := ⟨RX4, "canBeginCore", "(II)Z"⟩
abbrev cX4_beginCore : ByteArray := prog_6_method_10_code
def yX4_beginCore : MethodName := ⟨RX4, "beginCore", "(I)Z"⟩
abbrev cX4_openGroup : ByteArray := prog_6_method_11_code
def yX4_openGroup : MethodName := ⟨RX4, "openGroup", "()Z"⟩
abbrev cX4_closeGroup : ByteArray := prog_6_method_12_code
def yX4_closeGroup : MethodName := ⟨RX4, "closeGroup", "()Z"⟩
abbrev cX4_beginWord : ByteArray := prog_6_method_13_code
def yX4_beginWord : MethodName := ⟨RX4, "beginWord", "(II)Z"⟩
abbrev cX4_takeSign : ByteArray := prog_6_method_14_code
def yX4_takeSign : MethodName := ⟨RX4, "takeSign", "(I)Z"⟩
abbrev cX4_takesLetter : ByteArray := prog_6_method_15_code
def yX4_takesLetter : MethodName := ⟨RX4, "takesLetter", "(II)Z"⟩
abbrev cX4_takesInWord : ByteArray := prog_6_method_16_code
def yX4_takesInWord : MethodName := ⟨RX4, "takesInWord", "(I)Z"⟩
abbrev cX4_isFieldLetter : ByteArray := prog_6_method_17_code
def yX4_isFieldLetter : MethodName := ⟨RX4, "isFieldLetter", "()Z"⟩
abbrev cX4_takeField : ByteArray := prog_6_method_18_code
def yX4_takeField : MethodName := ⟨RX4, "takeField", "()Z"⟩
abbrev cX4_takesInQuote : ByteArray := prog_6_method_19_code
def yX4_takesInQuote : MethodName := ⟨RX4, "takesInQuote", "(I)Z"⟩
abbrev cX4_takesInQuoteGap : ByteArray := prog_6_method_20_code
def yX4_takesInQuoteGap : MethodName := ⟨RX4, "takesInQuoteGap", "(I)Z"⟩
abbrev cX4_takesInSpan : ByteArray := prog_6_method_21_code
def yX4_takesInSpan : MethodName := ⟨RX4, "takesInSpan", "(I)Z"⟩
abbrev cX4_takesDetail : ByteArray := prog_6_method_22_code
def yX4_takesDetail : MethodName := ⟨RX4, "takesDetail", "(III)Z"⟩
abbrev cX4_takeBoost : ByteArray := prog_6_method_23_code
def yX4_takeBoost : MethodName := ⟨RX4, "takeBoost", "(II)Z"⟩
abbrev cX4_takesTail : ByteArray := prog_6_method_24_code
def yX4_takesTail : MethodName := ⟨RX4, "takesTail", "(I)Z"⟩
abbrev cX4_takesEnd : ByteArray := prog_6_method_25_code
def yX4_takesEnd : MethodName := ⟨RX4, "takesEnd", "(I)Z"⟩
def RX5 : String := "QueryTexts$Sheet"
def TX5 : u_T := fun k => match k with
  | 0 => ("QueryTexts$Sheet", "bytes", "[B", true)
  | _ => ("QueryTexts$Sheet", "length", "I", false)
def tyX5 : Nat → FieldType := fun k => match k with
  | 0 => .array .byte
  | _ => .int
abbrev wsX50 : List Cond := u_ws RX5 TX5 2
theorem nmX5 : ∀ a, a < 2 → ∀ b, b < 2 → a ≠ b → (TX5 a).2.1 ≠ (TX5 b).2.1 := by decide +kernel
theorem tyX5_ok : ∀ k, k < 2 → parseFieldDescriptor (TX5 k).2.2.1 = some (tyX5 k) := by decide +kernel
abbrev cX5_init : ByteArray := prog_7_method_1_code
def yX5_init : MethodName := ⟨RX5, "<init>", "()V"⟩
abbrev cX5_isWritten : ByteArray := prog_7_method_2_code
def yX5_isWritten : MethodName := ⟨RX5, "isWritten", "()Z"⟩
abbrev cX5_byteAt : ByteArray := prog_7_method_3_code
def yX5_byteAt : MethodName := ⟨RX5, "byteAt", "(I)I"⟩
abbrev cX5_write : ByteArray := prog_7_method_4_code
def yX5_write : MethodName := ⟨RX5, "write", "(LQueryTexts$Tree;)I"⟩
abbrev cX5_closeGroups : ByteArray := prog_7_method_5_code
def yX5_closeGroups : MethodName := ⟨RX5, "closeGroups", "(LQueryTexts$Tree;II)I"⟩
abbrev cX5_put : ByteArray := prog_7_method_6_code
def yX5_put : MethodName := ⟨RX5, "put", "(I)V"⟩
abbrev cX5_putHead : ByteArray := prog_7_method_7_code
def yX5_putHead : MethodName := ⟨RX5, "putHead", "(LQueryTexts$Clause;)V"⟩
abbrev cX5_putCore : ByteArray := prog_7_method_8_code
def yX5_putCore : MethodName := ⟨RX5, "putCore", "(LQueryTexts$Clause;)V"⟩
abbrev cX5_putQuote : ByteArray := prog_7_method_9_code
def yX5_putQuote : MethodName := ⟨RX5, "putQuote", "(LQueryTexts$Clause;)V"⟩
abbrev cX5_putSpan : ByteArray := prog_7_method_10_code
def yX5_putSpan : MethodName := ⟨RX5, "putSpan", "(LQueryTexts$Clause;)V"⟩
abbrev cX5_putWord : ByteArray := prog_7_method_11_code
def yX5_putWord : MethodName := ⟨RX5, "putWord", "(J)V"⟩
abbrev cX5_putTold : ByteArray := prog_7_method_12_code
def yX5_putTold : MethodName := ⟨RX5, "putTold", "(III)V"⟩
def RX6 : String := "QueryTexts$Shelf"
def TX6 : u_T := fun k => match k with
  | 0 => ("QueryTexts$Shelf", "words", "[J", true)
  | _ => ("QueryTexts$Shelf", "counts", "[I", true)
def tyX6 : Nat → FieldType := fun k => match k with
  | 0 => .array .long
  | _ => .array .int
abbrev wsX60 : List Cond := u_ws RX6 TX6 2
theorem nmX6 : ∀ a, a < 2 → ∀ b, b < 2 → a ≠ b → (TX6 a).2.1 ≠ (TX6 b).2.1 := by decide +kernel
theorem tyX6_ok : ∀ k, k < 2 → parseFieldDescriptor (TX6 k).2.2.1 = some (tyX6 k) := by decide +kernel
abbrev cX6_init : ByteArray := prog_8_method_1_code
def yX6_init : MethodName := ⟨RX6, "<init>", "()V"⟩
abbrev cX6_countOf : ByteArray := prog_8_method_2_code
def yX6_countOf : MethodName := ⟨RX6, "countOf", "(II)I"⟩
abbrev cX6_wordAt : ByteArray := prog_8_method_3_code
def yX6_wordAt : MethodName := ⟨RX6, "wordAt", "(III)J"⟩
abbrev cX6_add : ByteArray := prog_8_method_4_code
def yX6_add : MethodName := ⟨RX6, "add", "(IIJ)I"⟩
abbrev cX6_empty : ByteArray := prog_8_method_5_code
def yX6_empty : MethodName := ⟨RX6, "empty", "(I)I"⟩
def RX7 : String := "QueryTexts$Tree"
def TX7 : u_T := fun k => match k with
  | 0 => ("QueryTexts$Tree", "clauses", "[LQueryTexts$Clause;", true)
  | _ => ("QueryTexts$Tree", "count", "I", false)
def tyX7 : Nat → FieldType := fun k => match k with
  | 0 => .array (.object "QueryTexts$Clause")
  | _ => .int
abbrev wsX70 : List Cond := u_ws RX7 TX7 2
theorem nmX7 : ∀ a, a < 2 → ∀ b, b < 2 → a ≠ b → (TX7 a).2.1 ≠ (TX7 b).2.1 := by decide +kernel
theorem tyX7_ok : ∀ k, k < 2 → parseFieldDescriptor (TX7 k).2.2.1 = some (tyX7 k) := by decide +kernel
abbrev cX7_init : ByteArray := prog_9_method_1_code
def yX7_init : MethodName := ⟨RX7, "<init>", "()V"⟩
abbrev cX7_isEmpty : ByteArray := prog_9_method_2_code
def yX7_isEmpty : MethodName := ⟨RX7, "isEmpty", "()Z"⟩
abbrev cX7_has : ByteArray := prog_9_method_3_code
def yX7_has : MethodName := ⟨RX7, "has", "(I)Z"⟩
abbrev cX7_at : ByteArray := prog_9_method_4_code
def yX7_at : MethodName := ⟨RX7, "at", "(I)LQueryTexts$Clause;"⟩
abbrev cX7_begin : ByteArray := prog_9_method_5_code
def yX7_begin : MethodName := ⟨RX7, "begin", "()V"⟩
abbrev cX7_hasRoom : ByteArray := prog_9_method_6_code
def yX7_hasRoom : MethodName := ⟨RX7, "hasRoom", "(I)Z"⟩
abbrev cX7_add : ByteArray := prog_9_method_7_code
def yX7_add : MethodName := ⟨RX7, "add", "(II)LQueryTexts$Clause;"⟩
abbrev cX7_fieldOf : ByteArray := prog_9_method_8_code
def yX7_fieldOf : MethodName := ⟨RX7, "fieldOf", "(I)I"⟩
def RX8 : String := "QueryTexts"
def TX8 : u_T := fun k => match k with
  | 0 => ("QueryTexts", "tape", "[B", true)
  | 1 => ("QueryTexts", "tapeLength", "I", false)
  | 2 => ("QueryTexts", "keptPlaces", "[I", true)
  | 3 => ("QueryTexts", "droppedPlaces", "[I", true)
  | 4 => ("QueryTexts", "droppedCount", "I", false)
  | 5 => ("QueryTexts", "query", "LQueryTexts$Tree;", false)
  | 6 => ("QueryTexts", "reader", "LQueryTexts$Reader;", true)
  | 7 => ("QueryTexts", "sheet", "LQueryTexts$Sheet;", true)
  | 8 => ("QueryTexts", "judge", "LQueryTexts$Judge;", true)
  | _ => ("QueryTexts", "totals", "[J", true)
def tyX8 : Nat → FieldType := fun k => match k with
  | 0 => .array .byte
  | 1 => .int
  | 2 => .array .int
  | 3 => .array .int
  | 4 => .int
  | 5 => .object "QueryTexts$Tree"
  | 6 => .object "QueryTexts$Reader"
  | 7 => .object "QueryTexts$Sheet"
  | 8 => .object "QueryTexts$Judge"
  | _ => .array .long
abbrev wsX80 : List Cond := u_ws RX8 TX8 10
theorem nmX8 : ∀ a, a < 10 → ∀ b, b < 10 → a ≠ b → (TX8 a).2.1 ≠ (TX8 b).2.1 := by decide +kernel
theorem tyX8_ok : ∀ k, k < 10 → parseFieldDescriptor (TX8 k).2.2.1 = some (tyX8 k) := by decide +kernel
abbrev cX8_init : ByteArray := prog_1_method_1_code
def yX8_init : MethodName := ⟨RX8, "<init>", "()V"⟩
abbrev cX8_feed : ByteArray := prog_1_method_2_code
def yX8_feed : MethodName := ⟨RX8, "feed", "(IJ)I"⟩
abbrev cX8_read : ByteArray := prog_1_method_3_code
def yX8_read : MethodName := ⟨RX8, "read", "()I"⟩
abbrev cX8_lenient : ByteArray := prog_1_method_4_code
def yX8_lenient : MethodName := ⟨RX8, "lenient", "()I"⟩
abbrev cX8_drop : ByteArray := prog_1_method_5_code
def yX8_drop : MethodName := ⟨RX8, "drop", "(I)V"⟩
abbrev cX8_adoptReading : ByteArray := prog_1_method_6_code
def yX8_adoptReading : MethodName := ⟨RX8, "adoptReading", "()I"⟩
abbrev cX8_dropped : ByteArray := prog_1_method_7_code
def yX8_dropped : MethodName := ⟨RX8, "dropped", "(I)I"⟩
abbrev cX8_node : ByteArray := prog_1_method_8_code
def yX8_node : MethodName := ⟨RX8, "node", "(II)I"⟩
abbrev cX8_sign : ByteArray := prog_1_method_9_code
def yX8_sign : MethodName := ⟨RX8, "sign", "(III)I"⟩
abbrev cX8_print : ByteArray := prog_1_method_10_code
def yX8_print : MethodName := ⟨RX8, "print", "()I"⟩
abbrev cX8_out : ByteArray := prog_1_method_11_code
def yX8_out : MethodName := ⟨RX8, "out", "(I)I"⟩
abbrev cX8_word : ByteArray := prog_1_method_12_code
def yX8_word : MethodName := ⟨RX8, "word", "(IIJ)I"⟩
abbrev cX8_clear : ByteArray := prog_1_method_13_code
def yX8_clear : MethodName := ⟨RX8, "clear", "(I)I"⟩
abbrev cX8_fits : ByteArray := prog_1_method_14_code
def yX8_fits : MethodName := ⟨RX8, "fits", "(II)I"⟩
abbrev cX8_worth : ByteArray := prog_1_method_15_code
def yX8_worth : MethodName := ⟨RX8, "worth", "(II)J"⟩
abbrev cX8_ratio : ByteArray := prog_1_method_16_code
def yX8_ratio : MethodName := ⟨RX8, "ratio", "(II)J"⟩
abbrev cX8_why : ByteArray := prog_1_method_17_code
def yX8_why : MethodName := ⟨RX8, "why", "(I)I"⟩
abbrev cX8_rank : ByteArray := prog_1_method_18_code
def yX8_rank : MethodName := ⟨RX8, "rank", "(I)I"⟩
abbrev cX8_countAhead : ByteArray := prog_1_method_19_code
def yX8_countAhead : MethodName := ⟨RX8, "countAhead", "(I)I"⟩
abbrev cX8_isDocument : ByteArray := prog_1_method_20_code
def yX8_isDocument : MethodName := ⟨RX8, "isDocument", "(I)Z"⟩
def RX9 : String := "QueryTextsModel"
def TX9 : u_T := fun k => match k with
  | 0 => ("QueryTextsModel", "thrown", "I", false)
  | 1 => ("QueryTextsModel", "tape", "[I", true)
  | 2 => ("QueryTextsModel", "taped", "I", false)
  | 3 => ("QueryTextsModel", "many", "I", false)
  | 4 => ("QueryTextsModel", "newCore", "[I", true)
  | 5 => ("QueryTextsModel", "newMark", "[I", true)
  | 6 => ("QueryTextsModel", "newBoost", "[I", true)
  | 7 => ("QueryTextsModel", "newField", "[I", true)
  | 8 => ("QueryTextsModel", "newExtra", "[I", true)
  | 9 => ("QueryTextsModel", "newAround", "[I", true)
  | 10 => ("QueryTextsModel", "newCount", "[I", true)
  | 11 => ("QueryTextsModel", "newLong", "[I", true)
  | 12 => ("QueryTextsModel", "newSign", "[I", true)
  | 13 => ("QueryTextsModel", "nodes", "I", false)
  | 14 => ("QueryTextsModel", "core", "[I", true)
  | 15 => ("QueryTextsModel", "mark", "[I", true)
  | 16 => ("QueryTextsModel", "boost", "[I", true)
  | 17 => ("QueryTextsModel", "field", "[I", true)
  | 18 => ("QueryTextsModel", "extra", "[I", true)
  | 19 => ("QueryTextsModel", "around", "[I", true)
  | 20 => ("QueryTextsModel", "count", "[I", true)
  | 21 => ("QueryTextsModel", "longOf", "[I", true)
  | 22 => ("QueryTextsModel", "signs", "[I", true)
  | 23 => ("QueryTextsModel", "at", "I", false)
  | 24 => ("QueryTextsModel", "isWrong", "Z", false)
  | 25 => ("QueryTextsModel", "placeOf", "[I", true)
  | 26 => ("QueryTextsModel", "gone", "[I", true)
  | 27 => ("QueryTextsModel", "goneMany", "I", false)
  | 28 => ("QueryTextsModel", "out", "[I", true)
  | 29 => ("QueryTextsModel", "outMany", "I", false)
  | 30 => ("QueryTextsModel", "words", "[I", true)
  | 31 => ("QueryTextsModel", "wordLong", "[I", true)
  | 32 => ("QueryTextsModel", "wordSign", "[I", true)
  | 33 => ("QueryTextsModel", "table", "[I", true)
  | 34 => ("QueryTextsModel", "is", "[Z", true)
  | 35 => ("QueryTextsModel", "worths", "[J", true)
  | 36 => ("QueryTextsModel", "fieldOf", "[I", true)
  | 37 => ("QueryTextsModel", "fitsAll", "[Z", true)
  | _ => ("QueryTextsModel", "worthAll", "[J", true)
def tyX9 : Nat → FieldType := fun k => match k with
  | 0 => .int
  | 1 => .array .int
  | 2 => .int
  | 3 => .int
  | 4 => .array .int
  | 5 => .array .int
  | 6 => .array .int
  | 7 => .array .int
  | 8 => .array .int
  | 9 => .array .int
  | 10 => .array .int
  | 11 => .array .int
  | 12 => .array .int
  | 13 => .int
  | 14 => .array .int
  | 15 => .array .int
  | 16 => .array .int
  | 17 => .array .int
  | 18 => .array .int
  | 19 => .array .int
  | 20 => .array .int
  | 21 => .array .int
  | 22 => .array .int
  | 23 => .int
  | 24 => .boolean
  | 25 => .array .int
  | 26 => .array .int
  | 27 => .int
  | 28 => .array .int
  | 29 => .int
  | 30 => .array .int
  | 31 => .array .int
  | 32 => .array .int
  | 33 => .array .int
  | 34 => .array .boolean
  | 35 => .array .long
  | 36 => .array .int
  | 37 => .array .boolean
  | _ => .array .long
abbrev wsX90 : List Cond := u_ws RX9 TX9 39
theorem nmX9 : ∀ a, a < 39 → ∀ b, b < 39 → a ≠ b → (TX9 a).2.1 ≠ (TX9 b).2.1 := by decide +kernel
theorem tyX9_ok : ∀ k, k < 39 → parseFieldDescriptor (TX9 k).2.2.1 = some (tyX9 k) := by decide +kernel
abbrev cX9_thrown : ByteArray := prog_11_method_1_code
def yX9_thrown : MethodName := ⟨RX9, "thrown", "()I"⟩
abbrev cX9_in : ByteArray := prog_11_method_2_code
def yX9_in : MethodName := ⟨RX9, "in", "(JJJ)Z"⟩
abbrev cX9_isLetter : ByteArray := prog_11_method_3_code
def yX9_isLetter : MethodName := ⟨RX9, "isLetter", "(I)Z"⟩
abbrev cX9_isFigure : ByteArray := prog_11_method_4_code
def yX9_isFigure : MethodName := ⟨RX9, "isFigure", "(III)Z"⟩
abbrev cX9_init : ByteArray := prog_11_method_5_code
def yX9_init : MethodName := ⟨RX9, "<init>", "()V"⟩
abbrev cX9_feed : ByteArray := prog_11_method_6_code
def yX9_feed : MethodName := ⟨RX9, "feed", "(IJ)I"⟩
abbrev cX9_here : ByteArray := prog_11_method_7_code
def yX9_here : MethodName := ⟨RX9, "here", "()I"⟩
abbrev cX9_fails : ByteArray := prog_11_method_8_code
def yX9_fails : MethodName := ⟨RX9, "fails", "()Z"⟩
abbrev cX9_newNode : ByteArray := prog_11_method_9_code
def yX9_newNode : MethodName := ⟨RX9, "newNode", "(I)I"⟩
abbrev cX9_letters : ByteArray := prog_11_method_10_code
def yX9_letters : MethodName := ⟨RX9, "letters", "(I)Z"⟩
abbrev cX9_figure : ByteArray := prog_11_method_11_code
def yX9_figure : MethodName := ⟨RX9, "figure", "(IIII)Z"⟩
abbrev cX9_word : ByteArray := prog_11_method_12_code
def yX9_word : MethodName := ⟨RX9, "word", "(I)Z"⟩
abbrev cX9_quote : ByteArray := prog_11_method_13_code
def yX9_quote : MethodName := ⟨RX9, "quote", "(I)Z"⟩
abbrev cX9_span : ByteArray := prog_11_method_14_code
def yX9_span : MethodName := ⟨RX9, "span", "(I)Z"⟩
abbrev cX9_ends : ByteArray := prog_11_method_15_code
def yX9_ends : MethodName := ⟨RX9, "ends", "(I)Z"⟩
abbrev cX9_marks : ByteArray := prog_11_method_16_code
def yX9_marks : MethodName := ⟨RX9, "marks", "(I)V"⟩
abbrev cX9_core : ByteArray := prog_11_method_17_code
def yX9_core : MethodName := ⟨RX9, "core", "(II)Z"⟩
abbrev cX9_goAlong : ByteArray := prog_11_method_18_code
def yX9_goAlong : MethodName := ⟨RX9, "goAlong", "()I"⟩
abbrev cX9_become : ByteArray := prog_11_method_19_code
def yX9_become : MethodName := ⟨RX9, "become", "()V"⟩
abbrev cX9_read : ByteArray := prog_11_method_20_code
def yX9_read : MethodName := ⟨RX9, "read", "()I"⟩
abbrev cX9_lenient : ByteArray := prog_11_method_21_code
def yX9_lenient : MethodName := ⟨RX9, "lenient", "()I"⟩
abbrev cX9_dropped : ByteArray := prog_11_method_22_code
def yX9_dropped : MethodName := ⟨RX9, "dropped", "(I)I"⟩
abbrev cX9_isNode : ByteArray := prog_11_method_23_code
def yX9_isNode : MethodName := ⟨RX9, "isNode", "(I)Z"⟩
abbrev cX9_node : ByteArray := prog_11_method_24_code
def yX9_node : MethodName := ⟨RX9, "node", "(II)I"⟩
abbrev cX9_sign : ByteArray := prog_11_method_25_code
def yX9_sign : MethodName := ⟨RX9, "sign", "(III)I"⟩
abbrev cX9_put : ByteArray := prog_11_method_26_code
def yX9_put : MethodName := ⟨RX9, "put", "(I)V"⟩
abbrev cX9_putWord : ByteArray := prog_11_method_27_code
def yX9_putWord : MethodName := ⟨RX9, "putWord", "(II)V"⟩
abbrev cX9_putBoost : ByteArray := prog_11_method_28_code
def yX9_putBoost : MethodName := ⟨RX9, "putBoost", "(I)V"⟩
abbrev cX9_putCore : ByteArray := prog_11_method_29_code
def yX9_putCore : MethodName := ⟨RX9, "putCore", "(I)V"⟩
abbrev cX9_closes : ByteArray := prog_11_method_30_code
def yX9_closes : MethodName := ⟨RX9, "closes", "(I)V"⟩
abbrev cX9_print : ByteArray := prog_11_method_31_code
def yX9_print : MethodName := ⟨RX9, "print", "()I"⟩
abbrev cX9_out : ByteArray := prog_11_method_32_code
def yX9_out : MethodName := ⟨RX9, "out", "(I)I"⟩
abbrev cX9_isDocument : ByteArray := prog_11_method_33_code
def yX9_isDocument : MethodName := ⟨RX9, "isDocument", "(I)Z"⟩
abbrev cX9_word_ : ByteArray := prog_11_method_34_code
def yX9_word_ : MethodName := ⟨RX9, "word", "(IIJ)I"⟩
abbrev cX9_clear : ByteArray := prog_11_method_35_code
def yX9_clear : MethodName := ⟨RX9, "clear", "(I)I"⟩
abbrev cX9_against : ByteArray := prog_11_method_36_code
def yX9_against : MethodName := ⟨RX9, "against", "(III)I"⟩
abbrev cX9_least : ByteArray := prog_11_method_37_code
def yX9_least : MethodName := ⟨RX9, "least", "(II)I"⟩
abbrev cX9_changes : ByteArray := prog_11_method_38_code
def yX9_changes : MethodName := ⟨RX9, "changes", "(II)I"⟩
abbrev cX9_fitsSigns : ByteArray := prog_11_method_39_code
def yX9_fitsSigns : MethodName := ⟨RX9, "fitsSigns", "(II)Z"⟩
abbrev cX9_fitsWord : ByteArray := prog_11_method_40_code
def yX9_fitsWord : MethodName := ⟨RX9, "fitsWord", "(II)Z"⟩
abbrev cX9_quoteAt : ByteArray := prog_11_method_41_code
def yX9_quoteAt : MethodName := ⟨RX9, "quoteAt", "(IIII)Z"⟩
abbrev cX9_countOf : ByteArray := prog_11_method_42_code
def yX9_countOf : MethodName := ⟨RX9, "countOf", "(II)I"⟩
abbrev cX9_reckonGroup : ByteArray := prog_11_method_43_code
def yX9_reckonGroup : MethodName := ⟨RX9, "reckonGroup", "(I)V"⟩
abbrev cX9_reckon : ByteArray := prog_11_method_44_code
def yX9_reckon : MethodName := ⟨RX9, "reckon", "(I)V"⟩
abbrev cX9_fits : ByteArray := prog_11_method_45_code
def yX9_fits : MethodName := ⟨RX9, "fits", "(II)I"⟩
abbrev cX9_worth : ByteArray := prog_11_method_46_code
def yX9_worth : MethodName := ⟨RX9, "worth", "(II)J"⟩
abbrev cX9_ratio : ByteArray := prog_11_method_47_code
def yX9_ratio : MethodName := ⟨RX9, "ratio", "(II)J"⟩
abbrev cX9_why : ByteArray := prog_11_method_48_code
def yX9_why : MethodName := ⟨RX9, "why", "(I)I"⟩
abbrev cX9_rank : ByteArray := prog_11_method_49_code
def yX9_rank : MethodName := ⟨RX9, "rank", "(I)I"⟩
def RJx00060 : String := "java/lang/ArrayIndexOutOfBoundsException"
def TJx00060 : u_T := fun k => match k with
  | 0 => ("java/lang/Throwable", "backtrace", "Ljava/lang/Object;", false)
  | 1 => ("java/lang/Throwable", "detailMessage", "Ljava/lang/String;", false)
  | 2 => ("java/lang/Throwable", "cause", "Ljava/lang/Throwable;", false)
  | 3 => ("java/lang/Throwable", "stackTrace", "[Ljava/lang/StackTraceElement;", false)
  | 4 => ("java/lang/Throwable", "depth", "I", false)
  | _ => ("java/lang/Throwable", "suppressedExceptions", "Ljava/util/List;", false)
def tyJx00060 : Nat → FieldType := fun k => match k with
  | 0 => .object "java/lang/Object"
  | 1 => .object "java/lang/String"
  | 2 => .object "java/lang/Throwable"
  | 3 => .array (.object "java/lang/StackTraceElement")
  | 4 => .int
  | _ => .object "java/util/List"
abbrev cJx00060_init_a7421 : ByteArray := prog_13_method_2_code
def yJx00060_init_a7421 : MethodName := ⟨RJx00060, "<init>", "(Ljava/lang/String;)V"⟩
def RJx3273f : String := "java/lang/ClassCastException"
def TJx3273f : u_T := fun k => match k with
  | 0 => ("java/lang/Throwable", "backtrace", "Ljava/lang/Object;", false)
  | 1 => ("java/lang/Throwable", "detailMessage", "Ljava/lang/String;", false)
  | 2 => ("java/lang/Throwable", "cause", "Ljava/lang/Throwable;", false)
  | 3 => ("java/lang/Throwable", "stackTrace", "[Ljava/lang/StackTraceElement;", false)
  | 4 => ("java/lang/Throwable", "depth", "I", false)
  | _ => ("java/lang/Throwable", "suppressedExceptions", "Ljava/util/List;", false)
def tyJx3273f : Nat → FieldType := fun k => match k with
  | 0 => .object "java/lang/Object"
  | 1 => .object "java/lang/String"
  | 2 => .object "java/lang/Throwable"
  | 3 => .array (.object "java/lang/StackTraceElement")
  | 4 => .int
  | _ => .object "java/util/List"
abbrev cJx3273f_init_a7421 : ByteArray := prog_14_method_2_code
def yJx3273f_init_a7421 : MethodName := ⟨RJx3273f, "<init>", "(Ljava/lang/String;)V"⟩
def RJ9 : String := "java/lang/Math"
def TJ9 : u_T := fun k => match k with
  | _ => ("", "", "", false)
def tyJ9 : Nat → FieldType := fun k => match k with
  | _ => .int
abbrev cJ9_floorDiv_f86c9 : ByteArray := prog_17_method_49_code
def yJ9_floorDiv_f86c9 : MethodName := ⟨RJ9, "floorDiv", "(JJ)J"⟩
abbrev cJ9_max_f86c9 : ByteArray := prog_17_method_66_code
def yJ9_max_f86c9 : MethodName := ⟨RJ9, "max", "(JJ)J"⟩
abbrev cJ9_min_7cf53 : ByteArray := prog_17_method_69_code
def yJ9_min_7cf53 : MethodName := ⟨RJ9, "min", "(II)I"⟩
def RJx5d777 : String := "java/lang/NullPointerException"
def TJx5d777 : u_T := fun k => match k with
  | 0 => ("java/lang/Throwable", "backtrace", "Ljava/lang/Object;", false)
  | 1 => ("java/lang/Throwable", "detailMessage", "Ljava/lang/String;", false)
  | 2 => ("java/lang/Throwable", "cause", "Ljava/lang/Throwable;", false)
  | 3 => ("java/lang/Throwable", "stackTrace", "[Ljava/lang/StackTraceElement;", false)
  | 4 => ("java/lang/Throwable", "depth", "I", false)
  | 5 => ("java/lang/Throwable", "suppressedExceptions", "Ljava/util/List;", false)
  | 6 => ("java/lang/NullPointerException", "extendedMessageState", "I", false)
  | _ => ("java/lang/NullPointerException", "extendedMessage", "Ljava/lang/String;", false)
def tyJx5d777 : Nat → FieldType := fun k => match k with
  | 0 => .object "java/lang/Object"
  | 1 => .object "java/lang/String"
  | 2 => .object "java/lang/Throwable"
  | 3 => .array (.object "java/lang/StackTraceElement")
  | 4 => .int
  | 5 => .object "java/util/List"
  | 6 => .int
  | _ => .object "java/lang/String"
abbrev cJx5d777_init_da8c8 : ByteArray := prog_18_method_1_code
def yJx5d777_init_da8c8 : MethodName := ⟨RJx5d777, "<init>", "()V"⟩
abbrev cJx5d777_init_a7421 : ByteArray := prog_18_method_2_code
def yJx5d777_init_a7421 : MethodName := ⟨RJx5d777, "<init>", "(Ljava/lang/String;)V"⟩
abbrev cJx5d777_fillInStackTrace_cddbd : ByteArray := prog_18_method_3_code
def yJx5d777_fillInStackTrace_cddbd : MethodName := ⟨RJx5d777, "fillInStackTrace", "()Ljava/lang/Throwable;"⟩
def RJ0 : String := "java/lang/String"
def TJ0 : u_T := fun k => match k with
  | 0 => ("java/lang/String", "value", "[B", true)
  | _ => ("java/lang/String", "coder", "B", true)
def tyJ0 : Nat → FieldType := fun k => match k with
  | 0 => .array .byte
  | _ => .byte
def RJ7 : String := "java/util/Arrays"
def TJ7 : u_T := fun k => match k with
  | _ => ("", "", "", false)
def tyJ7 : Nat → FieldType := fun k => match k with
  | _ => .int
abbrev cJ7_fill_d0a16 : ByteArray := prog_22_method_101_code
def yJ7_fill_d0a16 : MethodName := ⟨RJ7, "fill", "([JJ)V"⟩
def RL : String := "QueryTextsLaw"
abbrev cL_node : ByteArray := method_3_code
def yL_node : MethodName := ⟨RL, "node", "(LQueryTexts;II[J)I"⟩
abbrev cL_sign : ByteArray := method_4_code
def yL_sign : MethodName := ⟨RL, "sign", "(LQueryTexts;III[J)I"⟩
abbrev cL_out : ByteArray := method_5_code
def yL_out : MethodName := ⟨RL, "out", "(LQueryTexts;I[J)I"⟩
abbrev cL_ratio : ByteArray := method_6_code
def yL_ratio : MethodName := ⟨RL, "ratio", "(LQueryTexts;II[J)I"⟩
abbrev cL_law : ByteArray := code
def yL_law : MethodName := ⟨RL, "law", "([I)Z"⟩
/-! the words that every method here is given: the good ones of the tables -/
def BIG : List Cond := lw_tbl.filter goodWord
theorem big_t {w : Cond} {i : Nat} (h : tables_1[i]? = some w) (g : goodWord w = true) : w ∈ BIG := List.mem_filter.mpr ⟨List.mem_append_right _ (List.mem_of_getElem? h), g⟩
theorem big_s {w : Cond} {i : Nat} (h : (k2_sels lw_privs)[i]? = some w) (g : goodWord w = true) : w ∈ BIG := List.mem_filter.mpr ⟨List.mem_append_left _ (List.mem_of_getElem? h), g⟩
theorem big_good {w : Cond} (h : w ∈ BIG) : w ∈ BIG ∧ ((w.onTables && w.keeps) = true ∨ ∃ ty, w = .arrayClass ty) := ⟨h, good_of_word (List.mem_filter.mp h).2⟩
abbrev clsL : List vw_C := [(RX0, TX0, 8), (RX1, TX1, 3), (RX3, TX3, 1), (RX4, TX4, 8), (RX5, TX5, 2), (RX6, TX6, 2), (RX7, TX7, 2), (RX8, TX8, 10), (RX9, TX9, 39)]
def tyL : Nat → Nat → FieldType := fun c => match c with
  | 0 => tyX0
  | 1 => tyX1
  | 2 => tyX3
  | 3 => tyX4
  | 4 => tyX5
  | 5 => tyX6
  | 6 => tyX7
  | 7 => tyX8
  | _ => tyX9
def fkL : Nat → List Bool := fun c => match c with
  | 0 => [true, true, true, true, true, true, true, false]
  | 1 => [false, false, false]
  | 2 => [false]
  | 3 => [false, true, true, true, false, true, true, true]
  | 4 => [false, true]
  | 5 => [false, false]
  | 6 => [false, true]
  | 7 => [false, true, false, false, true, false, false, false, false, false]
  | _ => [true, false, true, true, false, false, false, false, false, false, false, false, false, true, false, false, false, false, false, false, false, false, false, true, true, false, false, true, false, true, false, false, false, false, false, false, false, false, false]
theorem layX0 : ∀ w ∈ u_ws RX0 TX0 8, w ∈ BIG := by
  intro w hw
  obtain ⟨k, hk, rfl⟩ := List.mem_map.mp hw
  have hk := List.mem_range.mp hk
  match k, hk with
  | 0, _ => exact big_t (i := 84) (by decide +kernel) (by decide +kernel)
  | 1, _ => exact big_t (i := 86) (by decide +kernel) (by decide +kernel)
  | 2, _ => exact big_t (i := 88) (by decide +kernel) (by decide +kernel)
  | 3, _ => exact big_t (i := 90) (by decide +kernel) (by decide +kernel)
  | 4, _ => exact big_t (i := 92) (by decide +kernel) (by decide +kernel)
  | 5, _ => exact big_t (i := 94) (by decide +kernel) (by decide +kernel)
  | 6, _ => exact big_t (i := 96) (by decide +kernel) (by decide +kernel)
  | 7, _ => exact big_t (i := 98) (by decide +kernel) (by decide +kernel)
  | _ + 8, h => exact absurd h (by omega)
theorem layX1 : ∀ w ∈ u_ws RX1 TX1 3, w ∈ BIG := by
  intro w hw
  obtain ⟨k, hk, rfl⟩ := List.mem_map.mp hw
  have hk := List.mem_range.mp hk
  match k, hk with
  | 0, _ => exact big_t (i := 196) (by decide +kernel) (by decide +kernel)
  | 1, _ => exact big_t (i := 198) (by decide +kernel) (by decide +kernel)
  | 2, _ => exact big_t (i := 200) (by decide +kernel) (by decide +kernel)
  | _ + 3, h => exact absurd h (by omega)
theorem layX3 : ∀ w ∈ u_ws RX3 TX3 1, w ∈ BIG := by
  intro w hw
  obtain ⟨k, hk, rfl⟩ := List.mem_map.mp hw
  have hk := List.mem_range.mp hk
  match k, hk with
  | 0, _ => exact big_t (i := 189) (by decide +kernel) (by decide +kernel)
  | _ + 1, h => exact absurd h (by omega)
theorem layX4 : ∀ w ∈ u_ws RX4 TX4 8, w ∈ BIG := by
  intro w hw
  obtain ⟨k, hk, rfl⟩ := List.mem_map.mp hw
  have hk := List.mem_range.mp hk
  match k, hk with
  | 0, _ => exact big_t (i := 133) (by decide +kernel) (by decide +kernel)
  | 1, _ => exact big_t (i := 135) (by decide +kernel) (by decide +kernel)
  | 2, _ => exact big_t (i := 137) (by decide +kernel) (by decide +kernel)
  | 3, _ => exact big_t (i := 139) (by decide +kernel) (by decide +kernel)
  | 4, _ => exact big_t (i := 141) (by decide +kernel) (by decide +kernel)
  | 5, _ => exact big_t (i := 143) (by decide +kernel) (by decide +kernel)
  | 6, _ => exact big_t (i := 145) (by decide +kernel) (by decide +kernel)
  | 7, _ => exact big_t (i := 147) (by decide +kernel) (by decide +kernel)
  | _ + 8, h => exact absurd h (by omega)
theorem layX5 : ∀ w ∈ u_ws RX5 TX5 2, w ∈ BIG := by
  intro w hw
  obtain ⟨k, hk, rfl⟩ := List.mem_map.mp hw
  have hk := List.mem_range.mp hk
  match k, hk with
  | 0, _ => exact big_t (i := 158) (by decide +kernel) (by decide +kernel)
  | 1, _ => exact big_t (i := 160) (by decide +kernel) (by decide +kernel)
  | _ + 2, h => exact absurd h (by omega)
theorem layX6 : ∀ w ∈ u_ws RX6 TX6 2, w ∈ BIG := by
  intro w hw
  obtain ⟨k, hk, rfl⟩ := List.mem_map.mp hw
  have hk := List.mem_range.mp hk
  match k, hk with
  | 0, _ => exact big_t (i := 177) (by decide +kernel) (by decide +kernel)
  | 1, _ => exact big_t (i := 179) (by decide +kernel) (by decide +kernel)
  | _ + 2, h => exact absurd h (by omega)
theorem layX7 : ∀ w ∈ u_ws RX7 TX7 2, w ∈ BIG := by
  intro w hw
  obtain ⟨k, hk, rfl⟩ := List.mem_map.mp hw
  have hk := List.mem_range.mp hk
  match k, hk with
  | 0, _ => exact big_t (i := 110) (by decide +kernel) (by decide +kernel)
  | 1, _ => exact big_t (i := 112) (by decide +kernel) (by decide +kernel)
  | _ + 2, h => exact absurd h (by omega)
theorem layX8 : ∀ w ∈ u_ws RX8 TX8 10, w ∈ BIG := by
  intro w hw
  obtain ⟨k, hk, rfl⟩ := List.mem_map.mp hw
  have hk := List.mem_range.mp hk
  match k, hk with
  | 0, _ => exact big_t (i := 213) (by decide +kernel) (by decide +kernel)
  | 1, _ => exact big_t (i := 215) (by decide +kernel) (by decide +kernel)
  | 2, _ => exact big_t (i := 217) (by decide +kernel) (by decide +kernel)
  | 3, _ => exact big_t (i := 219) (by decide +kernel) (by decide +kernel)
  | 4, _ => exact big_t (i := 221) (by decide +kernel) (by decide +kernel)
  | 5, _ => exact big_t (i := 223) (by decide +kernel) (by decide +kernel)
  | 6, _ => exact big_t (i := 225) (by decide +kernel) (by decide +kernel)
  | 7, _ => exact big_t (i := 227) (by decide +kernel) (by decide +kernel)
  | 8, _ => exact big_t (i := 229) (by decide +kernel) (by decide +kernel)
  | 9, _ => exact big_t (i := 231) (by decide +kernel) (by decide +kernel)
  | _ + 10, h => exact absurd h (by omega)
theorem layX9 : ∀ w ∈ u_ws RX9 TX9 39, w ∈ BIG := by
  intro w hw
  obtain ⟨k, hk, rfl⟩ := List.mem_map.mp hw
  have hk := List.mem_range.mp hk
  match k, hk with
  | 0, _ => exact big_t (i := 835) (by decide +kernel) (by decide +kernel)
  | 1, _ => exact big_t (i := 837) (by decide +kernel) (by decide +kernel)
  | 2, _ => exact big_t (i := 839) (by decide +kernel) (by decide +kernel)
  | 3, _ => exact big_t (i := 841) (by decide +kernel) (by decide +kernel)
  | 4, _ => exact big_t (i := 843) (by decide +kernel) (by decide +kernel)
  | 5, _ => exact big_t (i := 845) (by decide +kernel) (by decide +kernel)
  | 6, _ => exact big_t (i := 847) (by decide +kernel) (by decide +kernel)
  | 7, _ => exact big_t (i := 849) (by decide +kernel) (by decide +kernel)
  | 8, _ => exact big_t (i := 851) (by decide +kernel) (by decide +kernel)
  | 9, _ => exact big_t (i := 853) (by decide +kernel) (by decide +kernel)
  | 10, _ => exact big_t (i := 855) (by decide +kernel) (by decide +kernel)
  | 11, _ => exact big_t (i := 857) (by decide +kernel) (by decide +kernel)
  | 12, _ => exact big_t (i := 859) (by decide +kernel) (by decide +kernel)
  | 13, _ => exact big_t (i := 861) (by decide +kernel) (by decide +kernel)
  | 14, _ => exact big_t (i := 863) (by decide +kernel) (by decide +kernel)
  | 15, _ => exact big_t (i := 865) (by decide +kernel) (by decide +kernel)
  | 16, _ => exact big_t (i := 867) (by decide +kernel) (by decide +kernel)
  | 17, _ => exact big_t (i := 869) (by decide +kernel) (by decide +kernel)
  | 18, _ => exact big_t (i := 871) (by decide +kernel) (by decide +kernel)
  | 19, _ => exact big_t (i := 873) (by decide +kernel) (by decide +kernel)
  | 20, _ => exact big_t (i := 875) (by decide +kernel) (by decide +kernel)
  | 21, _ => exact big_t (i := 877) (by decide +kernel) (by decide +kernel)
  | 22, _ => exact big_t (i := 879) (by decide +kernel) (by decide +kernel)
  | 23, _ => exact big_t (i := 881) (by decide +kernel) (by decide +kernel)
  | 24, _ => exact big_t (i := 883) (by decide +kernel) (by decide +kernel)
  | 25, _ => exact big_t (i := 885) (by decide +kernel) (by decide +kernel)
  | 26, _ => exact big_t (i := 887) (by decide +kernel) (by decide +kernel)
  | 27, _ => exact big_t (i := 889) (by decide +kernel) (by decide +kernel)
  | 28, _ => exact big_t (i := 891) (by decide +kernel) (by decide +kernel)
  | 29, _ => exact big_t (i := 893) (by decide +kernel) (by decide +kernel)
  | 30, _ => exact big_t (i := 895) (by decide +kernel) (by decide +kernel)
  | 31, _ => exact big_t (i := 897) (by decide +kernel) (by decide +kernel)
  | 32, _ => exact big_t (i := 899) (by decide +kernel) (by decide +kernel)
  | 33, _ => exact big_t (i := 901) (by decide +kernel) (by decide +kernel)
  | 34, _ => exact big_t (i := 903) (by decide +kernel) (by decide +kernel)
  | 35, _ => exact big_t (i := 905) (by decide +kernel) (by decide +kernel)
  | 36, _ => exact big_t (i := 907) (by decide +kernel) (by decide +kernel)
  | 37, _ => exact big_t (i := 909) (by decide +kernel) (by decide +kernel)
  | 38, _ => exact big_t (i := 911) (by decide +kernel) (by decide +kernel)
  | _ + 39, h => exact absurd h (by omega)
def FL (own : String) (idx ci k : Nat) : Prop := ∃ (C : String) (T : u_T) (N : Nat), clsL[ci]? = some (C, T, N) ∧ k < N ∧ Cond.fieldLink own idx (T k).1 (T k).2.1 (T k).2.2.1 ∈ BIG
theorem fl_X0_9 : FL RX0 9 0 0 := ⟨RX0, TX0, 8, rfl, by decide, big_t (i := 43) (by decide +kernel) (by decide +kernel)⟩
theorem fl_X3_15 : FL RX3 15 0 0 := ⟨RX0, TX0, 8, rfl, by decide, big_t (i := 44) (by decide +kernel) (by decide +kernel)⟩
theorem fl_X1_39 : FL RX1 39 0 0 := ⟨RX0, TX0, 8, rfl, by decide, big_t (i := 45) (by decide +kernel) (by decide +kernel)⟩
theorem fl_X5_45 : FL RX5 45 0 0 := ⟨RX0, TX0, 8, rfl, by decide, big_t (i := 46) (by decide +kernel) (by decide +kernel)⟩
theorem fl_X7_26 : FL RX7 26 0 0 := ⟨RX0, TX0, 8, rfl, by decide, big_t (i := 47) (by decide +kernel) (by decide +kernel)⟩
theorem fl_X8_99 : FL RX8 99 0 0 := ⟨RX0, TX0, 8, rfl, by decide, big_t (i := 48) (by decide +kernel) (by decide +kernel)⟩
theorem fl_X4_125 : FL RX4 125 0 0 := ⟨RX0, TX0, 8, rfl, by decide, big_t (i := 49) (by decide +kernel) (by decide +kernel)⟩
theorem fl_X0_15 : FL RX0 15 0 1 := ⟨RX0, TX0, 8, rfl, by decide, big_t (i := 50) (by decide +kernel) (by decide +kernel)⟩
theorem fl_X1_72 : FL RX1 72 0 1 := ⟨RX0, TX0, 8, rfl, by decide, big_t (i := 51) (by decide +kernel) (by decide +kernel)⟩
theorem fl_X5_61 : FL RX5 61 0 1 := ⟨RX0, TX0, 8, rfl, by decide, big_t (i := 52) (by decide +kernel) (by decide +kernel)⟩
theorem fl_X8_104 : FL RX8 104 0 1 := ⟨RX0, TX0, 8, rfl, by decide, big_t (i := 53) (by decide +kernel) (by decide +kernel)⟩
theorem fl_X0_18 : FL RX0 18 0 2 := ⟨RX0, TX0, 8, rfl, by decide, big_t (i := 54) (by decide +kernel) (by decide +kernel)⟩
theorem fl_X1_62 : FL RX1 62 0 2 := ⟨RX0, TX0, 8, rfl, by decide, big_t (i := 55) (by decide +kernel) (by decide +kernel)⟩
theorem fl_X5_51 : FL RX5 51 0 2 := ⟨RX0, TX0, 8, rfl, by decide, big_t (i := 56) (by decide +kernel) (by decide +kernel)⟩
theorem fl_X4_100 : FL RX4 100 0 2 := ⟨RX0, TX0, 8, rfl, by decide, big_t (i := 57) (by decide +kernel) (by decide +kernel)⟩
theorem fl_X8_107 : FL RX8 107 0 2 := ⟨RX0, TX0, 8, rfl, by decide, big_t (i := 58) (by decide +kernel) (by decide +kernel)⟩
theorem fl_X0_21 : FL RX0 21 0 3 := ⟨RX0, TX0, 8, rfl, by decide, big_t (i := 59) (by decide +kernel) (by decide +kernel)⟩
theorem fl_X5_64 : FL RX5 64 0 3 := ⟨RX0, TX0, 8, rfl, by decide, big_t (i := 60) (by decide +kernel) (by decide +kernel)⟩
theorem fl_X7_39 : FL RX7 39 0 3 := ⟨RX0, TX0, 8, rfl, by decide, big_t (i := 61) (by decide +kernel) (by decide +kernel)⟩
theorem fl_X8_110 : FL RX8 110 0 3 := ⟨RX0, TX0, 8, rfl, by decide, big_t (i := 62) (by decide +kernel) (by decide +kernel)⟩
theorem fl_X4_161 : FL RX4 161 0 3 := ⟨RX0, TX0, 8, rfl, by decide, big_t (i := 63) (by decide +kernel) (by decide +kernel)⟩
theorem fl_X0_24 : FL RX0 24 0 4 := ⟨RX0, TX0, 8, rfl, by decide, big_t (i := 64) (by decide +kernel) (by decide +kernel)⟩
theorem fl_X3_25 : FL RX3 25 0 4 := ⟨RX0, TX0, 8, rfl, by decide, big_t (i := 65) (by decide +kernel) (by decide +kernel)⟩
theorem fl_X7_29 : FL RX7 29 0 4 := ⟨RX0, TX0, 8, rfl, by decide, big_t (i := 66) (by decide +kernel) (by decide +kernel)⟩
theorem fl_X5_58 : FL RX5 58 0 4 := ⟨RX0, TX0, 8, rfl, by decide, big_t (i := 67) (by decide +kernel) (by decide +kernel)⟩
theorem fl_X1_85 : FL RX1 85 0 4 := ⟨RX0, TX0, 8, rfl, by decide, big_t (i := 68) (by decide +kernel) (by decide +kernel)⟩
theorem fl_X8_113 : FL RX8 113 0 4 := ⟨RX0, TX0, 8, rfl, by decide, big_t (i := 69) (by decide +kernel) (by decide +kernel)⟩
theorem fl_X4_128 : FL RX4 128 0 4 := ⟨RX0, TX0, 8, rfl, by decide, big_t (i := 70) (by decide +kernel) (by decide +kernel)⟩
theorem fl_X0_27 : FL RX0 27 0 5 := ⟨RX0, TX0, 8, rfl, by decide, big_t (i := 71) (by decide +kernel) (by decide +kernel)⟩
theorem fl_X4_52 : FL RX4 52 0 5 := ⟨RX0, TX0, 8, rfl, by decide, big_t (i := 72) (by decide +kernel) (by decide +kernel)⟩
theorem fl_X7_36 : FL RX7 36 0 5 := ⟨RX0, TX0, 8, rfl, by decide, big_t (i := 73) (by decide +kernel) (by decide +kernel)⟩
theorem fl_X8_116 : FL RX8 116 0 5 := ⟨RX0, TX0, 8, rfl, by decide, big_t (i := 74) (by decide +kernel) (by decide +kernel)⟩
theorem fl_X5_81 : FL RX5 81 0 5 := ⟨RX0, TX0, 8, rfl, by decide, big_t (i := 75) (by decide +kernel) (by decide +kernel)⟩
theorem fl_X1_113 : FL RX1 113 0 5 := ⟨RX0, TX0, 8, rfl, by decide, big_t (i := 76) (by decide +kernel) (by decide +kernel)⟩
theorem fl_X0_30 : FL RX0 30 0 6 := ⟨RX0, TX0, 8, rfl, by decide, big_t (i := 77) (by decide +kernel) (by decide +kernel)⟩
theorem fl_X5_28 : FL RX5 28 0 6 := ⟨RX0, TX0, 8, rfl, by decide, big_t (i := 78) (by decide +kernel) (by decide +kernel)⟩
theorem fl_X1_69 : FL RX1 69 0 6 := ⟨RX0, TX0, 8, rfl, by decide, big_t (i := 79) (by decide +kernel) (by decide +kernel)⟩
theorem fl_X7_42 : FL RX7 42 0 6 := ⟨RX0, TX0, 8, rfl, by decide, big_t (i := 80) (by decide +kernel) (by decide +kernel)⟩
theorem fl_X8_119 : FL RX8 119 0 6 := ⟨RX0, TX0, 8, rfl, by decide, big_t (i := 81) (by decide +kernel) (by decide +kernel)⟩
theorem fl_X4_137 : FL RX4 137 0 6 := ⟨RX0, TX0, 8, rfl, by decide, big_t (i := 82) (by decide +kernel) (by decide +kernel)⟩
theorem fl_X0_33 : FL RX0 33 0 7 := ⟨RX0, TX0, 8, rfl, by decide, big_t (i := 83) (by decide +kernel) (by decide +kernel)⟩
theorem fl_X7_11 : FL RX7 11 6 0 := ⟨RX7, TX7, 2, rfl, by decide, big_t (i := 104) (by decide +kernel) (by decide +kernel)⟩
theorem fl_X7_17 : FL RX7 17 6 1 := ⟨RX7, TX7, 2, rfl, by decide, big_t (i := 105) (by decide +kernel) (by decide +kernel)⟩
theorem fl_X1_29 : FL RX1 29 6 1 := ⟨RX7, TX7, 2, rfl, by decide, big_t (i := 106) (by decide +kernel) (by decide +kernel)⟩
theorem fl_X5_19 : FL RX5 19 6 1 := ⟨RX7, TX7, 2, rfl, by decide, big_t (i := 107) (by decide +kernel) (by decide +kernel)⟩
theorem fl_X8_82 : FL RX8 82 6 1 := ⟨RX7, TX7, 2, rfl, by decide, big_t (i := 108) (by decide +kernel) (by decide +kernel)⟩
theorem fl_X4_134 : FL RX4 134 6 1 := ⟨RX7, TX7, 2, rfl, by decide, big_t (i := 109) (by decide +kernel) (by decide +kernel)⟩
theorem fl_X4_12 : FL RX4 12 3 0 := ⟨RX4, TX4, 8, rfl, by decide, big_t (i := 125) (by decide +kernel) (by decide +kernel)⟩
theorem fl_X4_18 : FL RX4 18 3 1 := ⟨RX4, TX4, 8, rfl, by decide, big_t (i := 126) (by decide +kernel) (by decide +kernel)⟩
theorem fl_X4_22 : FL RX4 22 3 2 := ⟨RX4, TX4, 8, rfl, by decide, big_t (i := 127) (by decide +kernel) (by decide +kernel)⟩
theorem fl_X4_25 : FL RX4 25 3 3 := ⟨RX4, TX4, 8, rfl, by decide, big_t (i := 128) (by decide +kernel) (by decide +kernel)⟩
theorem fl_X4_31 : FL RX4 31 3 4 := ⟨RX4, TX4, 8, rfl, by decide, big_t (i := 129) (by decide +kernel) (by decide +kernel)⟩
theorem fl_X4_35 : FL RX4 35 3 5 := ⟨RX4, TX4, 8, rfl, by decide, big_t (i := 130) (by decide +kernel) (by decide +kernel)⟩
theorem fl_X4_38 : FL RX4 38 3 6 := ⟨RX4, TX4, 8, rfl, by decide, big_t (i := 131) (by decide +kernel) (by decide +kernel)⟩
theorem fl_X4_41 : FL RX4 41 3 7 := ⟨RX4, TX4, 8, rfl, by decide, big_t (i := 132) (by decide +kernel) (by decide +kernel)⟩
theorem fl_X5_9 : FL RX5 9 4 0 := ⟨RX5, TX5, 2, rfl, by decide, big_t (i := 156) (by decide +kernel) (by decide +kernel)⟩
theorem fl_X5_15 : FL RX5 15 4 1 := ⟨RX5, TX5, 2, rfl, by decide, big_t (i := 157) (by decide +kernel) (by decide +kernel)⟩
theorem fl_X6_9 : FL RX6 9 5 0 := ⟨RX6, TX6, 2, rfl, by decide, big_t (i := 175) (by decide +kernel) (by decide +kernel)⟩
theorem fl_X6_15 : FL RX6 15 5 1 := ⟨RX6, TX6, 2, rfl, by decide, big_t (i := 176) (by decide +kernel) (by decide +kernel)⟩
theorem fl_X3_9 : FL RX3 9 2 0 := ⟨RX3, TX3, 1, rfl, by decide, big_t (i := 188) (by decide +kernel) (by decide +kernel)⟩
theorem fl_X1_12 : FL RX1 12 1 0 := ⟨RX1, TX1, 3, rfl, by decide, big_t (i := 192) (by decide +kernel) (by decide +kernel)⟩
theorem fl_X8_167 : FL RX8 167 1 0 := ⟨RX1, TX1, 3, rfl, by decide, big_t (i := 193) (by decide +kernel) (by decide +kernel)⟩
theorem fl_X1_21 : FL RX1 21 1 1 := ⟨RX1, TX1, 3, rfl, by decide, big_t (i := 194) (by decide +kernel) (by decide +kernel)⟩
theorem fl_X1_25 : FL RX1 25 1 2 := ⟨RX1, TX1, 3, rfl, by decide, big_t (i := 195) (by decide +kernel) (by decide +kernel)⟩
theorem fl_X8_9 : FL RX8 9 7 0 := ⟨RX8, TX8, 10, rfl, by decide, big_t (i := 203) (by decide +kernel) (by decide +kernel)⟩
theorem fl_X8_13 : FL RX8 13 7 1 := ⟨RX8, TX8, 10, rfl, by decide, big_t (i := 204) (by decide +kernel) (by decide +kernel)⟩
theorem fl_X8_17 : FL RX8 17 7 2 := ⟨RX8, TX8, 10, rfl, by decide, big_t (i := 205) (by decide +kernel) (by decide +kernel)⟩
theorem fl_X8_21 : FL RX8 21 7 3 := ⟨RX8, TX8, 10, rfl, by decide, big_t (i := 206) (by decide +kernel) (by decide +kernel)⟩
theorem fl_X8_24 : FL RX8 24 7 4 := ⟨RX8, TX8, 10, rfl, by decide, big_t (i := 207) (by decide +kernel) (by decide +kernel)⟩
theorem fl_X8_30 : FL RX8 30 7 5 := ⟨RX8, TX8, 10, rfl, by decide, big_t (i := 208) (by decide +kernel) (by decide +kernel)⟩
theorem fl_X8_37 : FL RX8 37 7 6 := ⟨RX8, TX8, 10, rfl, by decide, big_t (i := 209) (by decide +kernel) (by decide +kernel)⟩
theorem fl_X8_44 : FL RX8 44 7 7 := ⟨RX8, TX8, 10, rfl, by decide, big_t (i := 210) (by decide +kernel) (by decide +kernel)⟩
theorem fl_X8_51 : FL RX8 51 7 8 := ⟨RX8, TX8, 10, rfl, by decide, big_t (i := 211) (by decide +kernel) (by decide +kernel)⟩
theorem fl_X8_55 : FL RX8 55 7 9 := ⟨RX8, TX8, 10, rfl, by decide, big_t (i := 212) (by decide +kernel) (by decide +kernel)⟩
theorem fl_X9_1 : FL RX9 1 8 0 := ⟨RX9, TX9, 39, rfl, by decide, big_t (i := 796) (by decide +kernel) (by decide +kernel)⟩
theorem fl_X9_13 : FL RX9 13 8 1 := ⟨RX9, TX9, 39, rfl, by decide, big_t (i := 797) (by decide +kernel) (by decide +kernel)⟩
theorem fl_X9_121 : FL RX9 121 8 2 := ⟨RX9, TX9, 39, rfl, by decide, big_t (i := 798) (by decide +kernel) (by decide +kernel)⟩
theorem fl_X9_131 : FL RX9 131 8 3 := ⟨RX9, TX9, 39, rfl, by decide, big_t (i := 799) (by decide +kernel) (by decide +kernel)⟩
theorem fl_X9_17 : FL RX9 17 8 4 := ⟨RX9, TX9, 39, rfl, by decide, big_t (i := 800) (by decide +kernel) (by decide +kernel)⟩
theorem fl_X9_20 : FL RX9 20 8 5 := ⟨RX9, TX9, 39, rfl, by decide, big_t (i := 801) (by decide +kernel) (by decide +kernel)⟩
theorem fl_X9_23 : FL RX9 23 8 6 := ⟨RX9, TX9, 39, rfl, by decide, big_t (i := 802) (by decide +kernel) (by decide +kernel)⟩
theorem fl_X9_26 : FL RX9 26 8 7 := ⟨RX9, TX9, 39, rfl, by decide, big_t (i := 803) (by decide +kernel) (by decide +kernel)⟩
theorem fl_X9_29 : FL RX9 29 8 8 := ⟨RX9, TX9, 39, rfl, by decide, big_t (i := 804) (by decide +kernel) (by decide +kernel)⟩
theorem fl_X9_32 : FL RX9 32 8 9 := ⟨RX9, TX9, 39, rfl, by decide, big_t (i := 805) (by decide +kernel) (by decide +kernel)⟩
theorem fl_X9_35 : FL RX9 35 8 10 := ⟨RX9, TX9, 39, rfl, by decide, big_t (i := 806) (by decide +kernel) (by decide +kernel)⟩
theorem fl_X9_38 : FL RX9 38 8 11 := ⟨RX9, TX9, 39, rfl, by decide, big_t (i := 807) (by decide +kernel) (by decide +kernel)⟩
theorem fl_X9_41 : FL RX9 41 8 12 := ⟨RX9, TX9, 39, rfl, by decide, big_t (i := 808) (by decide +kernel) (by decide +kernel)⟩
theorem fl_X9_112 : FL RX9 112 8 13 := ⟨RX9, TX9, 39, rfl, by decide, big_t (i := 809) (by decide +kernel) (by decide +kernel)⟩
theorem fl_X9_44 : FL RX9 44 8 14 := ⟨RX9, TX9, 39, rfl, by decide, big_t (i := 810) (by decide +kernel) (by decide +kernel)⟩
theorem fl_X9_47 : FL RX9 47 8 15 := ⟨RX9, TX9, 39, rfl, by decide, big_t (i := 811) (by decide +kernel) (by decide +kernel)⟩
theorem fl_X9_50 : FL RX9 50 8 16 := ⟨RX9, TX9, 39, rfl, by decide, big_t (i := 812) (by decide +kernel) (by decide +kernel)⟩
theorem fl_X9_53 : FL RX9 53 8 17 := ⟨RX9, TX9, 39, rfl, by decide, big_t (i := 813) (by decide +kernel) (by decide +kernel)⟩
theorem fl_X9_56 : FL RX9 56 8 18 := ⟨RX9, TX9, 39, rfl, by decide, big_t (i := 814) (by decide +kernel) (by decide +kernel)⟩
theorem fl_X9_59 : FL RX9 59 8 19 := ⟨RX9, TX9, 39, rfl, by decide, big_t (i := 815) (by decide +kernel) (by decide +kernel)⟩
theorem fl_X9_62 : FL RX9 62 8 20 := ⟨RX9, TX9, 39, rfl, by decide, big_t (i := 816) (by decide +kernel) (by decide +kernel)⟩
theorem fl_X9_65 : FL RX9 65 8 21 := ⟨RX9, TX9, 39, rfl, by decide, big_t (i := 817) (by decide +kernel) (by decide +kernel)⟩
theorem fl_X9_68 : FL RX9 68 8 22 := ⟨RX9, TX9, 39, rfl, by decide, big_t (i := 818) (by decide +kernel) (by decide +kernel)⟩
theorem fl_X9_124 : FL RX9 124 8 23 := ⟨RX9, TX9, 39, rfl, by decide, big_t (i := 819) (by decide +kernel) (by decide +kernel)⟩
theorem fl_X9_127 : FL RX9 127 8 24 := ⟨RX9, TX9, 39, rfl, by decide, big_t (i := 820) (by decide +kernel) (by decide +kernel)⟩
theorem fl_X9_71 : FL RX9 71 8 25 := ⟨RX9, TX9, 39, rfl, by decide, big_t (i := 821) (by decide +kernel) (by decide +kernel)⟩
theorem fl_X9_74 : FL RX9 74 8 26 := ⟨RX9, TX9, 39, rfl, by decide, big_t (i := 822) (by decide +kernel) (by decide +kernel)⟩
theorem fl_X9_190 : FL RX9 190 8 27 := ⟨RX9, TX9, 39, rfl, by decide, big_t (i := 823) (by decide +kernel) (by decide +kernel)⟩
theorem fl_X9_77 : FL RX9 77 8 28 := ⟨RX9, TX9, 39, rfl, by decide, big_t (i := 824) (by decide +kernel) (by decide +kernel)⟩
theorem fl_X9_80 : FL RX9 80 8 29 := ⟨RX9, TX9, 39, rfl, by decide, big_t (i := 825) (by decide +kernel) (by decide +kernel)⟩
theorem fl_X9_83 : FL RX9 83 8 30 := ⟨RX9, TX9, 39, rfl, by decide, big_t (i := 826) (by decide +kernel) (by decide +kernel)⟩
theorem fl_X9_86 : FL RX9 86 8 31 := ⟨RX9, TX9, 39, rfl, by decide, big_t (i := 827) (by decide +kernel) (by decide +kernel)⟩
theorem fl_X9_89 : FL RX9 89 8 32 := ⟨RX9, TX9, 39, rfl, by decide, big_t (i := 828) (by decide +kernel) (by decide +kernel)⟩
theorem fl_X9_92 : FL RX9 92 8 33 := ⟨RX9, TX9, 39, rfl, by decide, big_t (i := 829) (by decide +kernel) (by decide +kernel)⟩
theorem fl_X9_95 : FL RX9 95 8 34 := ⟨RX9, TX9, 39, rfl, by decide, big_t (i := 830) (by decide +kernel) (by decide +kernel)⟩
theorem fl_X9_99 : FL RX9 99 8 35 := ⟨RX9, TX9, 39, rfl, by decide, big_t (i := 831) (by decide +kernel) (by decide +kernel)⟩
theorem fl_X9_103 : FL RX9 103 8 36 := ⟨RX9, TX9, 39, rfl, by decide, big_t (i := 832) (by decide +kernel) (by decide +kernel)⟩
theorem fl_X9_106 : FL RX9 106 8 37 := ⟨RX9, TX9, 39, rfl, by decide, big_t (i := 833) (by decide +kernel) (by decide +kernel)⟩
theorem fl_X9_109 : FL RX9 109 8 38 := ⟨RX9, TX9, 39, rfl, by decide, big_t (i := 834) (by decide +kernel) (by decide +kernel)⟩
abbrev MM : Type := MethodName × String × ByteArray × Nat × Option FieldType
def okName (y : MethodName) (n : Nat) : Prop := y.cls ≠ "java/lang/invoke/MethodHandle" ∧ y.cls ≠ "java/lang/invoke/VarHandle" ∧ (parseMethodDescriptor y.desc).map (fun d => d.parameters.length) = some n
def cdW (m : MM) : Cond := .code m.1 m.2.2.1 m.2.2.2.1 m.2.2.2.2
def MC (m : MM) (n : Nat) : Prop := cdW m ∈ BIG ∧ Cond.initialized m.1.cls ∈ BIG ∧ okName m.1 n ∧ plainFor m.1 = true
def MV (m : MM) (n : Nat) : Prop := MC m n ∧ Cond.instanceMethod m.1 ∈ BIG ∧ Cond.selects m.1.cls m.1 m.1 ∈ BIG
def MS (m : MM) (n : Nat) : Prop := MC m n ∧ Cond.static m.1 ∈ BIG
def MI (m : MM) (n : Nat) : Prop := MC m n ∧ Cond.instanceMethod m.1 ∈ BIG ∧ m.1.name = "<init>" ∧ m.2.2.2.2 = none
abbrev mX0_init : MM := (yX0_init, RX0, cX0_init, 1, none)
theorem iX0_init : MI mX0_init 0 := ⟨⟨big_t (i := 41) (by decide +kernel) (by decide +kernel), big_t (i := 3) (by decide +kernel) (by decide +kernel), ⟨by decide +kernel, by decide +kernel, by decide +kernel⟩, by decide +kernel⟩, big_t (i := 40) (by decide +kernel) (by decide +kernel), by decide +kernel, rfl⟩
abbrev mX0_start : MM := (yX0_start, RX0, cX0_start, 3, none)
theorem vX0_start : MV mX0_start 2 := ⟨⟨big_t (i := 253) (by decide +kernel) (by decide +kernel), big_t (i := 3) (by decide +kernel) (by decide +kernel), ⟨by decide +kernel, by decide +kernel, by decide +kernel⟩, by decide +kernel⟩, big_t (i := 251) (by decide +kernel) (by decide +kernel), big_t (i := 252) (by decide +kernel) (by decide +kernel)⟩
abbrev mX0_addSign : MM := (yX0_addSign, RX0, cX0_addSign, 4, none)
theorem vX0_addSign : MV mX0_addSign 3 := ⟨⟨big_t (i := 316) (by decide +kernel) (by decide +kernel), big_t (i := 3) (by decide +kernel) (by decide +kernel), ⟨by decide +kernel, by decide +kernel, by decide +kernel⟩, by decide +kernel⟩, big_t (i := 314) (by decide +kernel) (by decide +kernel), big_t (i := 315) (by decide +kernel) (by decide +kernel)⟩
abbrev mX0_wordAt : MM := (yX0_wordAt, RX0, cX0_wordAt, 2, (some .long))
theorem vX0_wordAt : MV mX0_wordAt 1 := ⟨⟨big_t (i := 328) (by decide +kernel) (by decide +kernel), big_t (i := 3) (by decide +kernel) (by decide +kernel), ⟨by decide +kernel, by decide +kernel, by decide +kernel⟩, by decide +kernel⟩, big_t (i := 326) (by decide +kernel) (by decide +kernel), big_t (i := 327) (by decide +kernel) (by decide +kernel)⟩
abbrev mX0_turnToField : MM := (yX0_turnToField, RX0, cX0_turnToField, 1, none)
theorem vX0_turnToField : MV mX0_turnToField 0 := ⟨⟨big_t (i := 339) (by decide +kernel) (by decide +kernel), big_t (i := 3) (by decide +kernel) (by decide +kernel), ⟨by decide +kernel, by decide +kernel, by decide +kernel⟩, by decide +kernel⟩, big_t (i := 337) (by decide +kernel) (by decide +kernel), big_t (i := 338) (by decide +kernel) (by decide +kernel)⟩
abbrev mX1_init : MM := (yX1_init, RX1, cX1_init, 1, none)
theorem iX1_init : MI mX1_init 0 := ⟨⟨big_t (i := 167) (by decide +kernel) (by decide +kernel), big_t (i := 6) (by decide +kernel) (by decide +kernel), ⟨by decide +kernel, by decide +kernel, by decide +kernel⟩, by decide +kernel⟩, big_t (i := 166) (by decide +kernel) (by decide +kernel), by decide +kernel, rfl⟩
abbrev mX1_weigh : MM := (yX1_weigh, RX1, cX1_weigh, 8, (some .long))
theorem vX1_weigh : MV mX1_weigh 3 := ⟨⟨big_t (i := 491) (by decide +kernel) (by decide +kernel), big_t (i := 6) (by decide +kernel) (by decide +kernel), ⟨by decide +kernel, by decide +kernel, by decide +kernel⟩, by decide +kernel⟩, big_t (i := 489) (by decide +kernel) (by decide +kernel), big_t (i := 490) (by decide +kernel) (by decide +kernel)⟩
abbrev mX1_setValue : MM := (yX1_setValue, RX1, cX1_setValue, 4, none)
theorem vX1_setValue : MV mX1_setValue 2 := ⟨⟨big_t (i := 511) (by decide +kernel) (by decide +kernel), big_t (i := 6) (by decide +kernel) (by decide +kernel), ⟨by decide +kernel, by decide +kernel, by decide +kernel⟩, by decide +kernel⟩, big_t (i := 510) (by decide +kernel) (by decide +kernel), big_s (i := 31) (by decide +kernel) (by decide +kernel)⟩
abbrev mX1_valueAt : MM := (yX1_valueAt, RX1, cX1_valueAt, 2, (some .long))
theorem vX1_valueAt : MV mX1_valueAt 1 := ⟨⟨big_t (i := 500) (by decide +kernel) (by decide +kernel), big_t (i := 6) (by decide +kernel) (by decide +kernel), ⟨by decide +kernel, by decide +kernel, by decide +kernel⟩, by decide +kernel⟩, big_t (i := 499) (by decide +kernel) (by decide +kernel), big_s (i := 30) (by decide +kernel) (by decide +kernel)⟩
abbrev mX1_groupValue : MM := (yX1_groupValue, RX1, cX1_groupValue, 12, (some .long))
theorem vX1_groupValue : MV mX1_groupValue 2 := ⟨⟨big_t (i := 496) (by decide +kernel) (by decide +kernel), big_t (i := 6) (by decide +kernel) (by decide +kernel), ⟨by decide +kernel, by decide +kernel, by decide +kernel⟩, by decide +kernel⟩, big_t (i := 495) (by decide +kernel) (by decide +kernel), big_s (i := 29) (by decide +kernel) (by decide +kernel)⟩
abbrev mX1_isFault : MM := (yX1_isFault, RX1, cX1_isFault, 3, (some .boolean))
theorem sX1_isFault : MS mX1_isFault 2 := ⟨⟨big_t (i := 504) (by decide +kernel) (by decide +kernel), big_t (i := 6) (by decide +kernel) (by decide +kernel), ⟨by decide +kernel, by decide +kernel, by decide +kernel⟩, by decide +kernel⟩, big_t (i := 503) (by decide +kernel) (by decide +kernel)⟩
abbrev mX1_firstFault : MM := (yX1_firstFault, RX1, cX1_firstFault, 5, (some .int))
theorem vX1_firstFault : MV mX1_firstFault 2 := ⟨⟨big_t (i := 577) (by decide +kernel) (by decide +kernel), big_t (i := 6) (by decide +kernel) (by decide +kernel), ⟨by decide +kernel, by decide +kernel, by decide +kernel⟩, by decide +kernel⟩, big_t (i := 575) (by decide +kernel) (by decide +kernel), big_t (i := 576) (by decide +kernel) (by decide +kernel)⟩
abbrev mX1_countFits : MM := (yX1_countFits, RX1, cX1_countFits, 7, (some .long))
theorem vX1_countFits : MV mX1_countFits 3 := ⟨⟨big_t (i := 520) (by decide +kernel) (by decide +kernel), big_t (i := 6) (by decide +kernel) (by decide +kernel), ⟨by decide +kernel, by decide +kernel, by decide +kernel⟩, by decide +kernel⟩, big_t (i := 519) (by decide +kernel) (by decide +kernel), big_s (i := 32) (by decide +kernel) (by decide +kernel)⟩
abbrev mX1_countWords : MM := (yX1_countWords, RX1, cX1_countWords, 7, (some .int))
theorem vX1_countWords : MV mX1_countWords 3 := ⟨⟨big_t (i := 541) (by decide +kernel) (by decide +kernel), big_t (i := 6) (by decide +kernel) (by decide +kernel), ⟨by decide +kernel, by decide +kernel, by decide +kernel⟩, by decide +kernel⟩, big_t (i := 540) (by decide +kernel) (by decide +kernel), big_s (i := 35) (by decide +kernel) (by decide +kernel)⟩
abbrev mX1_countQuotes : MM := (yX1_countQuotes, RX1, cX1_countQuotes, 7, (some .int))
theorem vX1_countQuotes : MV mX1_countQuotes 3 := ⟨⟨big_t (i := 524) (by decide +kernel) (by decide +kernel), big_t (i := 6) (by decide +kernel) (by decide +kernel), ⟨by decide +kernel, by decide +kernel, by decide +kernel⟩, by decide +kernel⟩, big_t (i := 523) (by decide +kernel) (by decide +kernel), big_s (i := 33) (by decide +kernel) (by decide +kernel)⟩
abbrev mX1_quoteStands : MM := (yX1_quoteStands, RX1, cX1_quoteStands, 8, (some .boolean))
theorem vX1_quoteStands : MV mX1_quoteStands 4 := ⟨⟨big_t (i := 534) (by decide +kernel) (by decide +kernel), big_t (i := 6) (by decide +kernel) (by decide +kernel), ⟨by decide +kernel, by decide +kernel, by decide +kernel⟩, by decide +kernel⟩, big_t (i := 533) (by decide +kernel) (by decide +kernel), big_s (i := 34) (by decide +kernel) (by decide +kernel)⟩
abbrev mX2_isLetter : MM := (yX2_isLetter, RX2, cX2_isLetter, 1, (some .boolean))
theorem sX2_isLetter : MS mX2_isLetter 1 := ⟨⟨big_t (i := 290) (by decide +kernel) (by decide +kernel), big_t (i := 11) (by decide +kernel) (by decide +kernel), ⟨by decide +kernel, by decide +kernel, by decide +kernel⟩, by decide +kernel⟩, big_t (i := 289) (by decide +kernel) (by decide +kernel)⟩
abbrev mX2_isSign : MM := (yX2_isSign, RX2, cX2_isSign, 1, (some .boolean))
theorem sX2_isSign : MS mX2_isSign 1 := ⟨⟨big_t (i := 287) (by decide +kernel) (by decide +kernel), big_t (i := 11) (by decide +kernel) (by decide +kernel), ⟨by decide +kernel, by decide +kernel, by decide +kernel⟩, by decide +kernel⟩, big_t (i := 286) (by decide +kernel) (by decide +kernel)⟩
abbrev mX2_signAt : MM := (yX2_signAt, RX2, cX2_signAt, 3, (some .int))
theorem sX2_signAt : MS mX2_signAt 2 := ⟨⟨big_t (i := 331) (by decide +kernel) (by decide +kernel), big_t (i := 11) (by decide +kernel) (by decide +kernel), ⟨by decide +kernel, by decide +kernel, by decide +kernel⟩, by decide +kernel⟩, big_t (i := 330) (by decide +kernel) (by decide +kernel)⟩
abbrev mX2_isPlain : MM := (yX2_isPlain, RX2, cX2_isPlain, 5, (some .boolean))
theorem sX2_isPlain : MS mX2_isPlain 1 := ⟨⟨big_t (i := 460) (by decide +kernel) (by decide +kernel), big_t (i := 11) (by decide +kernel) (by decide +kernel), ⟨by decide +kernel, by decide +kernel, by decide +kernel⟩, by decide +kernel⟩, big_t (i := 459) (by decide +kernel) (by decide +kernel)⟩
abbrev mX2_moveAhead : MM := (yX2_moveAhead, RX2, cX2_moveAhead, 5, (some .long))
theorem sX2_moveAhead : MS mX2_moveAhead 1 := ⟨⟨big_t (i := 463) (by decide +kernel) (by decide +kernel), big_t (i := 11) (by decide +kernel) (by decide +kernel), ⟨by decide +kernel, by decide +kernel, by decide +kernel⟩, by decide +kernel⟩, big_t (i := 462) (by decide +kernel) (by decide +kernel)⟩
abbrev mX2_lengthOf : MM := (yX2_lengthOf, RX2, cX2_lengthOf, 3, (some .int))
theorem sX2_lengthOf : MS mX2_lengthOf 1 := ⟨⟨big_t (i := 444) (by decide +kernel) (by decide +kernel), big_t (i := 11) (by decide +kernel) (by decide +kernel), ⟨by decide +kernel, by decide +kernel, by decide +kernel⟩, by decide +kernel⟩, big_t (i := 443) (by decide +kernel) (by decide +kernel)⟩
abbrev mX3_init : MM := (yX3_init, RX3, cX3_init, 1, none)
theorem iX3_init : MI mX3_init 0 := ⟨⟨big_t (i := 186) (by decide +kernel) (by decide +kernel), big_t (i := 8) (by decide +kernel) (by decide +kernel), ⟨by decide +kernel, by decide +kernel, by decide +kernel⟩, by decide +kernel⟩, big_t (i := 185) (by decide +kernel) (by decide +kernel), by decide +kernel, rfl⟩
abbrev mX3_isFor : MM := (yX3_isFor, RX3, cX3_isFor, 4, (some .boolean))
theorem vX3_isFor : MV mX3_isFor 2 := ⟨⟨big_t (i := 545) (by decide +kernel) (by decide +kernel), big_t (i := 8) (by decide +kernel) (by decide +kernel), ⟨by decide +kernel, by decide +kernel, by decide +kernel⟩, by decide +kernel⟩, big_t (i := 543) (by decide +kernel) (by decide +kernel), big_t (i := 544) (by decide +kernel) (by decide +kernel)⟩
abbrev mX3_isWithin : MM := (yX3_isWithin, RX3, cX3_isWithin, 7, (some .boolean))
theorem sX3_isWithin : MS mX3_isWithin 2 := ⟨⟨big_t (i := 548) (by decide +kernel) (by decide +kernel), big_t (i := 8) (by decide +kernel) (by decide +kernel), ⟨by decide +kernel, by decide +kernel, by decide +kernel⟩, by decide +kernel⟩, big_t (i := 547) (by decide +kernel) (by decide +kernel)⟩
abbrev mX3_changes : MM := (yX3_changes, RX3, cX3_changes, 12, (some .int))
theorem vX3_changes : MV mX3_changes 2 := ⟨⟨big_t (i := 553) (by decide +kernel) (by decide +kernel), big_t (i := 8) (by decide +kernel) (by decide +kernel), ⟨by decide +kernel, by decide +kernel, by decide +kernel⟩, by decide +kernel⟩, big_t (i := 552) (by decide +kernel) (by decide +kernel), big_s (i := 36) (by decide +kernel) (by decide +kernel)⟩
abbrev mX3_hasSigns : MM := (yX3_hasSigns, RX3, cX3_hasSigns, 10, (some .boolean))
theorem sX3_hasSigns : MS mX3_hasSigns 2 := ⟨⟨big_t (i := 559) (by decide +kernel) (by decide +kernel), big_t (i := 8) (by decide +kernel) (by decide +kernel), ⟨by decide +kernel, by decide +kernel, by decide +kernel⟩, by decide +kernel⟩, big_t (i := 558) (by decide +kernel) (by decide +kernel)⟩
abbrev mX3_placesOf : MM := (yX3_placesOf, RX3, cX3_placesOf, 6, (some .int))
theorem sX3_placesOf : MS mX3_placesOf 3 := ⟨⟨big_t (i := 562) (by decide +kernel) (by decide +kernel), big_t (i := 8) (by decide +kernel) (by decide +kernel), ⟨by decide +kernel, by decide +kernel, by decide +kernel⟩, by decide +kernel⟩, big_t (i := 561) (by decide +kernel) (by decide +kernel)⟩
abbrev mX4_init : MM := (yX4_init, RX4, cX4_init, 1, none)
theorem iX4_init : MI mX4_init 0 := ⟨⟨big_t (i := 119) (by decide +kernel) (by decide +kernel), big_t (i := 4) (by decide +kernel) (by decide +kernel), ⟨by decide +kernel, by decide +kernel, by decide +kernel⟩, by decide +kernel⟩, big_t (i := 118) (by decide +kernel) (by decide +kernel), by decide +kernel, rfl⟩
abbrev mX4_begin : MM := (yX4_begin, RX4, cX4_begin, 1, none)
theorem vX4_begin : MV mX4_begin 0 := ⟨⟨big_t (i := 245) (by decide +kernel) (by decide +kernel), big_t (i := 4) (by decide +kernel) (by decide +kernel), ⟨by decide +kernel, by decide +kernel, by decide +kernel⟩, by decide +kernel⟩, big_t (i := 243) (by decide +kernel) (by decide +kernel), big_t (i := 244) (by decide +kernel) (by decide +kernel)⟩
abbrev mX4_exchange : MM := (yX4_exchange, RX4, cX4_exchange, 3, (some (Jvm.ClassFile.FieldType.object "QueryTexts$Tree")))
theorem vX4_exchange : MV mX4_exchange 1 := ⟨⟨big_t (i := 387) (by decide +kernel) (by decide +kernel), big_t (i := 4) (by decide +kernel) (by decide +kernel), ⟨by decide +kernel, by decide +kernel, by decide +kernel⟩, by decide +kernel⟩, big_t (i := 385) (by decide +kernel) (by decide +kernel), big_t (i := 386) (by decide +kernel) (by decide +kernel)⟩
abbrev mX4_isWhole : MM := (yX4_isWhole, RX4, cX4_isWhole, 1, (some .boolean))
theorem vX4_isWhole : MV mX4_isWhole 0 := ⟨⟨big_t (i := 379) (by decide +kernel) (by decide +kernel), big_t (i := 4) (by decide +kernel) (by decide +kernel), ⟨by decide +kernel, by decide +kernel, by decide +kernel⟩, by decide +kernel⟩, big_t (i := 377) (by decide +kernel) (by decide +kernel), big_t (i := 378) (by decide +kernel) (by decide +kernel)⟩
abbrev mX4_takes : MM := (yX4_takes, RX4, cX4_takes, 2, (some .boolean))
theorem vX4_takes : MV mX4_takes 1 := ⟨⟨big_t (i := 260) (by decide +kernel) (by decide +kernel), big_t (i := 4) (by decide +kernel) (by decide +kernel), ⟨by decide +kernel, by decide +kernel, by decide +kernel⟩, by decide +kernel⟩, big_t (i := 258) (by decide +kernel) (by decide +kernel), big_t (i := 259) (by decide +kernel) (by decide +kernel)⟩
abbrev mX4_goTo : MM := (yX4_goTo, RX4, cX4_goTo, 2, (some .boolean))
theorem vX4_goTo : MV mX4_goTo 1 := ⟨⟨big_t (i := 276) (by decide +kernel) (by decide +kernel), big_t (i := 4) (by decide +kernel) (by decide +kernel), ⟨by decide +kernel, by decide +kernel, by decide +kernel⟩, by decide +kernel⟩, big_t (i := 275) (by decide +kernel) (by decide +kernel), big_s (i := 2) (by decide +kernel) (by decide +kernel)⟩
abbrev mX4_isFigure : MM := (yX4_isFigure, RX4, cX4_isFigure, 1, (some .boolean))
theorem sX4_isFigure : MS mX4_isFigure 1 := ⟨⟨big_t (i := 371) (by decide +kernel) (by decide +kernel), big_t (i := 4) (by decide +kernel) (by decide +kernel), ⟨by decide +kernel, by decide +kernel, by decide +kernel⟩, by decide +kernel⟩, big_t (i := 370) (by decide +kernel) (by decide +kernel)⟩
abbrev mX4_takesInGap : MM := (yX4_takesInGap, RX4, cX4_takesInGap, 3, (some .boolean))
theorem vX4_takesInGap : MV mX4_takesInGap 1 := ⟨⟨big_t (i := 264) (by decide +kernel) (by decide +kernel), big_t (i := 4) (by decide +kernel) (by decide +kernel), ⟨by decide +kernel, by decide +kernel, by decide +kernel⟩, by decide +kernel⟩, big_t (i := 263) (by decide +kernel) (by decide +kernel), big_s (i := 0) (by decide +kernel) (by decide +kernel)⟩
abbrev mX4_canBeginCore : MM := (yX4_canBeginCore, RX4, cX4_canBeginCore, 3, (some .boolean))
theorem vX4_canBeginCore : MV mX4_canBeginCore 2 := ⟨⟨big_t (i := 284) (by decide +kernel) (by decide +kernel), big_t (i := 4) (by decide +kernel) (by decide +kernel), ⟨by decide +kernel, by decide +kernel, by decide +kernel⟩, by decide +kernel⟩, big_t (i := 283) (by decide +kernel) (by decide +kernel), big_s (i := 3) (by decide +kernel) (by decide +kernel)⟩
abbrev mX4_beginCore : MM := (yX4_beginCore, RX4, cX4_beginCore, 2, (some .boolean))
theorem vX4_beginCore : MV mX4_beginCore 1 := ⟨⟨big_t (i := 299) (by decide +kernel) (by decide +kernel), big_t (i := 4) (by decide +kernel) (by decide +kernel), ⟨by decide +kernel, by decide +kernel, by decide +kernel⟩, by decide +kernel⟩, big_t (i := 298) (by decide +kernel) (by decide +kernel), big_s (i := 4) (by decide +kernel) (by decide +kernel)⟩
abbrev mX4_openGroup : MM := (yX4_openGroup, RX4, cX4_openGroup, 1, (some .boolean))
theorem vX4_openGroup : MV mX4_openGroup 0 := ⟨⟨big_t (i := 303) (by decide +kernel) (by decide +kernel), big_t (i := 4) (by decide +kernel) (by decide +kernel), ⟨by decide +kernel, by decide +kernel, by decide +kernel⟩, by decide +kernel⟩, big_t (i := 302) (by decide +kernel) (by decide +kernel), big_s (i := 5) (by decide +kernel) (by decide +kernel)⟩
abbrev mX4_closeGroup : MM := (yX4_closeGroup, RX4, cX4_closeGroup, 1, (some .boolean))
theorem vX4_closeGroup : MV mX4_closeGroup 0 := ⟨⟨big_t (i := 272) (by decide +kernel) (by decide +kernel), big_t (i := 4) (by decide +kernel) (by decide +kernel), ⟨by decide +kernel, by decide +kernel, by decide +kernel⟩, by decide +kernel⟩, big_t (i := 271) (by decide +kernel) (by decide +kernel), big_s (i := 1) (by decide +kernel) (by decide +kernel)⟩
abbrev mX4_beginWord : MM := (yX4_beginWord, RX4, cX4_beginWord, 3, (some .boolean))
theorem vX4_beginWord : MV mX4_beginWord 2 := ⟨⟨big_t (i := 307) (by decide +kernel) (by decide +kernel), big_t (i := 4) (by decide +kernel) (by decide +kernel), ⟨by decide +kernel, by decide +kernel, by decide +kernel⟩, by decide +kernel⟩, big_t (i := 306) (by decide +kernel) (by decide +kernel), big_s (i := 6) (by decide +kernel) (by decide +kernel)⟩
abbrev mX4_takeSign : MM := (yX4_takeSign, RX4, cX4_takeSign, 2, (some .boolean))
theorem vX4_takeSign : MV mX4_takeSign 1 := ⟨⟨big_t (i := 311) (by decide +kernel) (by decide +kernel), big_t (i := 4) (by decide +kernel) (by decide +kernel), ⟨by decide +kernel, by decide +kernel, by decide +kernel⟩, by decide +kernel⟩, big_t (i := 310) (by decide +kernel) (by decide +kernel), big_s (i := 7) (by decide +kernel) (by decide +kernel)⟩
abbrev mX4_takesLetter : MM := (yX4_takesLetter, RX4, cX4_takesLetter, 3, (some .boolean))
theorem vX4_takesLetter : MV mX4_takesLetter 2 := ⟨⟨big_t (i := 356) (by decide +kernel) (by decide +kernel), big_t (i := 4) (by decide +kernel) (by decide +kernel), ⟨by decide +kernel, by decide +kernel, by decide +kernel⟩, by decide +kernel⟩, big_t (i := 355) (by decide +kernel) (by decide +kernel), big_s (i := 14) (by decide +kernel) (by decide +kernel)⟩
abbrev mX4_takesInWord : MM := (yX4_takesInWord, RX4, cX4_takesInWord, 2, (some .boolean))
theorem vX4_takesInWord : MV mX4_takesInWord 1 := ⟨⟨big_t (i := 320) (by decide +kernel) (by decide +kernel), big_t (i := 4) (by decide +kernel) (by decide +kernel), ⟨by decide +kernel, by decide +kernel, by decide +kernel⟩, by decide +kernel⟩, big_t (i := 319) (by decide +kernel) (by decide +kernel), big_s (i := 8) (by decide +kernel) (by decide +kernel)⟩
abbrev mX4_isFieldLetter : MM := (yX4_isFieldLetter, RX4, cX4_isFieldLetter, 2, (some .boolean))
theorem vX4_isFieldLetter : MV mX4_isFieldLetter 0 := ⟨⟨big_t (i := 324) (by decide +kernel) (by decide +kernel), big_t (i := 4) (by decide +kernel) (by decide +kernel), ⟨by decide +kernel, by decide +kernel, by decide +kernel⟩, by decide +kernel⟩, big_t (i := 323) (by decide +kernel) (by decide +kernel), big_s (i := 9) (by decide +kernel) (by decide +kernel)⟩
abbrev mX4_takeField : MM := (yX4_takeField, RX4, cX4_takeField, 1, (some .boolean))
theorem vX4_takeField : MV mX4_takeField 0 := ⟨⟨big_t (i := 335) (by decide +kernel) (by decide +kernel), big_t (i := 4) (by decide +kernel) (by decide +kernel), ⟨by decide +kernel, by decide +kernel, by decide +kernel⟩, by decide +kernel⟩, big_t (i := 334) (by decide +kernel) (by decide +kernel), big_s (i := 10) (by decide +kernel) (by decide +kernel)⟩
abbrev mX4_takesInQuote : MM := (yX4_takesInQuote, RX4, cX4_takesInQuote, 2, (some .boolean))
theorem vX4_takesInQuote : MV mX4_takesInQuote 1 := ⟨⟨big_t (i := 360) (by decide +kernel) (by decide +kernel), big_t (i := 4) (by decide +kernel) (by decide +kernel), ⟨by decide +kernel, by decide +kernel, by decide +kernel⟩, by decide +kernel⟩, big_t (i := 359) (by decide +kernel) (by decide +kernel), big_s (i := 15) (by decide +kernel) (by decide +kernel)⟩
abbrev mX4_takesInQuoteGap : MM := (yX4_takesInQuoteGap, RX4, cX4_takesInQuoteGap, 2, (some .boolean))
theorem vX4_takesInQuoteGap : MV mX4_takesInQuoteGap 1 := ⟨⟨big_t (i := 364) (by decide +kernel) (by decide +kernel), big_t (i := 4) (by decide +kernel) (by decide +kernel), ⟨by decide +kernel, by decide +kernel, by decide +kernel⟩, by decide +kernel⟩, big_t (i := 363) (by decide +kernel) (by decide +kernel), big_s (i := 16) (by decide +kernel) (by decide +kernel)⟩
abbrev mX4_takesInSpan : MM := (yX4_takesInSpan, RX4, cX4_takesInSpan, 2, (some .boolean))
theorem vX4_takesInSpan : MV mX4_takesInSpan 1 := ⟨⟨big_t (i := 368) (by decide +kernel) (by decide +kernel), big_t (i := 4) (by decide +kernel) (by decide +kernel), ⟨by decide +kernel, by decide +kernel, by decide +kernel⟩, by decide +kernel⟩, big_t (i := 367) (by decide +kernel) (by decide +kernel), big_s (i := 17) (by decide +kernel) (by decide +kernel)⟩
abbrev mX4_takesDetail : MM := (yX4_takesDetail, RX4, cX4_takesDetail, 4, (some .boolean))
theorem vX4_takesDetail : MV mX4_takesDetail 3 := ⟨⟨big_t (i := 352) (by decide +kernel) (by decide +kernel), big_t (i := 4) (by decide +kernel) (by decide +kernel), ⟨by decide +kernel, by decide +kernel, by decide +kernel⟩, by decide +kernel⟩, big_t (i := 351) (by decide +kernel) (by decide +kernel), big_s (i := 13) (by decide +kernel) (by decide +kernel)⟩
abbrev mX4_takeBoost : MM := (yX4_takeBoost, RX4, cX4_takeBoost, 3, (some .boolean))
theorem vX4_takeBoost : MV mX4_takeBoost 2 := ⟨⟨big_t (i := 375) (by decide +kernel) (by decide +kernel), big_t (i := 4) (by decide +kernel) (by decide +kernel), ⟨by decide +kernel, by decide +kernel, by decide +kernel⟩, by decide +kernel⟩, big_t (i := 374) (by decide +kernel) (by decide +kernel), big_s (i := 18) (by decide +kernel) (by decide +kernel)⟩
abbrev mX4_takesTail : MM := (yX4_takesTail, RX4, cX4_takesTail, 2, (some .boolean))
theorem vX4_takesTail : MV mX4_takesTail 1 := ⟨⟨big_t (i := 344) (by decide +kernel) (by decide +kernel), big_t (i := 4) (by decide +kernel) (by decide +kernel), ⟨by decide +kernel, by decide +kernel, by decide +kernel⟩, by decide +kernel⟩, big_t (i := 343) (by decide +kernel) (by decide +kernel), big_s (i := 11) (by decide +kernel) (by decide +kernel)⟩
abbrev mX4_takesEnd : MM := (yX4_takesEnd, RX4, cX4_takesEnd, 2, (some .boolean))
theorem vX4_takesEnd : MV mX4_takesEnd 1 := ⟨⟨big_t (i := 348) (by decide +kernel) (by decide +kernel), big_t (i := 4) (by decide +kernel) (by decide +kernel), ⟨by decide +kernel, by decide +kernel, by decide +kernel⟩, by decide +kernel⟩, big_t (i := 347) (by decide +kernel) (by decide +kernel), big_s (i := 12) (by decide +kernel) (by decide +kernel)⟩
abbrev mX5_init : MM := (yX5_init, RX5, cX5_init, 1, none)
theorem iX5_init : MI mX5_init 0 := ⟨⟨big_t (i := 154) (by decide +kernel) (by decide +kernel), big_t (i := 5) (by decide +kernel) (by decide +kernel), ⟨by decide +kernel, by decide +kernel, by decide +kernel⟩, by decide +kernel⟩, big_t (i := 153) (by decide +kernel) (by decide +kernel), by decide +kernel, rfl⟩
abbrev mX5_isWritten : MM := (yX5_isWritten, RX5, cX5_isWritten, 1, (some .boolean))
theorem vX5_isWritten : MV mX5_isWritten 0 := ⟨⟨big_t (i := 746) (by decide +kernel) (by decide +kernel), big_t (i := 5) (by decide +kernel) (by decide +kernel), ⟨by decide +kernel, by decide +kernel, by decide +kernel⟩, by decide +kernel⟩, big_t (i := 744) (by decide +kernel) (by decide +kernel), big_t (i := 745) (by decide +kernel) (by decide +kernel)⟩
abbrev mX5_byteAt : MM := (yX5_byteAt, RX5, cX5_byteAt, 2, (some .int))
theorem vX5_byteAt : MV mX5_byteAt 1 := ⟨⟨big_t (i := 756) (by decide +kernel) (by decide +kernel), big_t (i := 5) (by decide +kernel) (by decide +kernel), ⟨by decide +kernel, by decide +kernel, by decide +kernel⟩, by decide +kernel⟩, big_t (i := 754) (by decide +kernel) (by decide +kernel), big_t (i := 755) (by decide +kernel) (by decide +kernel)⟩
abbrev mX5_write : MM := (yX5_write, RX5, cX5_write, 5, (some .int))
theorem vX5_write : MV mX5_write 1 := ⟨⟨big_t (i := 411) (by decide +kernel) (by decide +kernel), big_t (i := 5) (by decide +kernel) (by decide +kernel), ⟨by decide +kernel, by decide +kernel, by decide +kernel⟩, by decide +kernel⟩, big_t (i := 409) (by decide +kernel) (by decide +kernel), big_t (i := 410) (by decide +kernel) (by decide +kernel)⟩
abbrev mX5_closeGroups : MM := (yX5_closeGroups, RX5, cX5_closeGroups, 7, (some .int))
theorem vX5_closeGroups : MV mX5_closeGroups 3 := ⟨⟨big_t (i := 416) (by decide +kernel) (by decide +kernel), big_t (i := 5) (by decide +kernel) (by decide +kernel), ⟨by decide +kernel, by decide +kernel, by decide +kernel⟩, by decide +kernel⟩, big_t (i := 415) (by decide +kernel) (by decide +kernel), big_s (i := 21) (by decide +kernel) (by decide +kernel)⟩
abbrev mX5_put : MM := (yX5_put, RX5, cX5_put, 2, none)
theorem vX5_put : MV mX5_put 1 := ⟨⟨big_t (i := 420) (by decide +kernel) (by decide +kernel), big_t (i := 5) (by decide +kernel) (by decide +kernel), ⟨by decide +kernel, by decide +kernel, by decide +kernel⟩, by decide +kernel⟩, big_t (i := 419) (by decide +kernel) (by decide +kernel), big_s (i := 22) (by decide +kernel) (by decide +kernel)⟩
abbrev mX5_putHead : MM := (yX5_putHead, RX5, cX5_putHead, 2, none)
theorem vX5_putHead : MV mX5_putHead 1 := ⟨⟨big_t (i := 428) (by decide +kernel) (by decide +kernel), big_t (i := 5) (by decide +kernel) (by decide +kernel), ⟨by decide +kernel, by decide +kernel, by decide +kernel⟩, by decide +kernel⟩, big_t (i := 427) (by decide +kernel) (by decide +kernel), big_s (i := 24) (by decide +kernel) (by decide +kernel)⟩
abbrev mX5_putCore : MM := (yX5_putCore, RX5, cX5_putCore, 2, none)
theorem vX5_putCore : MV mX5_putCore 1 := ⟨⟨big_t (i := 432) (by decide +kernel) (by decide +kernel), big_t (i := 5) (by decide +kernel) (by decide +kernel), ⟨by decide +kernel, by decide +kernel, by decide +kernel⟩, by decide +kernel⟩, big_t (i := 431) (by decide +kernel) (by decide +kernel), big_s (i := 25) (by decide +kernel) (by decide +kernel)⟩
abbrev mX5_putQuote : MM := (yX5_putQuote, RX5, cX5_putQuote, 3, none)
theorem vX5_putQuote : MV mX5_putQuote 1 := ⟨⟨big_t (i := 436) (by decide +kernel) (by decide +kernel), big_t (i := 5) (by decide +kernel) (by decide +kernel), ⟨by decide +kernel, by decide +kernel, by decide +kernel⟩, by decide +kernel⟩, big_t (i := 435) (by decide +kernel) (by decide +kernel), big_s (i := 26) (by decide +kernel) (by decide +kernel)⟩
abbrev mX5_putSpan : MM := (yX5_putSpan, RX5, cX5_putSpan, 2, none)
theorem vX5_putSpan : MV mX5_putSpan 1 := ⟨⟨big_t (i := 450) (by decide +kernel) (by decide +kernel), big_t (i := 5) (by decide +kernel) (by decide +kernel), ⟨by decide +kernel, by decide +kernel, by decide +kernel⟩, by decide +kernel⟩, big_t (i := 449) (by decide +kernel) (by decide +kernel), big_s (i := 28) (by decide +kernel) (by decide +kernel)⟩
abbrev mX5_putWord : MM := (yX5_putWord, RX5, cX5_putWord, 5, none)
theorem vX5_putWord : MV mX5_putWord 1 := ⟨⟨big_t (i := 441) (by decide +kernel) (by decide +kernel), big_t (i := 5) (by decide +kernel) (by decide +kernel), ⟨by decide +kernel, by decide +kernel, by decide +kernel⟩, by decide +kernel⟩, big_t (i := 440) (by decide +kernel) (by decide +kernel), big_s (i := 27) (by decide +kernel) (by decide +kernel)⟩
abbrev mX5_putTold : MM := (yX5_putTold, RX5, cX5_putTold, 4, none)
theorem vX5_putTold : MV mX5_putTold 3 := ⟨⟨big_t (i := 424) (by decide +kernel) (by decide +kernel), big_t (i := 5) (by decide +kernel) (by decide +kernel), ⟨by decide +kernel, by decide +kernel, by decide +kernel⟩, by decide +kernel⟩, big_t (i := 423) (by decide +kernel) (by decide +kernel), big_s (i := 23) (by decide +kernel) (by decide +kernel)⟩
abbrev mX6_init : MM := (yX6_init, RX6, cX6_init, 1, none)
theorem iX6_init : MI mX6_init 0 := ⟨⟨big_t (i := 173) (by decide +kernel) (by decide +kernel), big_t (i := 7) (by decide +kernel) (by decide +kernel), ⟨by decide +kernel, by decide +kernel, by decide +kernel⟩, by decide +kernel⟩, big_t (i := 172) (by decide +kernel) (by decide +kernel), by decide +kernel, rfl⟩
abbrev mX6_countOf : MM := (yX6_countOf, RX6, cX6_countOf, 4, (some .int))
theorem vX6_countOf : MV mX6_countOf 2 := ⟨⟨big_t (i := 471) (by decide +kernel) (by decide +kernel), big_t (i := 7) (by decide +kernel) (by decide +kernel), ⟨by decide +kernel, by decide +kernel, by decide +kernel⟩, by decide +kernel⟩, big_t (i := 469) (by decide +kernel) (by decide +kernel), big_t (i := 470) (by decide +kernel) (by decide +kernel)⟩
abbrev mX6_wordAt : MM := (yX6_wordAt, RX6, cX6_wordAt, 5, (some .long))
theorem vX6_wordAt : MV mX6_wordAt 3 := ⟨⟨big_t (i := 529) (by decide +kernel) (by decide +kernel), big_t (i := 7) (by decide +kernel) (by decide +kernel), ⟨by decide +kernel, by decide +kernel, by decide +kernel⟩, by decide +kernel⟩, big_t (i := 527) (by decide +kernel) (by decide +kernel), big_t (i := 528) (by decide +kernel) (by decide +kernel)⟩
abbrev mX6_add : MM := (yX6_add, RX6, cX6_add, 8, (some .int))
theorem vX6_add : MV mX6_add 3 := ⟨⟨big_t (i := 467) (by decide +kernel) (by decide +kernel), big_t (i := 7) (by decide +kernel) (by decide +kernel), ⟨by decide +kernel, by decide +kernel, by decide +kernel⟩, by decide +kernel⟩, big_t (i := 465) (by decide +kernel) (by decide +kernel), big_t (i := 466) (by decide +kernel) (by decide +kernel)⟩
abbrev mX6_empty : MM := (yX6_empty, RX6, cX6_empty, 5, (some .int))
theorem vX6_empty : MV mX6_empty 1 := ⟨⟨big_t (i := 479) (by decide +kernel) (by decide +kernel), big_t (i := 7) (by decide +kernel) (by decide +kernel), ⟨by decide +kernel, by decide +kernel, by decide +kernel⟩, by decide +kernel⟩, big_t (i := 477) (by decide +kernel) (by decide +kernel), big_t (i := 478) (by decide +kernel) (by decide +kernel)⟩
abbrev mX7_init : MM := (yX7_init, RX7, cX7_init, 2, none)
theorem iX7_init : MI mX7_init 0 := ⟨⟨big_t (i := 34) (by decide +kernel) (by decide +kernel), big_t (i := 2) (by decide +kernel) (by decide +kernel), ⟨by decide +kernel, by decide +kernel, by decide +kernel⟩, by decide +kernel⟩, big_t (i := 33) (by decide +kernel) (by decide +kernel), by decide +kernel, rfl⟩
abbrev mX7_isEmpty : MM := (yX7_isEmpty, RX7, cX7_isEmpty, 1, (some .boolean))
theorem vX7_isEmpty : MV mX7_isEmpty 0 := ⟨⟨big_t (i := 407) (by decide +kernel) (by decide +kernel), big_t (i := 2) (by decide +kernel) (by decide +kernel), ⟨by decide +kernel, by decide +kernel, by decide +kernel⟩, by decide +kernel⟩, big_t (i := 405) (by decide +kernel) (by decide +kernel), big_t (i := 406) (by decide +kernel) (by decide +kernel)⟩
abbrev mX7_has : MM := (yX7_has, RX7, cX7_has, 2, (some .boolean))
theorem vX7_has : MV mX7_has 1 := ⟨⟨big_t (i := 487) (by decide +kernel) (by decide +kernel), big_t (i := 2) (by decide +kernel) (by decide +kernel), ⟨by decide +kernel, by decide +kernel, by decide +kernel⟩, by decide +kernel⟩, big_t (i := 485) (by decide +kernel) (by decide +kernel), big_t (i := 486) (by decide +kernel) (by decide +kernel)⟩
abbrev mX7_at : MM := (yX7_at, RX7, cX7_at, 2, (some (Jvm.ClassFile.FieldType.object "QueryTexts$Clause")))
theorem vX7_at : MV mX7_at 1 := ⟨⟨big_t (i := 268) (by decide +kernel) (by decide +kernel), big_t (i := 2) (by decide +kernel) (by decide +kernel), ⟨by decide +kernel, by decide +kernel, by decide +kernel⟩, by decide +kernel⟩, big_t (i := 266) (by decide +kernel) (by decide +kernel), big_t (i := 267) (by decide +kernel) (by decide +kernel)⟩
abbrev mX7_begin : MM := (yX7_begin, RX7, cX7_begin, 2, none)
theorem vX7_begin : MV mX7_begin 0 := ⟨⟨big_t (i := 249) (by decide +kernel) (by decide +kernel), big_t (i := 2) (by decide +kernel) (by decide +kernel), ⟨by decide +kernel, by decide +kernel, by decide +kernel⟩, by decide +kernel⟩, big_t (i := 247) (by decide +kernel) (by decide +kernel), big_t (i := 248) (by decide +kernel) (by decide +kernel)⟩
abbrev mX7_hasRoom : MM := (yX7_hasRoom, RX7, cX7_hasRoom, 2, (some .boolean))
theorem vX7_hasRoom : MV mX7_hasRoom 1 := ⟨⟨big_t (i := 280) (by decide +kernel) (by decide +kernel), big_t (i := 2) (by decide +kernel) (by decide +kernel), ⟨by decide +kernel, by decide +kernel, by decide +kernel⟩, by decide +kernel⟩, big_t (i := 278) (by decide +kernel) (by decide +kernel), big_t (i := 279) (by decide +kernel) (by decide +kernel)⟩
abbrev mX7_add : MM := (yX7_add, RX7, cX7_add, 4, (some (Jvm.ClassFile.FieldType.object "QueryTexts$Clause")))
theorem vX7_add : MV mX7_add 2 := ⟨⟨big_t (i := 294) (by decide +kernel) (by decide +kernel), big_t (i := 2) (by decide +kernel) (by decide +kernel), ⟨by decide +kernel, by decide +kernel, by decide +kernel⟩, by decide +kernel⟩, big_t (i := 292) (by decide +kernel) (by decide +kernel), big_t (i := 293) (by decide +kernel) (by decide +kernel)⟩
abbrev mX7_fieldOf : MM := (yX7_fieldOf, RX7, cX7_fieldOf, 4, (some .int))
theorem vX7_fieldOf : MV mX7_fieldOf 1 := ⟨⟨big_t (i := 515) (by decide +kernel) (by decide +kernel), big_t (i := 2) (by decide +kernel) (by decide +kernel), ⟨by decide +kernel, by decide +kernel, by decide +kernel⟩, by decide +kernel⟩, big_t (i := 513) (by decide +kernel) (by decide +kernel), big_t (i := 514) (by decide +kernel) (by decide +kernel)⟩
abbrev mX8_init : MM := (yX8_init, RX8, cX8_init, 1, none)
theorem iX8_init : MI mX8_init 0 := ⟨⟨big_t (i := 26) (by decide +kernel) (by decide +kernel), big_t (i := 1) (by decide +kernel) (by decide +kernel), ⟨by decide +kernel, by decide +kernel, by decide +kernel⟩, by decide +kernel⟩, big_t (i := 25) (by decide +kernel) (by decide +kernel), by decide +kernel, rfl⟩
abbrev mX8_feed : MM := (yX8_feed, RX8, cX8_feed, 5, (some .int))
theorem vX8_feed : MV mX8_feed 2 := ⟨⟨big_t (i := 237) (by decide +kernel) (by decide +kernel), big_t (i := 1) (by decide +kernel) (by decide +kernel), ⟨by decide +kernel, by decide +kernel, by decide +kernel⟩, by decide +kernel⟩, big_t (i := 235) (by decide +kernel) (by decide +kernel), big_t (i := 236) (by decide +kernel) (by decide +kernel)⟩
abbrev mX8_read : MM := (yX8_read, RX8, cX8_read, 3, (some .int))
theorem vX8_read : MV mX8_read 0 := ⟨⟨big_t (i := 241) (by decide +kernel) (by decide +kernel), big_t (i := 1) (by decide +kernel) (by decide +kernel), ⟨by decide +kernel, by decide +kernel, by decide +kernel⟩, by decide +kernel⟩, big_t (i := 239) (by decide +kernel) (by decide +kernel), big_t (i := 240) (by decide +kernel) (by decide +kernel)⟩
abbrev mX8_lenient : MM := (yX8_lenient, RX8, cX8_lenient, 5, (some .int))
theorem vX8_lenient : MV mX8_lenient 0 := ⟨⟨big_t (i := 391) (by decide +kernel) (by decide +kernel), big_t (i := 1) (by decide +kernel) (by decide +kernel), ⟨by decide +kernel, by decide +kernel, by decide +kernel⟩, by decide +kernel⟩, big_t (i := 389) (by decide +kernel) (by decide +kernel), big_t (i := 390) (by decide +kernel) (by decide +kernel)⟩
abbrev mX8_drop : MM := (yX8_drop, RX8, cX8_drop, 2, none)
theorem vX8_drop : MV mX8_drop 1 := ⟨⟨big_t (i := 395) (by decide +kernel) (by decide +kernel), big_t (i := 1) (by decide +kernel) (by decide +kernel), ⟨by decide +kernel, by decide +kernel, by decide +kernel⟩, by decide +kernel⟩, big_t (i := 394) (by decide +kernel) (by decide +kernel), big_s (i := 20) (by decide +kernel) (by decide +kernel)⟩
abbrev mX8_adoptReading : MM := (yX8_adoptReading, RX8, cX8_adoptReading, 1, (some .int))
theorem vX8_adoptReading : MV mX8_adoptReading 0 := ⟨⟨big_t (i := 383) (by decide +kernel) (by decide +kernel), big_t (i := 1) (by decide +kernel) (by decide +kernel), ⟨by decide +kernel, by decide +kernel, by decide +kernel⟩, by decide +kernel⟩, big_t (i := 382) (by decide +kernel) (by decide +kernel), big_s (i := 19) (by decide +kernel) (by decide +kernel)⟩
abbrev mX8_dropped : MM := (yX8_dropped, RX8, cX8_dropped, 2, (some .int))
theorem vX8_dropped : MV mX8_dropped 1 := ⟨⟨big_t (i := 399) (by decide +kernel) (by decide +kernel), big_t (i := 1) (by decide +kernel) (by decide +kernel), ⟨by decide +kernel, by decide +kernel, by decide +kernel⟩, by decide +kernel⟩, big_t (i := 397) (by decide +kernel) (by decide +kernel), big_t (i := 398) (by decide +kernel) (by decide +kernel)⟩
abbrev mX8_node : MM := (yX8_node, RX8, cX8_node, 4, (some .int))
theorem vX8_node : MV mX8_node 2 := ⟨⟨big_t (i := 678) (by decide +kernel) (by decide +kernel), big_t (i := 1) (by decide +kernel) (by decide +kernel), ⟨by decide +kernel, by decide +kernel, by decide +kernel⟩, by decide +kernel⟩, big_t (i := 676) (by decide +kernel) (by decide +kernel), big_t (i := 677) (by decide +kernel) (by decide +kernel)⟩
abbrev mX8_sign : MM := (yX8_sign, RX8, cX8_sign, 6, (some .int))
theorem vX8_sign : MV mX8_sign 3 := ⟨⟨big_t (i := 703) (by decide +kernel) (by decide +kernel), big_t (i := 1) (by decide +kernel) (by decide +kernel), ⟨by decide +kernel, by decide +kernel, by decide +kernel⟩, by decide +kernel⟩, big_t (i := 701) (by decide +kernel) (by decide +kernel), big_t (i := 702) (by decide +kernel) (by decide +kernel)⟩
abbrev mX8_print : MM := (yX8_print, RX8, cX8_print, 1, (some .int))
theorem vX8_print : MV mX8_print 0 := ⟨⟨big_t (i := 403) (by decide +kernel) (by decide +kernel), big_t (i := 1) (by decide +kernel) (by decide +kernel), ⟨by decide +kernel, by decide +kernel, by decide +kernel⟩, by decide +kernel⟩, big_t (i := 401) (by decide +kernel) (by decide +kernel), big_t (i := 402) (by decide +kernel) (by decide +kernel)⟩
abbrev mX8_out : MM := (yX8_out, RX8, cX8_out, 3, (some .int))
theorem vX8_out : MV mX8_out 1 := ⟨⟨big_t (i := 742) (by decide +kernel) (by decide +kernel), big_t (i := 1) (by decide +kernel) (by decide +kernel), ⟨by decide +kernel, by decide +kernel, by decide +kernel⟩, by decide +kernel⟩, big_t (i := 740) (by decide +kernel) (by decide +kernel), big_t (i := 741) (by decide +kernel) (by decide +kernel)⟩
abbrev mX8_word : MM := (yX8_word, RX8, cX8_word, 5, (some .int))
theorem vX8_word : MV mX8_word 3 := ⟨⟨big_t (i := 454) (by decide +kernel) (by decide +kernel), big_t (i := 1) (by decide +kernel) (by decide +kernel), ⟨by decide +kernel, by decide +kernel, by decide +kernel⟩, by decide +kernel⟩, big_t (i := 452) (by decide +kernel) (by decide +kernel), big_t (i := 453) (by decide +kernel) (by decide +kernel)⟩
abbrev mX8_clear : MM := (yX8_clear, RX8, cX8_clear, 2, (some .int))
theorem vX8_clear : MV mX8_clear 1 := ⟨⟨big_t (i := 475) (by decide +kernel) (by decide +kernel), big_t (i := 1) (by decide +kernel) (by decide +kernel), ⟨by decide +kernel, by decide +kernel, by decide +kernel⟩, by decide +kernel⟩, big_t (i := 473) (by decide +kernel) (by decide +kernel), big_t (i := 474) (by decide +kernel) (by decide +kernel)⟩
abbrev mX8_fits : MM := (yX8_fits, RX8, cX8_fits, 3, (some .int))
theorem vX8_fits : MV mX8_fits 2 := ⟨⟨big_t (i := 483) (by decide +kernel) (by decide +kernel), big_t (i := 1) (by decide +kernel) (by decide +kernel), ⟨by decide +kernel, by decide +kernel, by decide +kernel⟩, by decide +kernel⟩, big_t (i := 481) (by decide +kernel) (by decide +kernel), big_t (i := 482) (by decide +kernel) (by decide +kernel)⟩
abbrev mX8_worth : MM := (yX8_worth, RX8, cX8_worth, 3, (some .long))
theorem vX8_worth : MV mX8_worth 2 := ⟨⟨big_t (i := 567) (by decide +kernel) (by decide +kernel), big_t (i := 1) (by decide +kernel) (by decide +kernel), ⟨by decide +kernel, by decide +kernel, by decide +kernel⟩, by decide +kernel⟩, big_t (i := 565) (by decide +kernel) (by decide +kernel), big_t (i := 566) (by decide +kernel) (by decide +kernel)⟩
abbrev mX8_ratio : MM := (yX8_ratio, RX8, cX8_ratio, 5, (some .long))
theorem vX8_ratio : MV mX8_ratio 2 := ⟨⟨big_t (i := 778) (by decide +kernel) (by decide +kernel), big_t (i := 1) (by decide +kernel) (by decide +kernel), ⟨by decide +kernel, by decide +kernel, by decide +kernel⟩, by decide +kernel⟩, big_t (i := 776) (by decide +kernel) (by decide +kernel), big_t (i := 777) (by decide +kernel) (by decide +kernel)⟩
abbrev mX8_why : MM := (yX8_why, RX8, cX8_why, 3, (some .int))
theorem vX8_why : MV mX8_why 1 := ⟨⟨big_t (i := 573) (by decide +kernel) (by decide +kernel), big_t (i := 1) (by decide +kernel) (by decide +kernel), ⟨by decide +kernel, by decide +kernel, by decide +kernel⟩, by decide +kernel⟩, big_t (i := 571) (by decide +kernel) (by decide +kernel), big_t (i := 572) (by decide +kernel) (by decide +kernel)⟩
abbrev mX8_rank : MM := (yX8_rank, RX8, cX8_rank, 3, (some .int))
theorem vX8_rank : MV mX8_rank 1 := ⟨⟨big_t (i := 581) (by decide +kernel) (by decide +kernel), big_t (i := 1) (by decide +kernel) (by decide +kernel), ⟨by decide +kernel, by decide +kernel, by decide +kernel⟩, by decide +kernel⟩, big_t (i := 579) (by decide +kernel) (by decide +kernel), big_t (i := 580) (by decide +kernel) (by decide +kernel)⟩
abbrev mX8_countAhead : MM := (yX8_countAhead, RX8, cX8_countAhead, 6, (some .int))
theorem vX8_countAhead : MV mX8_countAhead 1 := ⟨⟨big_t (i := 585) (by decide +kernel) (by decide +kernel), big_t (i := 1) (by decide +kernel) (by decide +kernel), ⟨by decide +kernel, by decide +kernel, by decide +kernel⟩, by decide +kernel⟩, big_t (i := 584) (by decide +kernel) (by decide +kernel), big_s (i := 37) (by decide +kernel) (by decide +kernel)⟩
abbrev mX8_isDocument : MM := (yX8_isDocument, RX8, cX8_isDocument, 1, (some .boolean))
theorem sX8_isDocument : MS mX8_isDocument 1 := ⟨⟨big_t (i := 457) (by decide +kernel) (by decide +kernel), big_t (i := 1) (by decide +kernel) (by decide +kernel), ⟨by decide +kernel, by decide +kernel, by decide +kernel⟩, by decide +kernel⟩, big_t (i := 456) (by decide +kernel) (by decide +kernel)⟩
abbrev mX9_thrown : MM := (yX9_thrown, RX9, cX9_thrown, 1, (some .int))
theorem vX9_thrown : MV mX9_thrown 0 := ⟨⟨big_t (i := 789) (by decide +kernel) (by decide +kernel), big_t (i := 9) (by decide +kernel) (by decide +kernel), ⟨by decide +kernel, by decide +kernel, by decide +kernel⟩, by decide +kernel⟩, big_t (i := 787) (by decide +kernel) (by decide +kernel), big_t (i := 788) (by decide +kernel) (by decide +kernel)⟩
abbrev mX9_in : MM := (yX9_in, RX9, cX9_in, 6, (some .boolean))
theorem sX9_in : MS mX9_in 3 := ⟨⟨big_t (i := 922) (by decide +kernel) (by decide +kernel), big_t (i := 9) (by decide +kernel) (by decide +kernel), ⟨by decide +kernel, by decide +kernel, by decide +kernel⟩, by decide +kernel⟩, big_t (i := 921) (by decide +kernel) (by decide +kernel)⟩
abbrev mX9_isLetter : MM := (yX9_isLetter, RX9, cX9_isLetter, 1, (some .boolean))
theorem sX9_isLetter : MS mX9_isLetter 1 := ⟨⟨big_t (i := 956) (by decide +kernel) (by decide +kernel), big_t (i := 9) (by decide +kernel) (by decide +kernel), ⟨by decide +kernel, by decide +kernel, by decide +kernel⟩, by decide +kernel⟩, big_t (i := 955) (by decide +kernel) (by decide +kernel)⟩
abbrev mX9_isFigure : MM := (yX9_isFigure, RX9, cX9_isFigure, 3, (some .boolean))
theorem sX9_isFigure : MS mX9_isFigure 3 := ⟨⟨big_t (i := 945) (by decide +kernel) (by decide +kernel), big_t (i := 9) (by decide +kernel) (by decide +kernel), ⟨by decide +kernel, by decide +kernel, by decide +kernel⟩, by decide +kernel⟩, big_t (i := 944) (by decide +kernel) (by decide +kernel)⟩
abbrev mX9_init : MM := (yX9_init, RX9, cX9_init, 1, none)
theorem iX9_init : MI mX9_init 0 := ⟨⟨big_t (i := 794) (by decide +kernel) (by decide +kernel), big_t (i := 9) (by decide +kernel) (by decide +kernel), ⟨by decide +kernel, by decide +kernel, by decide +kernel⟩, by decide +kernel⟩, big_t (i := 793) (by decide +kernel) (by decide +kernel), by decide +kernel, rfl⟩
abbrev mX9_feed : MM := (yX9_feed, RX9, cX9_feed, 5, (some .int))
theorem vX9_feed : MV mX9_feed 2 := ⟨⟨big_t (i := 918) (by decide +kernel) (by decide +kernel), big_t (i := 9) (by decide +kernel) (by decide +kernel), ⟨by decide +kernel, by decide +kernel, by decide +kernel⟩, by decide +kernel⟩, big_t (i := 916) (by decide +kernel) (by decide +kernel), big_t (i := 917) (by decide +kernel) (by decide +kernel)⟩
abbrev mX9_here : MM := (yX9_here, RX9, cX9_here, 1, (some .int))
theorem vX9_here : MV mX9_here 0 := ⟨⟨big_t (i := 938) (by decide +kernel) (by decide +kernel), big_t (i := 9) (by decide +kernel) (by decide +kernel), ⟨by decide +kernel, by decide +kernel, by decide +kernel⟩, by decide +kernel⟩, big_t (i := 937) (by decide +kernel) (by decide +kernel), big_s (i := 42) (by decide +kernel) (by decide +kernel)⟩
abbrev mX9_fails : MM := (yX9_fails, RX9, cX9_fails, 1, (some .boolean))
theorem vX9_fails : MV mX9_fails 0 := ⟨⟨big_t (i := 949) (by decide +kernel) (by decide +kernel), big_t (i := 9) (by decide +kernel) (by decide +kernel), ⟨by decide +kernel, by decide +kernel, by decide +kernel⟩, by decide +kernel⟩, big_t (i := 948) (by decide +kernel) (by decide +kernel), big_s (i := 44) (by decide +kernel) (by decide +kernel)⟩
abbrev mX9_newNode : MM := (yX9_newNode, RX9, cX9_newNode, 3, (some .int))
theorem vX9_newNode : MV mX9_newNode 1 := ⟨⟨big_t (i := 934) (by decide +kernel) (by decide +kernel), big_t (i := 9) (by decide +kernel) (by decide +kernel), ⟨by decide +kernel, by decide +kernel, by decide +kernel⟩, by decide +kernel⟩, big_t (i := 933) (by decide +kernel) (by decide +kernel), big_s (i := 41) (by decide +kernel) (by decide +kernel)⟩
abbrev mX9_letters : MM := (yX9_letters, RX9, cX9_letters, 4, (some .boolean))
theorem vX9_letters : MV mX9_letters 1 := ⟨⟨big_t (i := 978) (by decide +kernel) (by decide +kernel), big_t (i := 9) (by decide +kernel) (by decide +kernel), ⟨by decide +kernel, by decide +kernel, by decide +kernel⟩, by decide +kernel⟩, big_t (i := 977) (by decide +kernel) (by decide +kernel), big_s (i := 50) (by decide +kernel) (by decide +kernel)⟩
abbrev mX9_figure : MM := (yX9_figure, RX9, cX9_figure, 5, (some .boolean))
theorem vX9_figure : MV mX9_figure 4 := ⟨⟨big_t (i := 942) (by decide +kernel) (by decide +kernel), big_t (i := 9) (by decide +kernel) (by decide +kernel), ⟨by decide +kernel, by decide +kernel, by decide +kernel⟩, by decide +kernel⟩, big_t (i := 941) (by decide +kernel) (by decide +kernel), big_s (i := 43) (by decide +kernel) (by decide +kernel)⟩
abbrev mX9_word : MM := (yX9_word, RX9, cX9_word, 4, (some .boolean))
theorem vX9_word : MV mX9_word 1 := ⟨⟨big_t (i := 970) (by decide +kernel) (by decide +kernel), big_t (i := 9) (by decide +kernel) (by decide +kernel), ⟨by decide +kernel, by decide +kernel, by decide +kernel⟩, by decide +kernel⟩, big_t (i := 969) (by decide +kernel) (by decide +kernel), big_s (i := 48) (by decide +kernel) (by decide +kernel)⟩
abbrev mX9_quote : MM := (yX9_quote, RX9, cX9_quote, 3, (some .boolean))
theorem vX9_quote : MV mX9_quote 1 := ⟨⟨big_t (i := 974) (by decide +kernel) (by decide +kernel), big_t (i := 9) (by decide +kernel) (by decide +kernel), ⟨by decide +kernel, by decide +kernel, by decide +kernel⟩, by decide +kernel⟩, big_t (i := 973) (by decide +kernel) (by decide +kernel), big_s (i := 49) (by decide +kernel) (by decide +kernel)⟩
abbrev mX9_span : MM := (yX9_span, RX9, cX9_span, 4, (some .boolean))
theorem vX9_span : MV mX9_span 1 := ⟨⟨big_t (i := 982) (by decide +kernel) (by decide +kernel), big_t (i := 9) (by decide +kernel) (by decide +kernel), ⟨by decide +kernel, by decide +kernel, by decide +kernel⟩, by decide +kernel⟩, big_t (i := 981) (by decide +kernel) (by decide +kernel), big_s (i := 51) (by decide +kernel) (by decide +kernel)⟩
abbrev mX9_ends : MM := (yX9_ends, RX9, cX9_ends, 2, (some .boolean))
theorem vX9_ends : MV mX9_ends 1 := ⟨⟨big_t (i := 953) (by decide +kernel) (by decide +kernel), big_t (i := 9) (by decide +kernel) (by decide +kernel), ⟨by decide +kernel, by decide +kernel, by decide +kernel⟩, by decide +kernel⟩, big_t (i := 952) (by decide +kernel) (by decide +kernel), big_s (i := 45) (by decide +kernel) (by decide +kernel)⟩
abbrev mX9_marks : MM := (yX9_marks, RX9, cX9_marks, 3, none)
theorem vX9_marks : MV mX9_marks 1 := ⟨⟨big_t (i := 960) (by decide +kernel) (by decide +kernel), big_t (i := 9) (by decide +kernel) (by decide +kernel), ⟨by decide +kernel, by decide +kernel, by decide +kernel⟩, by decide +kernel⟩, big_t (i := 959) (by decide +kernel) (by decide +kernel), big_s (i := 46) (by decide +kernel) (by decide +kernel)⟩
abbrev mX9_core : MM := (yX9_core, RX9, cX9_core, 5, (some .boolean))
theorem vX9_core : MV mX9_core 2 := ⟨⟨big_t (i := 966) (by decide +kernel) (by decide +kernel), big_t (i := 9) (by decide +kernel) (by decide +kernel), ⟨by decide +kernel, by decide +kernel, by decide +kernel⟩, by decide +kernel⟩, big_t (i := 965) (by decide +kernel) (by decide +kernel), big_s (i := 47) (by decide +kernel) (by decide +kernel)⟩
abbrev mX9_goAlong : MM := (yX9_goAlong, RX9, cX9_goAlong, 7, (some .int))
theorem vX9_goAlong : MV mX9_goAlong 0 := ⟨⟨big_t (i := 930) (by decide +kernel) (by decide +kernel), big_t (i := 9) (by decide +kernel) (by decide +kernel), ⟨by decide +kernel, by decide +kernel, by decide +kernel⟩, by decide +kernel⟩, big_t (i := 929) (by decide +kernel) (by decide +kernel), big_s (i := 40) (by decide +kernel) (by decide +kernel)⟩
abbrev mX9_become : MM := (yX9_become, RX9, cX9_become, 2, none)
theorem vX9_become : MV mX9_become 0 := ⟨⟨big_t (i := 986) (by decide +kernel) (by decide +kernel), big_t (i := 9) (by decide +kernel) (by decide +kernel), ⟨by decide +kernel, by decide +kernel, by decide +kernel⟩, by decide +kernel⟩, big_t (i := 985) (by decide +kernel) (by decide +kernel), big_s (i := 52) (by decide +kernel) (by decide +kernel)⟩
abbrev mX9_read : MM := (yX9_read, RX9, cX9_read, 2, (some .int))
theorem vX9_read : MV mX9_read 0 := ⟨⟨big_t (i := 926) (by decide +kernel) (by decide +kernel), big_t (i := 9) (by decide +kernel) (by decide +kernel), ⟨by decide +kernel, by decide +kernel, by decide +kernel⟩, by decide +kernel⟩, big_t (i := 924) (by decide +kernel) (by decide +kernel), big_t (i := 925) (by decide +kernel) (by decide +kernel)⟩
abbrev mX9_lenient : MM := (yX9_lenient, RX9, cX9_lenient, 4, (some .int))
theorem vX9_lenient : MV mX9_lenient 0 := ⟨⟨big_t (i := 990) (by decide +kernel) (by decide +kernel), big_t (i := 9) (by decide +kernel) (by decide +kernel), ⟨by decide +kernel, by decide +kernel, by decide +kernel⟩, by decide +kernel⟩, big_t (i := 988) (by decide +kernel) (by decide +kernel), big_t (i := 989) (by decide +kernel) (by decide +kernel)⟩
abbrev mX9_dropped : MM := (yX9_dropped, RX9, cX9_dropped, 2, (some .int))
theorem vX9_dropped : MV mX9_dropped 1 := ⟨⟨big_t (i := 994) (by decide +kernel) (by decide +kernel), big_t (i := 9) (by decide +kernel) (by decide +kernel), ⟨by decide +kernel, by decide +kernel, by decide +kernel⟩, by decide +kernel⟩, big_t (i := 992) (by decide +kernel) (by decide +kernel), big_t (i := 993) (by decide +kernel) (by decide +kernel)⟩
abbrev mX9_isNode : MM := (yX9_isNode, RX9, cX9_isNode, 2, (some .boolean))
theorem vX9_isNode : MV mX9_isNode 1 := ⟨⟨big_t (i := 1002) (by decide +kernel) (by decide +kernel), big_t (i := 9) (by decide +kernel) (by decide +kernel), ⟨by decide +kernel, by decide +kernel, by decide +kernel⟩, by decide +kernel⟩, big_t (i := 1001) (by decide +kernel) (by decide +kernel), big_s (i := 53) (by decide +kernel) (by decide +kernel)⟩
abbrev mX9_node : MM := (yX9_node, RX9, cX9_node, 3, (some .int))
theorem vX9_node : MV mX9_node 2 := ⟨⟨big_t (i := 998) (by decide +kernel) (by decide +kernel), big_t (i := 9) (by decide +kernel) (by decide +kernel), ⟨by decide +kernel, by decide +kernel, by decide +kernel⟩, by decide +kernel⟩, big_t (i := 996) (by decide +kernel) (by decide +kernel), big_t (i := 997) (by decide +kernel) (by decide +kernel)⟩
abbrev mX9_sign : MM := (yX9_sign, RX9, cX9_sign, 4, (some .int))
theorem vX9_sign : MV mX9_sign 3 := ⟨⟨big_t (i := 1006) (by decide +kernel) (by decide +kernel), big_t (i := 9) (by decide +kernel) (by decide +kernel), ⟨by decide +kernel, by decide +kernel, by decide +kernel⟩, by decide +kernel⟩, big_t (i := 1004) (by decide +kernel) (by decide +kernel), big_t (i := 1005) (by decide +kernel) (by decide +kernel)⟩
abbrev mX9_put : MM := (yX9_put, RX9, cX9_put, 2, none)
theorem vX9_put : MV mX9_put 1 := ⟨⟨big_t (i := 1018) (by decide +kernel) (by decide +kernel), big_t (i := 9) (by decide +kernel) (by decide +kernel), ⟨by decide +kernel, by decide +kernel, by decide +kernel⟩, by decide +kernel⟩, big_t (i := 1017) (by decide +kernel) (by decide +kernel), big_s (i := 55) (by decide +kernel) (by decide +kernel)⟩
abbrev mX9_putWord : MM := (yX9_putWord, RX9, cX9_putWord, 4, none)
theorem vX9_putWord : MV mX9_putWord 2 := ⟨⟨big_t (i := 1030) (by decide +kernel) (by decide +kernel), big_t (i := 9) (by decide +kernel) (by decide +kernel), ⟨by decide +kernel, by decide +kernel, by decide +kernel⟩, by decide +kernel⟩, big_t (i := 1029) (by decide +kernel) (by decide +kernel), big_s (i := 58) (by decide +kernel) (by decide +kernel)⟩
abbrev mX9_putBoost : MM := (yX9_putBoost, RX9, cX9_putBoost, 2, none)
theorem vX9_putBoost : MV mX9_putBoost 1 := ⟨⟨big_t (i := 1022) (by decide +kernel) (by decide +kernel), big_t (i := 9) (by decide +kernel) (by decide +kernel), ⟨by decide +kernel, by decide +kernel, by decide +kernel⟩, by decide +kernel⟩, big_t (i := 1021) (by decide +kernel) (by decide +kernel), big_s (i := 56) (by decide +kernel) (by decide +kernel)⟩
abbrev mX9_putCore : MM := (yX9_putCore, RX9, cX9_putCore, 3, none)
theorem vX9_putCore : MV mX9_putCore 1 := ⟨⟨big_t (i := 1026) (by decide +kernel) (by decide +kernel), big_t (i := 9) (by decide +kernel) (by decide +kernel), ⟨by decide +kernel, by decide +kernel, by decide +kernel⟩, by decide +kernel⟩, big_t (i := 1025) (by decide +kernel) (by decide +kernel), big_s (i := 57) (by decide +kernel) (by decide +kernel)⟩
abbrev mX9_closes : MM := (yX9_closes, RX9, cX9_closes, 2, none)
theorem vX9_closes : MV mX9_closes 1 := ⟨⟨big_t (i := 1014) (by decide +kernel) (by decide +kernel), big_t (i := 9) (by decide +kernel) (by decide +kernel), ⟨by decide +kernel, by decide +kernel, by decide +kernel⟩, by decide +kernel⟩, big_t (i := 1013) (by decide +kernel) (by decide +kernel), big_s (i := 54) (by decide +kernel) (by decide +kernel)⟩
abbrev mX9_print : MM := (yX9_print, RX9, cX9_print, 4, (some .int))
theorem vX9_print : MV mX9_print 0 := ⟨⟨big_t (i := 1010) (by decide +kernel) (by decide +kernel), big_t (i := 9) (by decide +kernel) (by decide +kernel), ⟨by decide +kernel, by decide +kernel, by decide +kernel⟩, by decide +kernel⟩, big_t (i := 1008) (by decide +kernel) (by decide +kernel), big_t (i := 1009) (by decide +kernel) (by decide +kernel)⟩
abbrev mX9_out : MM := (yX9_out, RX9, cX9_out, 2, (some .int))
theorem vX9_out : MV mX9_out 1 := ⟨⟨big_t (i := 1034) (by decide +kernel) (by decide +kernel), big_t (i := 9) (by decide +kernel) (by decide +kernel), ⟨by decide +kernel, by decide +kernel, by decide +kernel⟩, by decide +kernel⟩, big_t (i := 1032) (by decide +kernel) (by decide +kernel), big_t (i := 1033) (by decide +kernel) (by decide +kernel)⟩
abbrev mX9_isDocument : MM := (yX9_isDocument, RX9, cX9_isDocument, 1, (some .boolean))
theorem sX9_isDocument : MS mX9_isDocument 1 := ⟨⟨big_t (i := 1041) (by decide +kernel) (by decide +kernel), big_t (i := 9) (by decide +kernel) (by decide +kernel), ⟨by decide +kernel, by decide +kernel, by decide +kernel⟩, by decide +kernel⟩, big_t (i := 1040) (by decide +kernel) (by decide +kernel)⟩
abbrev mX9_word_ : MM := (yX9_word_, RX9, cX9_word_, 10, (some .int))
theorem vX9_word_ : MV mX9_word_ 3 := ⟨⟨big_t (i := 1038) (by decide +kernel) (by decide +kernel), big_t (i := 9) (by decide +kernel) (by decide +kernel), ⟨by decide +kernel, by decide +kernel, by decide +kernel⟩, by decide +kernel⟩, big_t (i := 1036) (by decide +kernel) (by decide +kernel), big_t (i := 1037) (by decide +kernel) (by decide +kernel)⟩
abbrev mX9_clear : MM := (yX9_clear, RX9, cX9_clear, 4, (some .int))
theorem vX9_clear : MV mX9_clear 1 := ⟨⟨big_t (i := 1047) (by decide +kernel) (by decide +kernel), big_t (i := 9) (by decide +kernel) (by decide +kernel), ⟨by decide +kernel, by decide +kernel, by decide +kernel⟩, by decide +kernel⟩, big_t (i := 1045) (by decide +kernel) (by decide +kernel), big_t (i := 1046) (by decide +kernel) (by decide +kernel)⟩
abbrev mX9_against : MM := (yX9_against, RX9, cX9_against, 8, (some .int))
theorem vX9_against : MV mX9_against 3 := ⟨⟨big_t (i := 1071) (by decide +kernel) (by decide +kernel), big_t (i := 9) (by decide +kernel) (by decide +kernel), ⟨by decide +kernel, by decide +kernel, by decide +kernel⟩, by decide +kernel⟩, big_t (i := 1070) (by decide +kernel) (by decide +kernel), big_s (i := 63) (by decide +kernel) (by decide +kernel)⟩
abbrev mX9_least : MM := (yX9_least, RX9, cX9_least, 2, (some .int))
theorem sX9_least : MS mX9_least 2 := ⟨⟨big_t (i := 1082) (by decide +kernel) (by decide +kernel), big_t (i := 9) (by decide +kernel) (by decide +kernel), ⟨by decide +kernel, by decide +kernel, by decide +kernel⟩, by decide +kernel⟩, big_t (i := 1081) (by decide +kernel) (by decide +kernel)⟩
abbrev mX9_changes : MM := (yX9_changes, RX9, cX9_changes, 9, (some .int))
theorem vX9_changes : MV mX9_changes 2 := ⟨⟨big_t (i := 1079) (by decide +kernel) (by decide +kernel), big_t (i := 9) (by decide +kernel) (by decide +kernel), ⟨by decide +kernel, by decide +kernel, by decide +kernel⟩, by decide +kernel⟩, big_t (i := 1078) (by decide +kernel) (by decide +kernel), big_s (i := 65) (by decide +kernel) (by decide +kernel)⟩
abbrev mX9_fitsSigns : MM := (yX9_fitsSigns, RX9, cX9_fitsSigns, 9, (some .boolean))
theorem vX9_fitsSigns : MV mX9_fitsSigns 2 := ⟨⟨big_t (i := 1086) (by decide +kernel) (by decide +kernel), big_t (i := 9) (by decide +kernel) (by decide +kernel), ⟨by decide +kernel, by decide +kernel, by decide +kernel⟩, by decide +kernel⟩, big_t (i := 1085) (by decide +kernel) (by decide +kernel), big_s (i := 66) (by decide +kernel) (by decide +kernel)⟩
abbrev mX9_fitsWord : MM := (yX9_fitsWord, RX9, cX9_fitsWord, 5, (some .boolean))
theorem vX9_fitsWord : MV mX9_fitsWord 2 := ⟨⟨big_t (i := 1075) (by decide +kernel) (by decide +kernel), big_t (i := 9) (by decide +kernel) (by decide +kernel), ⟨by decide +kernel, by decide +kernel, by decide +kernel⟩, by decide +kernel⟩, big_t (i := 1074) (by decide +kernel) (by decide +kernel), big_s (i := 64) (by decide +kernel) (by decide +kernel)⟩
abbrev mX9_quoteAt : MM := (yX9_quoteAt, RX9, cX9_quoteAt, 7, (some .boolean))
theorem vX9_quoteAt : MV mX9_quoteAt 4 := ⟨⟨big_t (i := 1067) (by decide +kernel) (by decide +kernel), big_t (i := 9) (by decide +kernel) (by decide +kernel), ⟨by decide +kernel, by decide +kernel, by decide +kernel⟩, by decide +kernel⟩, big_t (i := 1066) (by decide +kernel) (by decide +kernel), big_s (i := 62) (by decide +kernel) (by decide +kernel)⟩
abbrev mX9_countOf : MM := (yX9_countOf, RX9, cX9_countOf, 9, (some .int))
theorem vX9_countOf : MV mX9_countOf 2 := ⟨⟨big_t (i := 1063) (by decide +kernel) (by decide +kernel), big_t (i := 9) (by decide +kernel) (by decide +kernel), ⟨by decide +kernel, by decide +kernel, by decide +kernel⟩, by decide +kernel⟩, big_t (i := 1062) (by decide +kernel) (by decide +kernel), big_s (i := 61) (by decide +kernel) (by decide +kernel)⟩
abbrev mX9_reckonGroup : MM := (yX9_reckonGroup, RX9, cX9_reckonGroup, 9, none)
theorem vX9_reckonGroup : MV mX9_reckonGroup 1 := ⟨⟨big_t (i := 1059) (by decide +kernel) (by decide +kernel), big_t (i := 9) (by decide +kernel) (by decide +kernel), ⟨by decide +kernel, by decide +kernel, by decide +kernel⟩, by decide +kernel⟩, big_t (i := 1058) (by decide +kernel) (by decide +kernel), big_s (i := 60) (by decide +kernel) (by decide +kernel)⟩
abbrev mX9_reckon : MM := (yX9_reckon, RX9, cX9_reckon, 4, none)
theorem vX9_reckon : MV mX9_reckon 1 := ⟨⟨big_t (i := 1055) (by decide +kernel) (by decide +kernel), big_t (i := 9) (by decide +kernel) (by decide +kernel), ⟨by decide +kernel, by decide +kernel, by decide +kernel⟩, by decide +kernel⟩, big_t (i := 1054) (by decide +kernel) (by decide +kernel), big_s (i := 59) (by decide +kernel) (by decide +kernel)⟩
abbrev mX9_fits : MM := (yX9_fits, RX9, cX9_fits, 3, (some .int))
theorem vX9_fits : MV mX9_fits 2 := ⟨⟨big_t (i := 1051) (by decide +kernel) (by decide +kernel), big_t (i := 9) (by decide +kernel) (by decide +kernel), ⟨by decide +kernel, by decide +kernel, by decide +kernel⟩, by decide +kernel⟩, big_t (i := 1049) (by decide +kernel) (by decide +kernel), big_t (i := 1050) (by decide +kernel) (by decide +kernel)⟩
abbrev mX9_worth : MM := (yX9_worth, RX9, cX9_worth, 3, (some .long))
theorem vX9_worth : MV mX9_worth 2 := ⟨⟨big_t (i := 1090) (by decide +kernel) (by decide +kernel), big_t (i := 9) (by decide +kernel) (by decide +kernel), ⟨by decide +kernel, by decide +kernel, by decide +kernel⟩, by decide +kernel⟩, big_t (i := 1088) (by decide +kernel) (by decide +kernel), big_t (i := 1089) (by decide +kernel) (by decide +kernel)⟩
abbrev mX9_ratio : MM := (yX9_ratio, RX9, cX9_ratio, 5, (some .long))
theorem vX9_ratio : MV mX9_ratio 2 := ⟨⟨big_t (i := 1095) (by decide +kernel) (by decide +kernel), big_t (i := 9) (by decide +kernel) (by decide +kernel), ⟨by decide +kernel, by decide +kernel, by decide +kernel⟩, by decide +kernel⟩, big_t (i := 1093) (by decide +kernel) (by decide +kernel), big_t (i := 1094) (by decide +kernel) (by decide +kernel)⟩
abbrev mX9_why : MM := (yX9_why, RX9, cX9_why, 4, (some .int))
theorem vX9_why : MV mX9_why 1 := ⟨⟨big_t (i := 1100) (by decide +kernel) (by decide +kernel), big_t (i := 9) (by decide +kernel) (by decide +kernel), ⟨by decide +kernel, by decide +kernel, by decide +kernel⟩, by decide +kernel⟩, big_t (i := 1098) (by decide +kernel) (by decide +kernel), big_t (i := 1099) (by decide +kernel) (by decide +kernel)⟩
abbrev mX9_rank : MM := (yX9_rank, RX9, cX9_rank, 6, (some .int))
theorem vX9_rank : MV mX9_rank 1 := ⟨⟨big_t (i := 1104) (by decide +kernel) (by decide +kernel), big_t (i := 9) (by decide +kernel) (by decide +kernel), ⟨by decide +kernel, by decide +kernel, by decide +kernel⟩, by decide +kernel⟩, big_t (i := 1102) (by decide +kernel) (by decide +kernel), big_t (i := 1103) (by decide +kernel) (by decide +kernel)⟩
abbrev mJx00060_init_a7421 : MM := (yJx00060_init_a7421, RJx00060, cJx00060_init_a7421, 2, none)
theorem iJx00060_init_a7421 : MI mJx00060_init_a7421 1 := ⟨⟨big_t (i := 592) (by decide +kernel) (by decide +kernel), big_t (i := 16) (by decide +kernel) (by decide +kernel), ⟨by decide +kernel, by decide +kernel, by decide +kernel⟩, by decide +kernel⟩, big_t (i := 591) (by decide +kernel) (by decide +kernel), by decide +kernel, rfl⟩
abbrev mJx3273f_init_a7421 : MM := (yJx3273f_init_a7421, RJx3273f, cJx3273f_init_a7421, 2, none)
theorem iJx3273f_init_a7421 : MI mJx3273f_init_a7421 1 := ⟨⟨big_t (i := 689) (by decide +kernel) (by decide +kernel), big_t (i := 18) (by decide +kernel) (by decide +kernel), ⟨by decide +kernel, by decide +kernel, by decide +kernel⟩, by decide +kernel⟩, big_t (i := 688) (by decide +kernel) (by decide +kernel), by decide +kernel, rfl⟩
abbrev mJ9_floorDiv_f86c9 : MM := (yJ9_floorDiv_f86c9, RJ9, cJ9_floorDiv_f86c9, 6, (some .long))
theorem sJ9_floorDiv_f86c9 : MS mJ9_floorDiv_f86c9 2 := ⟨⟨big_t (i := 785) (by decide +kernel) (by decide +kernel), big_t (i := 20) (by decide +kernel) (by decide +kernel), ⟨by decide +kernel, by decide +kernel, by decide +kernel⟩, by decide +kernel⟩, big_t (i := 784) (by decide +kernel) (by decide +kernel)⟩
abbrev mJ9_max_f86c9 : MM := (yJ9_max_f86c9, RJ9, cJ9_max_f86c9, 4, (some .long))
theorem sJ9_max_f86c9 : MS mJ9_max_f86c9 2 := ⟨⟨big_t (i := 507) (by decide +kernel) (by decide +kernel), big_t (i := 20) (by decide +kernel) (by decide +kernel), ⟨by decide +kernel, by decide +kernel, by decide +kernel⟩, by decide +kernel⟩, big_t (i := 506) (by decide +kernel) (by decide +kernel)⟩
abbrev mJ9_min_7cf53 : MM := (yJ9_min_7cf53, RJ9, cJ9_min_7cf53, 2, (some .int))
theorem sJ9_min_7cf53 : MS mJ9_min_7cf53 2 := ⟨⟨big_t (i := 537) (by decide +kernel) (by decide +kernel), big_t (i := 20) (by decide +kernel) (by decide +kernel), ⟨by decide +kernel, by decide +kernel, by decide +kernel⟩, by decide +kernel⟩, big_t (i := 536) (by decide +kernel) (by decide +kernel)⟩
abbrev mJx5d777_init_da8c8 : MM := (yJx5d777_init_da8c8, RJx5d777, cJx5d777_init_da8c8, 1, none)
theorem iJx5d777_init_da8c8 : MI mJx5d777_init_da8c8 0 := ⟨⟨big_t (i := 715) (by decide +kernel) (by decide +kernel), big_t (i := 19) (by decide +kernel) (by decide +kernel), ⟨by decide +kernel, by decide +kernel, by decide +kernel⟩, by decide +kernel⟩, big_t (i := 714) (by decide +kernel) (by decide +kernel), by decide +kernel, rfl⟩
abbrev mJx5d777_init_a7421 : MM := (yJx5d777_init_a7421, RJx5d777, cJx5d777_init_a7421, 2, none)
theorem iJx5d777_init_a7421 : MI mJx5d777_init_a7421 1 := ⟨⟨big_t (i := 751) (by decide +kernel) (by decide +kernel), big_t (i := 19) (by decide +kernel) (by decide +kernel), ⟨by decide +kernel, by decide +kernel, by decide +kernel⟩, by decide +kernel⟩, big_t (i := 750) (by decide +kernel) (by decide +kernel), by decide +kernel, rfl⟩
abbrev mJ7_fill_d0a16 : MM := (yJ7_fill_d0a16, RJ7, cJ7_fill_d0a16, 5, none)
theorem sJ7_fill_d0a16 : MS mJ7_fill_d0a16 2 := ⟨⟨big_t (i := 256) (by decide +kernel) (by decide +kernel), big_t (i := 10) (by decide +kernel) (by decide +kernel), ⟨by decide +kernel, by decide +kernel, by decide +kernel⟩, by decide +kernel⟩, big_t (i := 255) (by decide +kernel) (by decide +kernel)⟩
theorem ii_L : Cond.initialized RL ∈ BIG := big_t (i := 0) (by decide +kernel) (by decide +kernel)
theorem ii_X8 : Cond.initialized RX8 ∈ BIG := big_t (i := 1) (by decide +kernel) (by decide +kernel)
theorem ii_X7 : Cond.initialized RX7 ∈ BIG := big_t (i := 2) (by decide +kernel) (by decide +kernel)
theorem ii_X0 : Cond.initialized RX0 ∈ BIG := big_t (i := 3) (by decide +kernel) (by decide +kernel)
theorem ii_X4 : Cond.initialized RX4 ∈ BIG := big_t (i := 4) (by decide +kernel) (by decide +kernel)
theorem ii_X5 : Cond.initialized RX5 ∈ BIG := big_t (i := 5) (by decide +kernel) (by decide +kernel)
theorem ii_X1 : Cond.initialized RX1 ∈ BIG := big_t (i := 6) (by decide +kernel) (by decide +kernel)
theorem ii_X6 : Cond.initialized RX6 ∈ BIG := big_t (i := 7) (by decide +kernel) (by decide +kernel)
theorem ii_X3 : Cond.initialized RX3 ∈ BIG := big_t (i := 8) (by decide +kernel) (by decide +kernel)
theorem ii_X9 : Cond.initialized RX9 ∈ BIG := big_t (i := 9) (by decide +kernel) (by decide +kernel)
theorem ii_J7 : Cond.initialized RJ7 ∈ BIG := big_t (i := 10) (by decide +kernel) (by decide +kernel)
theorem ii_X2 : Cond.initialized RX2 ∈ BIG := big_t (i := 11) (by decide +kernel) (by decide +kernel)
theorem ii_Jx00060 : Cond.initialized RJx00060 ∈ BIG := big_t (i := 16) (by decide +kernel) (by decide +kernel)
theorem ii_J0 : Cond.initialized RJ0 ∈ BIG := big_t (i := 17) (by decide +kernel) (by decide +kernel)
theorem ii_Jx3273f : Cond.initialized RJx3273f ∈ BIG := big_t (i := 18) (by decide +kernel) (by decide +kernel)
theorem ii_Jx5d777 : Cond.initialized RJx5d777 ∈ BIG := big_t (i := 19) (by decide +kernel) (by decide +kernel)
theorem ii_J9 : Cond.initialized RJ9 ∈ BIG := big_t (i := 20) (by decide +kernel) (by decide +kernel)
theorem cl_L_8 : Cond.classLink RL 8 RX8 ∈ BIG := big_t (i := 22) (by decide +kernel) (by decide +kernel)
theorem in_X8 : Cond.instantiable RX8 10 ∈ BIG := big_t (i := 23) (by decide +kernel) (by decide +kernel)
theorem ml_L_33 : Cond.methodLink RL 33 yX8_init ∈ BIG := big_t (i := 24) (by decide +kernel) (by decide +kernel)
theorem ml_X8_1 : Cond.methodLink RX8 1 ⟨"java/lang/Object", "<init>", "()V"⟩ ∈ BIG := big_t (i := 27) (by decide +kernel) (by decide +kernel)
theorem cl_X8_27 : Cond.classLink RX8 27 RX7 ∈ BIG := big_t (i := 30) (by decide +kernel) (by decide +kernel)
theorem in_X7 : Cond.instantiable RX7 2 ∈ BIG := big_t (i := 31) (by decide +kernel) (by decide +kernel)
theorem ml_X8_29 : Cond.methodLink RX8 29 yX7_init ∈ BIG := big_t (i := 32) (by decide +kernel) (by decide +kernel)
theorem ml_X7_3 : Cond.methodLink RX7 3 ⟨"java/lang/Object", "<init>", "()V"⟩ ∈ BIG := big_t (i := 35) (by decide +kernel) (by decide +kernel)
theorem cl_X7_9 : Cond.classLink RX7 9 RX0 ∈ BIG := big_t (i := 36) (by decide +kernel) (by decide +kernel)
theorem in_X0 : Cond.instantiable RX0 8 ∈ BIG := big_t (i := 38) (by decide +kernel) (by decide +kernel)
theorem ml_X0_3 : Cond.methodLink RX0 3 ⟨"java/lang/Object", "<init>", "()V"⟩ ∈ BIG := big_t (i := 42) (by decide +kernel) (by decide +kernel)
theorem cl_X8_34 : Cond.classLink RX8 34 RX4 ∈ BIG := big_t (i := 115) (by decide +kernel) (by decide +kernel)
theorem in_X4 : Cond.instantiable RX4 8 ∈ BIG := big_t (i := 116) (by decide +kernel) (by decide +kernel)
theorem ml_X4_3 : Cond.methodLink RX4 3 ⟨"java/lang/Object", "<init>", "()V"⟩ ∈ BIG := big_t (i := 120) (by decide +kernel) (by decide +kernel)
theorem cl_X4_9 : Cond.classLink RX4 9 RX7 ∈ BIG := big_t (i := 121) (by decide +kernel) (by decide +kernel)
theorem ml_X4_11 : Cond.methodLink RX4 11 yX7_init ∈ BIG := big_t (i := 122) (by decide +kernel) (by decide +kernel)
theorem cl_X4_28 : Cond.classLink RX4 28 RX0 ∈ BIG := big_t (i := 123) (by decide +kernel) (by decide +kernel)
theorem cl_X8_41 : Cond.classLink RX8 41 RX5 ∈ BIG := big_t (i := 150) (by decide +kernel) (by decide +kernel)
theorem in_X5 : Cond.instantiable RX5 2 ∈ BIG := big_t (i := 151) (by decide +kernel) (by decide +kernel)
theorem ml_X5_3 : Cond.methodLink RX5 3 ⟨"java/lang/Object", "<init>", "()V"⟩ ∈ BIG := big_t (i := 155) (by decide +kernel) (by decide +kernel)
theorem cl_X8_48 : Cond.classLink RX8 48 RX1 ∈ BIG := big_t (i := 163) (by decide +kernel) (by decide +kernel)
theorem in_X1 : Cond.instantiable RX1 3 ∈ BIG := big_t (i := 164) (by decide +kernel) (by decide +kernel)
theorem ml_X1_3 : Cond.methodLink RX1 3 ⟨"java/lang/Object", "<init>", "()V"⟩ ∈ BIG := big_t (i := 168) (by decide +kernel) (by decide +kernel)
theorem cl_X1_9 : Cond.classLink RX1 9 RX6 ∈ BIG := big_t (i := 169) (by decide +kernel) (by decide +kernel)
theorem in_X6 : Cond.instantiable RX6 2 ∈ BIG := big_t (i := 170) (by decide +kernel) (by decide +kernel)
theorem ml_X6_3 : Cond.methodLink RX6 3 ⟨"java/lang/Object", "<init>", "()V"⟩ ∈ BIG := big_t (i := 174) (by decide +kernel) (by decide +kernel)
theorem cl_X1_18 : Cond.classLink RX1 18 RX3 ∈ BIG := big_t (i := 182) (by decide +kernel) (by decide +kernel)
theorem in_X3 : Cond.instantiable RX3 1 ∈ BIG := big_t (i := 183) (by decide +kernel) (by decide +kernel)
theorem ml_X3_3 : Cond.methodLink RX3 3 ⟨"java/lang/Object", "<init>", "()V"⟩ ∈ BIG := big_t (i := 187) (by decide +kernel) (by decide +kernel)
theorem ml_L_39 : Cond.methodLink RL 39 yX8_feed ∈ BIG := big_t (i := 234) (by decide +kernel) (by decide +kernel)
theorem ml_L_44 : Cond.methodLink RL 44 yX8_read ∈ BIG := big_t (i := 238) (by decide +kernel) (by decide +kernel)
theorem ml_X8_59 : Cond.methodLink RX8 59 yX4_begin ∈ BIG := big_t (i := 242) (by decide +kernel) (by decide +kernel)
theorem ml_X4_45 : Cond.methodLink RX4 45 yX7_begin ∈ BIG := big_t (i := 246) (by decide +kernel) (by decide +kernel)
theorem ml_X7_22 : Cond.methodLink RX7 22 yX0_start ∈ BIG := big_t (i := 250) (by decide +kernel) (by decide +kernel)
theorem ml_X0_37 : Cond.methodLink RX0 37 yJ7_fill_d0a16 ∈ BIG := big_t (i := 254) (by decide +kernel) (by decide +kernel)
theorem ml_X8_62 : Cond.methodLink RX8 62 yX4_takes ∈ BIG := big_t (i := 257) (by decide +kernel) (by decide +kernel)
theorem ml_X4_55 : Cond.methodLink RX4 55 yX4_takesInGap ∈ BIG := big_t (i := 261) (by decide +kernel) (by decide +kernel)
theorem ml_X4_48 : Cond.methodLink RX4 48 yX7_at ∈ BIG := big_t (i := 265) (by decide +kernel) (by decide +kernel)
theorem ml_X4_106 : Cond.methodLink RX4 106 yX4_closeGroup ∈ BIG := big_t (i := 269) (by decide +kernel) (by decide +kernel)
theorem ml_X4_82 : Cond.methodLink RX4 82 yX4_goTo ∈ BIG := big_t (i := 273) (by decide +kernel) (by decide +kernel)
theorem ml_X4_110 : Cond.methodLink RX4 110 yX7_hasRoom ∈ BIG := big_t (i := 277) (by decide +kernel) (by decide +kernel)
theorem ml_X4_59 : Cond.methodLink RX4 59 yX4_canBeginCore ∈ BIG := big_t (i := 281) (by decide +kernel) (by decide +kernel)
theorem ml_X4_117 : Cond.methodLink RX4 117 yX2_isSign ∈ BIG := big_t (i := 285) (by decide +kernel) (by decide +kernel)
theorem ml_X2_9 : Cond.methodLink RX2 9 yX2_isLetter ∈ BIG := big_t (i := 288) (by decide +kernel) (by decide +kernel)
theorem ml_X4_113 : Cond.methodLink RX4 113 yX7_add ∈ BIG := big_t (i := 291) (by decide +kernel) (by decide +kernel)
theorem ml_X7_32 : Cond.methodLink RX7 32 yX7_at ∈ BIG := big_t (i := 295) (by decide +kernel) (by decide +kernel)
theorem ml_X4_63 : Cond.methodLink RX4 63 yX4_beginCore ∈ BIG := big_t (i := 296) (by decide +kernel) (by decide +kernel)
theorem ml_X4_122 : Cond.methodLink RX4 122 yX4_openGroup ∈ BIG := big_t (i := 300) (by decide +kernel) (by decide +kernel)
theorem ml_X4_91 : Cond.methodLink RX4 91 yX4_beginWord ∈ BIG := big_t (i := 304) (by decide +kernel) (by decide +kernel)
theorem ml_X4_131 : Cond.methodLink RX4 131 yX4_takeSign ∈ BIG := big_t (i := 308) (by decide +kernel) (by decide +kernel)
theorem ml_X4_140 : Cond.methodLink RX4 140 yX2_isLetter ∈ BIG := big_t (i := 312) (by decide +kernel) (by decide +kernel)
theorem ml_X4_143 : Cond.methodLink RX4 143 yX0_addSign ∈ BIG := big_t (i := 313) (by decide +kernel) (by decide +kernel)
theorem ml_X4_66 : Cond.methodLink RX4 66 yX4_takesInWord ∈ BIG := big_t (i := 317) (by decide +kernel) (by decide +kernel)
theorem ml_X4_147 : Cond.methodLink RX4 147 yX4_isFieldLetter ∈ BIG := big_t (i := 321) (by decide +kernel) (by decide +kernel)
theorem ml_X4_153 : Cond.methodLink RX4 153 yX0_wordAt ∈ BIG := big_t (i := 325) (by decide +kernel) (by decide +kernel)
theorem ml_X4_157 : Cond.methodLink RX4 157 yX2_signAt ∈ BIG := big_t (i := 329) (by decide +kernel) (by decide +kernel)
theorem ml_X4_150 : Cond.methodLink RX4 150 yX4_takeField ∈ BIG := big_t (i := 332) (by decide +kernel) (by decide +kernel)
theorem ml_X4_164 : Cond.methodLink RX4 164 yX0_turnToField ∈ BIG := big_t (i := 336) (by decide +kernel) (by decide +kernel)
theorem ml_X0_43 : Cond.methodLink RX0 43 yX2_signAt ∈ BIG := big_t (i := 340) (by decide +kernel) (by decide +kernel)
theorem ml_X4_85 : Cond.methodLink RX4 85 yX4_takesTail ∈ BIG := big_t (i := 341) (by decide +kernel) (by decide +kernel)
theorem ml_X4_103 : Cond.methodLink RX4 103 yX4_takesEnd ∈ BIG := big_t (i := 345) (by decide +kernel) (by decide +kernel)
theorem ml_X4_69 : Cond.methodLink RX4 69 yX4_takesDetail ∈ BIG := big_t (i := 349) (by decide +kernel) (by decide +kernel)
theorem ml_X4_73 : Cond.methodLink RX4 73 yX4_takesLetter ∈ BIG := big_t (i := 353) (by decide +kernel) (by decide +kernel)
theorem ml_X4_76 : Cond.methodLink RX4 76 yX4_takesInQuote ∈ BIG := big_t (i := 357) (by decide +kernel) (by decide +kernel)
theorem ml_X4_79 : Cond.methodLink RX4 79 yX4_takesInQuoteGap ∈ BIG := big_t (i := 361) (by decide +kernel) (by decide +kernel)
theorem ml_X4_88 : Cond.methodLink RX4 88 yX4_takesInSpan ∈ BIG := big_t (i := 365) (by decide +kernel) (by decide +kernel)
theorem ml_X4_94 : Cond.methodLink RX4 94 yX4_isFigure ∈ BIG := big_t (i := 369) (by decide +kernel) (by decide +kernel)
theorem ml_X4_97 : Cond.methodLink RX4 97 yX4_takeBoost ∈ BIG := big_t (i := 372) (by decide +kernel) (by decide +kernel)
theorem ml_X8_66 : Cond.methodLink RX8 66 yX4_isWhole ∈ BIG := big_t (i := 376) (by decide +kernel) (by decide +kernel)
theorem ml_X8_70 : Cond.methodLink RX8 70 yX8_adoptReading ∈ BIG := big_t (i := 380) (by decide +kernel) (by decide +kernel)
theorem ml_X8_78 : Cond.methodLink RX8 78 yX4_exchange ∈ BIG := big_t (i := 384) (by decide +kernel) (by decide +kernel)
theorem ml_L_49 : Cond.methodLink RL 49 yX8_lenient ∈ BIG := big_t (i := 388) (by decide +kernel) (by decide +kernel)
theorem ml_X8_74 : Cond.methodLink RX8 74 yX8_drop ∈ BIG := big_t (i := 392) (by decide +kernel) (by decide +kernel)
theorem ml_L_53 : Cond.methodLink RL 53 yX8_dropped ∈ BIG := big_t (i := 396) (by decide +kernel) (by decide +kernel)
theorem ml_L_70 : Cond.methodLink RL 70 yX8_print ∈ BIG := big_t (i := 400) (by decide +kernel) (by decide +kernel)
theorem ml_X8_139 : Cond.methodLink RX8 139 yX7_isEmpty ∈ BIG := big_t (i := 404) (by decide +kernel) (by decide +kernel)
theorem ml_X8_142 : Cond.methodLink RX8 142 yX5_write ∈ BIG := big_t (i := 408) (by decide +kernel) (by decide +kernel)
theorem ml_X5_24 : Cond.methodLink RX5 24 yX7_at ∈ BIG := big_t (i := 412) (by decide +kernel) (by decide +kernel)
theorem ml_X5_33 : Cond.methodLink RX5 33 yX5_closeGroups ∈ BIG := big_t (i := 413) (by decide +kernel) (by decide +kernel)
theorem ml_X5_37 : Cond.methodLink RX5 37 yX5_put ∈ BIG := big_t (i := 417) (by decide +kernel) (by decide +kernel)
theorem ml_X5_54 : Cond.methodLink RX5 54 yX5_putTold ∈ BIG := big_t (i := 421) (by decide +kernel) (by decide +kernel)
theorem ml_X5_41 : Cond.methodLink RX5 41 yX5_putHead ∈ BIG := big_t (i := 425) (by decide +kernel) (by decide +kernel)
theorem ml_X5_48 : Cond.methodLink RX5 48 yX5_putCore ∈ BIG := big_t (i := 429) (by decide +kernel) (by decide +kernel)
theorem ml_X5_67 : Cond.methodLink RX5 67 yX5_putQuote ∈ BIG := big_t (i := 433) (by decide +kernel) (by decide +kernel)
theorem ml_X5_73 : Cond.methodLink RX5 73 yX0_wordAt ∈ BIG := big_t (i := 437) (by decide +kernel) (by decide +kernel)
theorem ml_X5_77 : Cond.methodLink RX5 77 yX5_putWord ∈ BIG := big_t (i := 438) (by decide +kernel) (by decide +kernel)
theorem ml_X5_84 : Cond.methodLink RX5 84 yX2_lengthOf ∈ BIG := big_t (i := 442) (by decide +kernel) (by decide +kernel)
theorem ml_X2_15 : Cond.methodLink RX2 15 yX2_signAt ∈ BIG := big_t (i := 445) (by decide +kernel) (by decide +kernel)
theorem ml_X5_90 : Cond.methodLink RX5 90 yX2_signAt ∈ BIG := big_t (i := 446) (by decide +kernel) (by decide +kernel)
theorem ml_X5_70 : Cond.methodLink RX5 70 yX5_putSpan ∈ BIG := big_t (i := 447) (by decide +kernel) (by decide +kernel)
theorem ml_L_78 : Cond.methodLink RL 78 yX8_word ∈ BIG := big_t (i := 451) (by decide +kernel) (by decide +kernel)
theorem ml_X8_160 : Cond.methodLink RX8 160 yX8_isDocument ∈ BIG := big_t (i := 455) (by decide +kernel) (by decide +kernel)
theorem ml_X8_163 : Cond.methodLink RX8 163 yX2_isPlain ∈ BIG := big_t (i := 458) (by decide +kernel) (by decide +kernel)
theorem ml_X8_171 : Cond.methodLink RX8 171 yX2_moveAhead ∈ BIG := big_t (i := 461) (by decide +kernel) (by decide +kernel)
theorem ml_X8_175 : Cond.methodLink RX8 175 yX6_add ∈ BIG := big_t (i := 464) (by decide +kernel) (by decide +kernel)
theorem ml_X6_19 : Cond.methodLink RX6 19 yX6_countOf ∈ BIG := big_t (i := 468) (by decide +kernel) (by decide +kernel)
theorem ml_L_83 : Cond.methodLink RL 83 yX8_clear ∈ BIG := big_t (i := 472) (by decide +kernel) (by decide +kernel)
theorem ml_X8_181 : Cond.methodLink RX8 181 yX6_empty ∈ BIG := big_t (i := 476) (by decide +kernel) (by decide +kernel)
theorem ml_L_87 : Cond.methodLink RL 87 yX8_fits ∈ BIG := big_t (i := 480) (by decide +kernel) (by decide +kernel)
theorem ml_X8_85 : Cond.methodLink RX8 85 yX7_has ∈ BIG := big_t (i := 484) (by decide +kernel) (by decide +kernel)
theorem ml_X8_184 : Cond.methodLink RX8 184 yX1_weigh ∈ BIG := big_t (i := 488) (by decide +kernel) (by decide +kernel)
theorem ml_X1_35 : Cond.methodLink RX1 35 yX7_at ∈ BIG := big_t (i := 492) (by decide +kernel) (by decide +kernel)
theorem ml_X1_44 : Cond.methodLink RX1 44 yX1_groupValue ∈ BIG := big_t (i := 493) (by decide +kernel) (by decide +kernel)
theorem ml_X1_65 : Cond.methodLink RX1 65 yX1_valueAt ∈ BIG := big_t (i := 497) (by decide +kernel) (by decide +kernel)
theorem kl_X1_60 : Cond.constantLong RX1 60 (-1) ∈ BIG := big_t (i := 501) (by decide +kernel) (by decide +kernel)
theorem ml_X1_75 : Cond.methodLink RX1 75 yX1_isFault ∈ BIG := big_t (i := 502) (by decide +kernel) (by decide +kernel)
theorem ml_X1_79 : Cond.methodLink RX1 79 yJ9_max_f86c9 ∈ BIG := big_t (i := 505) (by decide +kernel) (by decide +kernel)
theorem ml_X1_48 : Cond.methodLink RX1 48 yX1_setValue ∈ BIG := big_t (i := 508) (by decide +kernel) (by decide +kernel)
theorem ml_X1_52 : Cond.methodLink RX1 52 yX7_fieldOf ∈ BIG := big_t (i := 512) (by decide +kernel) (by decide +kernel)
theorem ml_X7_45 : Cond.methodLink RX7 45 yX7_has ∈ BIG := big_t (i := 516) (by decide +kernel) (by decide +kernel)
theorem ml_X1_56 : Cond.methodLink RX1 56 yX1_countFits ∈ BIG := big_t (i := 517) (by decide +kernel) (by decide +kernel)
theorem ml_X1_88 : Cond.methodLink RX1 88 yX1_countQuotes ∈ BIG := big_t (i := 521) (by decide +kernel) (by decide +kernel)
theorem ml_X1_95 : Cond.methodLink RX1 95 yX6_countOf ∈ BIG := big_t (i := 525) (by decide +kernel) (by decide +kernel)
theorem ml_X1_99 : Cond.methodLink RX1 99 yX6_wordAt ∈ BIG := big_t (i := 526) (by decide +kernel) (by decide +kernel)
theorem ml_X1_107 : Cond.methodLink RX1 107 yX0_wordAt ∈ BIG := big_t (i := 530) (by decide +kernel) (by decide +kernel)
theorem ml_X1_109 : Cond.methodLink RX1 109 yX1_quoteStands ∈ BIG := big_t (i := 531) (by decide +kernel) (by decide +kernel)
theorem ml_X1_116 : Cond.methodLink RX1 116 yJ9_min_7cf53 ∈ BIG := big_t (i := 535) (by decide +kernel) (by decide +kernel)
theorem ml_X1_92 : Cond.methodLink RX1 92 yX1_countWords ∈ BIG := big_t (i := 538) (by decide +kernel) (by decide +kernel)
theorem ml_X1_103 : Cond.methodLink RX1 103 yX3_isFor ∈ BIG := big_t (i := 542) (by decide +kernel) (by decide +kernel)
theorem ml_X3_21 : Cond.methodLink RX3 21 yX3_isWithin ∈ BIG := big_t (i := 546) (by decide +kernel) (by decide +kernel)
theorem ml_X3_28 : Cond.methodLink RX3 28 yX0_wordAt ∈ BIG := big_t (i := 549) (by decide +kernel) (by decide +kernel)
theorem ml_X3_32 : Cond.methodLink RX3 32 yX3_changes ∈ BIG := big_t (i := 550) (by decide +kernel) (by decide +kernel)
theorem ml_X3_40 : Cond.methodLink RX3 40 yX2_lengthOf ∈ BIG := big_t (i := 554) (by decide +kernel) (by decide +kernel)
theorem ml_X3_46 : Cond.methodLink RX3 46 yX2_signAt ∈ BIG := big_t (i := 555) (by decide +kernel) (by decide +kernel)
theorem ml_X3_50 : Cond.methodLink RX3 50 yJ9_min_7cf53 ∈ BIG := big_t (i := 556) (by decide +kernel) (by decide +kernel)
theorem ml_X3_36 : Cond.methodLink RX3 36 yX3_hasSigns ∈ BIG := big_t (i := 557) (by decide +kernel) (by decide +kernel)
theorem ml_X3_56 : Cond.methodLink RX3 56 yX3_placesOf ∈ BIG := big_t (i := 560) (by decide +kernel) (by decide +kernel)
theorem kl_X8_188 : Cond.constantLong RX8 188 (-1) ∈ BIG := big_t (i := 563) (by decide +kernel) (by decide +kernel)
theorem ml_L_91 : Cond.methodLink RL 91 yX8_worth ∈ BIG := big_t (i := 564) (by decide +kernel) (by decide +kernel)
theorem kl_X8_190 : Cond.constantLong RX8 190 (-101) ∈ BIG := big_t (i := 568) (by decide +kernel) (by decide +kernel)
theorem ml_X8_192 : Cond.methodLink RX8 192 yJ9_max_f86c9 ∈ BIG := big_t (i := 569) (by decide +kernel) (by decide +kernel)
theorem ml_L_98 : Cond.methodLink RL 98 yX8_why ∈ BIG := big_t (i := 570) (by decide +kernel) (by decide +kernel)
theorem ml_X8_208 : Cond.methodLink RX8 208 yX1_firstFault ∈ BIG := big_t (i := 574) (by decide +kernel) (by decide +kernel)
theorem ml_L_102 : Cond.methodLink RL 102 yX8_rank ∈ BIG := big_t (i := 578) (by decide +kernel) (by decide +kernel)
theorem ml_X8_212 : Cond.methodLink RX8 212 yX8_countAhead ∈ BIG := big_t (i := 582) (by decide +kernel) (by decide +kernel)
theorem ml_L_57 : Cond.methodLink RL 57 yL_node ∈ BIG := big_t (i := 586) (by decide +kernel) (by decide +kernel)
theorem cl_L_13 : Cond.classLink RL 13 RJx00060 ∈ BIG := big_t (i := 589) (by decide +kernel) (by decide +kernel)
theorem in_Jx00060 : Cond.instantiable RJx00060 6 ∈ BIG := big_t (i := 590) (by decide +kernel) (by decide +kernel)
theorem in_Jx5d777 : Cond.instantiable RJx5d777 8 ∈ BIG := big_t (i := 622) (by decide +kernel) (by decide +kernel)
theorem in_J0 : Cond.instantiable RJ0 4 ∈ BIG := big_t (i := 670) (by decide +kernel) (by decide +kernel)
theorem ml_L_7 : Cond.methodLink RL 7 yX8_node ∈ BIG := big_t (i := 675) (by decide +kernel) (by decide +kernel)
theorem cl_X8_88 : Cond.classLink RX8 88 RJx00060 ∈ BIG := big_t (i := 679) (by decide +kernel) (by decide +kernel)
theorem ml_X8_92 : Cond.methodLink RX8 92 yJx00060_init_a7421 ∈ BIG := big_t (i := 681) (by decide +kernel) (by decide +kernel)
theorem ml_X8_95 : Cond.methodLink RX8 95 yX7_at ∈ BIG := big_t (i := 682) (by decide +kernel) (by decide +kernel)
theorem ml_L_66 : Cond.methodLink RL 66 yL_sign ∈ BIG := big_t (i := 683) (by decide +kernel) (by decide +kernel)
theorem cl_L_19 : Cond.classLink RL 19 RJx3273f ∈ BIG := big_t (i := 686) (by decide +kernel) (by decide +kernel)
theorem in_Jx3273f : Cond.instantiable RJx3273f 6 ∈ BIG := big_t (i := 687) (by decide +kernel) (by decide +kernel)
theorem ml_L_15 : Cond.methodLink RL 15 yX8_sign ∈ BIG := big_t (i := 700) (by decide +kernel) (by decide +kernel)
theorem cl_X8_122 : Cond.classLink RX8 122 RJx3273f ∈ BIG := big_t (i := 704) (by decide +kernel) (by decide +kernel)
theorem ml_X8_126 : Cond.methodLink RX8 126 yJx3273f_init_a7421 ∈ BIG := big_t (i := 706) (by decide +kernel) (by decide +kernel)
theorem ml_X8_127 : Cond.methodLink RX8 127 yX0_wordAt ∈ BIG := big_t (i := 707) (by decide +kernel) (by decide +kernel)
theorem ml_X8_131 : Cond.methodLink RX8 131 yX2_signAt ∈ BIG := big_t (i := 708) (by decide +kernel) (by decide +kernel)
theorem ml_L_74 : Cond.methodLink RL 74 yL_out ∈ BIG := big_t (i := 710) (by decide +kernel) (by decide +kernel)
theorem cl_L_25 : Cond.classLink RL 25 RJx5d777 ∈ BIG := big_t (i := 713) (by decide +kernel) (by decide +kernel)
theorem ml_L_21 : Cond.methodLink RL 21 yX8_out ∈ BIG := big_t (i := 739) (by decide +kernel) (by decide +kernel)
theorem ml_X8_146 : Cond.methodLink RX8 146 yX5_isWritten ∈ BIG := big_t (i := 743) (by decide +kernel) (by decide +kernel)
theorem cl_X8_149 : Cond.classLink RX8 149 RJx5d777 ∈ BIG := big_t (i := 747) (by decide +kernel) (by decide +kernel)
theorem ml_X8_153 : Cond.methodLink RX8 153 yJx5d777_init_a7421 ∈ BIG := big_t (i := 749) (by decide +kernel) (by decide +kernel)
theorem ml_X8_154 : Cond.methodLink RX8 154 yX5_byteAt ∈ BIG := big_t (i := 753) (by decide +kernel) (by decide +kernel)
theorem ml_L_95 : Cond.methodLink RL 95 yL_ratio ∈ BIG := big_t (i := 758) (by decide +kernel) (by decide +kernel)
theorem cl_L_31 : Cond.classLink RL 31 "java/lang/ArithmeticException" ∈ BIG := big_t (i := 761) (by decide +kernel) (by decide +kernel)
theorem ml_L_27 : Cond.methodLink RL 27 yX8_ratio ∈ BIG := big_t (i := 775) (by decide +kernel) (by decide +kernel)
theorem kl_X8_198 : Cond.constantLong RX8 198 (-104) ∈ BIG := big_t (i := 779) (by decide +kernel) (by decide +kernel)
theorem cl_X8_200 : Cond.classLink RX8 200 "java/lang/ArithmeticException" ∈ BIG := big_t (i := 780) (by decide +kernel) (by decide +kernel)
theorem ml_X8_204 : Cond.methodLink RX8 204 ⟨"java/lang/ArithmeticException", "<init>", "(Ljava/lang/String;)V"⟩ ∈ BIG := big_t (i := 782) (by decide +kernel) (by decide +kernel)
theorem ml_X8_205 : Cond.methodLink RX8 205 yJ9_floorDiv_f86c9 ∈ BIG := big_t (i := 783) (by decide +kernel) (by decide +kernel)
theorem ml_L_63 : Cond.methodLink RL 63 yX9_thrown ∈ BIG := big_t (i := 786) (by decide +kernel) (by decide +kernel)
theorem cl_L_34 : Cond.classLink RL 34 RX9 ∈ BIG := big_t (i := 790) (by decide +kernel) (by decide +kernel)
theorem in_X9 : Cond.instantiable RX9 39 ∈ BIG := big_t (i := 791) (by decide +kernel) (by decide +kernel)
theorem ml_L_36 : Cond.methodLink RL 36 yX9_init ∈ BIG := big_t (i := 792) (by decide +kernel) (by decide +kernel)
theorem ml_X9_7 : Cond.methodLink RX9 7 ⟨"java/lang/Object", "<init>", "()V"⟩ ∈ BIG := big_t (i := 795) (by decide +kernel) (by decide +kernel)
theorem ml_L_43 : Cond.methodLink RL 43 yX9_feed ∈ BIG := big_t (i := 915) (by decide +kernel) (by decide +kernel)
theorem kl_X9_115 : Cond.constantLong RX9 115 (8) ∈ BIG := big_t (i := 919) (by decide +kernel) (by decide +kernel)
theorem ml_X9_117 : Cond.methodLink RX9 117 yX9_in ∈ BIG := big_t (i := 920) (by decide +kernel) (by decide +kernel)
theorem ml_L_48 : Cond.methodLink RL 48 yX9_read ∈ BIG := big_t (i := 923) (by decide +kernel) (by decide +kernel)
theorem ml_X9_184 : Cond.methodLink RX9 184 yX9_goAlong ∈ BIG := big_t (i := 927) (by decide +kernel) (by decide +kernel)
theorem ml_X9_173 : Cond.methodLink RX9 173 yX9_newNode ∈ BIG := big_t (i := 931) (by decide +kernel) (by decide +kernel)
theorem ml_X9_134 : Cond.methodLink RX9 134 yX9_here ∈ BIG := big_t (i := 935) (by decide +kernel) (by decide +kernel)
theorem ml_X9_150 : Cond.methodLink RX9 150 yX9_figure ∈ BIG := big_t (i := 939) (by decide +kernel) (by decide +kernel)
theorem ml_X9_146 : Cond.methodLink RX9 146 yX9_isFigure ∈ BIG := big_t (i := 943) (by decide +kernel) (by decide +kernel)
theorem ml_X9_142 : Cond.methodLink RX9 142 yX9_fails ∈ BIG := big_t (i := 946) (by decide +kernel) (by decide +kernel)
theorem ml_X9_170 : Cond.methodLink RX9 170 yX9_ends ∈ BIG := big_t (i := 950) (by decide +kernel) (by decide +kernel)
theorem ml_X9_138 : Cond.methodLink RX9 138 yX9_isLetter ∈ BIG := big_t (i := 954) (by decide +kernel) (by decide +kernel)
theorem ml_X9_177 : Cond.methodLink RX9 177 yX9_marks ∈ BIG := big_t (i := 957) (by decide +kernel) (by decide +kernel)
theorem kl_X9_157 : Cond.constantLong RX9 157 (97) ∈ BIG := big_t (i := 961) (by decide +kernel) (by decide +kernel)
theorem kl_X9_159 : Cond.constantLong RX9 159 (100) ∈ BIG := big_t (i := 962) (by decide +kernel) (by decide +kernel)
theorem ml_X9_181 : Cond.methodLink RX9 181 yX9_core ∈ BIG := big_t (i := 963) (by decide +kernel) (by decide +kernel)
theorem ml_X9_161 : Cond.methodLink RX9 161 yX9_word ∈ BIG := big_t (i := 967) (by decide +kernel) (by decide +kernel)
theorem ml_X9_164 : Cond.methodLink RX9 164 yX9_quote ∈ BIG := big_t (i := 971) (by decide +kernel) (by decide +kernel)
theorem ml_X9_154 : Cond.methodLink RX9 154 yX9_letters ∈ BIG := big_t (i := 975) (by decide +kernel) (by decide +kernel)
theorem ml_X9_167 : Cond.methodLink RX9 167 yX9_span ∈ BIG := big_t (i := 979) (by decide +kernel) (by decide +kernel)
theorem ml_X9_187 : Cond.methodLink RX9 187 yX9_become ∈ BIG := big_t (i := 983) (by decide +kernel) (by decide +kernel)
theorem ml_L_52 : Cond.methodLink RL 52 yX9_lenient ∈ BIG := big_t (i := 987) (by decide +kernel) (by decide +kernel)
theorem ml_L_56 : Cond.methodLink RL 56 yX9_dropped ∈ BIG := big_t (i := 991) (by decide +kernel) (by decide +kernel)
theorem ml_L_62 : Cond.methodLink RL 62 yX9_node ∈ BIG := big_t (i := 995) (by decide +kernel) (by decide +kernel)
theorem ml_X9_193 : Cond.methodLink RX9 193 yX9_isNode ∈ BIG := big_t (i := 999) (by decide +kernel) (by decide +kernel)
theorem ml_L_69 : Cond.methodLink RL 69 yX9_sign ∈ BIG := big_t (i := 1003) (by decide +kernel) (by decide +kernel)
theorem ml_L_73 : Cond.methodLink RL 73 yX9_print ∈ BIG := big_t (i := 1007) (by decide +kernel) (by decide +kernel)
theorem ml_X9_206 : Cond.methodLink RX9 206 yX9_closes ∈ BIG := big_t (i := 1011) (by decide +kernel) (by decide +kernel)
theorem ml_X9_196 : Cond.methodLink RX9 196 yX9_put ∈ BIG := big_t (i := 1015) (by decide +kernel) (by decide +kernel)
theorem ml_X9_203 : Cond.methodLink RX9 203 yX9_putBoost ∈ BIG := big_t (i := 1019) (by decide +kernel) (by decide +kernel)
theorem ml_X9_209 : Cond.methodLink RX9 209 yX9_putCore ∈ BIG := big_t (i := 1023) (by decide +kernel) (by decide +kernel)
theorem ml_X9_199 : Cond.methodLink RX9 199 yX9_putWord ∈ BIG := big_t (i := 1027) (by decide +kernel) (by decide +kernel)
theorem ml_L_77 : Cond.methodLink RL 77 yX9_out ∈ BIG := big_t (i := 1031) (by decide +kernel) (by decide +kernel)
theorem ml_L_82 : Cond.methodLink RL 82 yX9_word_ ∈ BIG := big_t (i := 1035) (by decide +kernel) (by decide +kernel)
theorem ml_X9_214 : Cond.methodLink RX9 214 yX9_isDocument ∈ BIG := big_t (i := 1039) (by decide +kernel) (by decide +kernel)
theorem kl_X9_212 : Cond.constantLong RX9 212 (7) ∈ BIG := big_t (i := 1042) (by decide +kernel) (by decide +kernel)
theorem kl_X9_217 : Cond.constantLong RX9 217 (3) ∈ BIG := big_t (i := 1043) (by decide +kernel) (by decide +kernel)
theorem ml_L_86 : Cond.methodLink RL 86 yX9_clear ∈ BIG := big_t (i := 1044) (by decide +kernel) (by decide +kernel)
theorem ml_L_90 : Cond.methodLink RL 90 yX9_fits ∈ BIG := big_t (i := 1048) (by decide +kernel) (by decide +kernel)
theorem ml_X9_245 : Cond.methodLink RX9 245 yX9_reckon ∈ BIG := big_t (i := 1052) (by decide +kernel) (by decide +kernel)
theorem ml_X9_239 : Cond.methodLink RX9 239 yX9_reckonGroup ∈ BIG := big_t (i := 1056) (by decide +kernel) (by decide +kernel)
theorem ml_X9_242 : Cond.methodLink RX9 242 yX9_countOf ∈ BIG := big_t (i := 1060) (by decide +kernel) (by decide +kernel)
theorem ml_X9_233 : Cond.methodLink RX9 233 yX9_quoteAt ∈ BIG := big_t (i := 1064) (by decide +kernel) (by decide +kernel)
theorem ml_X9_223 : Cond.methodLink RX9 223 yX9_against ∈ BIG := big_t (i := 1068) (by decide +kernel) (by decide +kernel)
theorem ml_X9_236 : Cond.methodLink RX9 236 yX9_fitsWord ∈ BIG := big_t (i := 1072) (by decide +kernel) (by decide +kernel)
theorem ml_X9_227 : Cond.methodLink RX9 227 yX9_changes ∈ BIG := big_t (i := 1076) (by decide +kernel) (by decide +kernel)
theorem ml_X9_219 : Cond.methodLink RX9 219 yX9_least ∈ BIG := big_t (i := 1080) (by decide +kernel) (by decide +kernel)
theorem ml_X9_230 : Cond.methodLink RX9 230 yX9_fitsSigns ∈ BIG := big_t (i := 1083) (by decide +kernel) (by decide +kernel)
theorem ml_L_94 : Cond.methodLink RL 94 yX9_worth ∈ BIG := big_t (i := 1087) (by decide +kernel) (by decide +kernel)
theorem kl_X9_248 : Cond.constantLong RX9 248 (-101) ∈ BIG := big_t (i := 1091) (by decide +kernel) (by decide +kernel)
theorem ml_L_97 : Cond.methodLink RL 97 yX9_ratio ∈ BIG := big_t (i := 1092) (by decide +kernel) (by decide +kernel)
theorem kl_X9_250 : Cond.constantLong RX9 250 (-104) ∈ BIG := big_t (i := 1096) (by decide +kernel) (by decide +kernel)
theorem ml_L_101 : Cond.methodLink RL 101 yX9_why ∈ BIG := big_t (i := 1097) (by decide +kernel) (by decide +kernel)
theorem ml_L_105 : Cond.methodLink RL 105 yX9_rank ∈ BIG := big_t (i := 1101) (by decide +kernel) (by decide +kernel)
theorem kl_L_37 : Cond.constantLong RL 37 (4294967295) ∈ BIG := big_t (i := 1105) (by decide +kernel) (by decide +kernel)
end
section
theorem dX0_init_0 : decode cX0_init 0 = .ok (.aload_n 0, 1) := by decide +kernel
theorem dX0_init_1 : decode cX0_init 1 = .ok (.invokespecial 3, 3) := by decide +kernel
theorem dX0_init_4 : decode cX0_init 4 = .ok (.aload_n 0, 1) := by decide +kernel
theorem dX0_init_5 : decode cX0_init 5 = .ok (.iconst 0, 1) := by decide +kernel
theorem dX0_init_6 : decode cX0_init 6 = .ok (.putfield 9, 3) := by decide +kernel
theorem dX0_init_9 : decode cX0_init 9 = .ok (.aload_n 0, 1) := by decide +kernel
theorem dX0_init_10 : decode cX0_init 10 = .ok (.iconst 0, 1) := by decide +kernel
theorem dX0_init_11 : decode cX0_init 11 = .ok (.putfield 15, 3) := by decide +kernel
theorem dX0_init_14 : decode cX0_init 14 = .ok (.aload_n 0, 1) := by decide +kernel
theorem dX0_init_15 : decode cX0_init 15 = .ok (.iconst 1, 1) := by decide +kernel
theorem dX0_init_16 : decode cX0_init 16 = .ok (.putfield 18, 3) := by decide +kernel
theorem dX0_init_19 : decode cX0_init 19 = .ok (.aload_n 0, 1) := by decide +kernel
theorem dX0_init_20 : decode cX0_init 20 = .ok (.iconst (-1), 1) := by decide +kernel
theorem dX0_init_21 : decode cX0_init 21 = .ok (.putfield 21, 3) := by decide +kernel
theorem dX0_init_24 : decode cX0_init 24 = .ok (.aload_n 0, 1) := by decide +kernel
theorem dX0_init_25 : decode cX0_init 25 = .ok (.iconst 0, 1) := by decide +kernel
theorem dX0_init_26 : decode cX0_init 26 = .ok (.putfield 24, 3) := by decide +kernel
theorem dX0_init_29 : decode cX0_init 29 = .ok (.aload_n 0, 1) := by decide +kernel
theorem dX0_init_30 : decode cX0_init 30 = .ok (.iconst 0, 1) := by decide +kernel
theorem dX0_init_31 : decode cX0_init 31 = .ok (.putfield 27, 3) := by decide +kernel
theorem dX0_init_34 : decode cX0_init 34 = .ok (.aload_n 0, 1) := by decide +kernel
theorem dX0_init_35 : decode cX0_init 35 = .ok (.iconst (-1), 1) := by decide +kernel
theorem dX0_init_36 : decode cX0_init 36 = .ok (.putfield 30, 3) := by decide +kernel
theorem dX0_init_39 : decode cX0_init 39 = .ok (.aload_n 0, 1) := by decide +kernel
theorem dX0_init_40 : decode cX0_init 40 = .ok (.iconst 5, 1) := by decide +kernel
theorem dX0_init_41 : decode cX0_init 41 = .ok (.newarray .long, 2) := by decide +kernel
theorem dX0_init_43 : decode cX0_init 43 = .ok (.putfield 33, 3) := by decide +kernel
theorem dX0_init_46 : decode cX0_init 46 = .ok (.return_, 1) := by decide +kernel
theorem dX0_start_0 : decode cX0_start 0 = .ok (.aload_n 0, 1) := by decide +kernel
theorem dX0_start_1 : decode cX0_start 1 = .ok (.iconst 0, 1) := by decide +kernel
theorem dX0_start_2 : decode cX0_start 2 = .ok (.putfield 9, 3) := by decide +kernel
theorem dX0_start_5 : decode cX0_start 5 = .ok (.aload_n 0, 1) := by decide +kernel
theorem dX0_start_6 : decode cX0_start 6 = .ok (.iload_n 1, 1) := by decide +kernel
theorem dX0_start_7 : decode cX0_start 7 = .ok (.putfield 15, 3) := by decide +kernel
theorem dX0_start_10 : decode cX0_start 10 = .ok (.aload_n 0, 1) := by decide +kernel
theorem dX0_start_11 : decode cX0_start 11 = .ok (.iconst 1, 1) := by decide +kernel
theorem dX0_start_12 : decode cX0_start 12 = .ok (.putfield 18, 3) := by decide +kernel
theorem dX0_start_15 : decode cX0_start 15 = .ok (.aload_n 0, 1) := by decide +kernel
theorem dX0_start_16 : decode cX0_start 16 = .ok (.iconst (-1), 1) := by decide +kernel
theorem dX0_start_17 : decode cX0_start 17 = .ok (.putfield 21, 3) := by decide +kernel
theorem dX0_start_20 : decode cX0_start 20 = .ok (.aload_n 0, 1) := by decide +kernel
theorem dX0_start_21 : decode cX0_start 21 = .ok (.iconst 0, 1) := by decide +kernel
theorem dX0_start_22 : decode cX0_start 22 = .ok (.putfield 24, 3) := by decide +kernel
theorem dX0_start_25 : decode cX0_start 25 = .ok (.aload_n 0, 1) := by decide +kernel
theorem dX0_start_26 : decode cX0_start 26 = .ok (.iconst 0, 1) := by decide +kernel
theorem dX0_start_27 : decode cX0_start 27 = .ok (.putfield 27, 3) := by decide +kernel
theorem dX0_start_30 : decode cX0_start 30 = .ok (.aload_n 0, 1) := by decide +kernel
theorem dX0_start_31 : decode cX0_start 31 = .ok (.iload_n 2, 1) := by decide +kernel
theorem dX0_start_32 : decode cX0_start 32 = .ok (.putfield 30, 3) := by decide +kernel
theorem dX0_start_35 : decode cX0_start 35 = .ok (.aload_n 0, 1) := by decide +kernel
theorem dX0_start_36 : decode cX0_start 36 = .ok (.getfield 33, 3) := by decide +kernel
theorem dX0_start_39 : decode cX0_start 39 = .ok (.lconst 0, 1) := by decide +kernel
theorem dX0_start_40 : decode cX0_start 40 = .ok (.invokestatic 37, 3) := by decide +kernel
theorem dX0_start_43 : decode cX0_start 43 = .ok (.return_, 1) := by decide +kernel
theorem dX0_addSign_0 : decode cX0_addSign 0 = .ok (.iload_n 1, 1) := by decide +kernel
theorem dX0_addSign_1 : decode cX0_addSign 1 = .ok (.ifCond .lt 57, 3) := by decide +kernel
theorem dX0_addSign_4 : decode cX0_addSign 4 = .ok (.iload_n 1, 1) := by decide +kernel
theorem dX0_addSign_5 : decode cX0_addSign 5 = .ok (.iconst 5, 1) := by decide +kernel
theorem dX0_addSign_6 : decode cX0_addSign 6 = .ok (.if_icmp .ge 52, 3) := by decide +kernel
theorem dX0_addSign_9 : decode cX0_addSign 9 = .ok (.iload_n 2, 1) := by decide +kernel
theorem dX0_addSign_10 : decode cX0_addSign 10 = .ok (.ifCond .lt 48, 3) := by decide +kernel
theorem dX0_addSign_13 : decode cX0_addSign 13 = .ok (.iload_n 2, 1) := by decide +kernel
theorem dX0_addSign_14 : decode cX0_addSign 14 = .ok (.bipush 8, 2) := by decide +kernel
theorem dX0_addSign_16 : decode cX0_addSign 16 = .ok (.if_icmp .ge 42, 3) := by decide +kernel
theorem dX0_addSign_19 : decode cX0_addSign 19 = .ok (.aload_n 0, 1) := by decide +kernel
theorem dX0_addSign_20 : decode cX0_addSign 20 = .ok (.getfield 33, 3) := by decide +kernel
theorem dX0_addSign_23 : decode cX0_addSign 23 = .ok (.iload_n 1, 1) := by decide +kernel
theorem dX0_addSign_24 : decode cX0_addSign 24 = .ok (.dup2, 1) := by decide +kernel
theorem dX0_addSign_25 : decode cX0_addSign 25 = .ok (.laload, 1) := by decide +kernel
theorem dX0_addSign_26 : decode cX0_addSign 26 = .ok (.iload_n 3, 1) := by decide +kernel
theorem dX0_addSign_27 : decode cX0_addSign 27 = .ok (.i2l, 1) := by decide +kernel
theorem dX0_addSign_28 : decode cX0_addSign 28 = .ok (.bipush 56, 2) := by decide +kernel
theorem dX0_addSign_30 : decode cX0_addSign 30 = .ok (.bipush 8, 2) := by decide +kernel
theorem dX0_addSign_32 : decode cX0_addSign 32 = .ok (.iload_n 2, 1) := by decide +kernel
theorem dX0_addSign_33 : decode cX0_addSign 33 = .ok (.imul, 1) := by decide +kernel
theorem dX0_addSign_34 : decode cX0_addSign 34 = .ok (.isub, 1) := by decide +kernel
theorem dX0_addSign_35 : decode cX0_addSign 35 = .ok (.lshl, 1) := by decide +kernel
theorem dX0_addSign_36 : decode cX0_addSign 36 = .ok (.lor, 1) := by decide +kernel
theorem dX0_addSign_37 : decode cX0_addSign 37 = .ok (.lastore, 1) := by decide +kernel
theorem dX0_addSign_38 : decode cX0_addSign 38 = .ok (.aload_n 0, 1) := by decide +kernel
theorem dX0_addSign_39 : decode cX0_addSign 39 = .ok (.aload_n 0, 1) := by decide +kernel
theorem dX0_addSign_40 : decode cX0_addSign 40 = .ok (.getfield 9, 3) := by decide +kernel
theorem dX0_addSign_43 : decode cX0_addSign 43 = .ok (.ifCond .ne 9, 3) := by decide +kernel
theorem dX0_addSign_46 : decode cX0_addSign 46 = .ok (.iload_n 2, 1) := by decide +kernel
theorem dX0_addSign_47 : decode cX0_addSign 47 = .ok (.iconst 1, 1) := by decide +kernel
theorem dX0_addSign_48 : decode cX0_addSign 48 = .ok (.iadd, 1) := by decide +kernel
theorem dX0_addSign_49 : decode cX0_addSign 49 = .ok (.goto 6, 3) := by decide +kernel
theorem dX0_addSign_52 : decode cX0_addSign 52 = .ok (.iload_n 1, 1) := by decide +kernel
theorem dX0_addSign_53 : decode cX0_addSign 53 = .ok (.iconst 1, 1) := by decide +kernel
theorem dX0_addSign_54 : decode cX0_addSign 54 = .ok (.iadd, 1) := by decide +kernel
theorem dX0_addSign_55 : decode cX0_addSign 55 = .ok (.putfield 27, 3) := by decide +kernel
theorem dX0_addSign_58 : decode cX0_addSign 58 = .ok (.return_, 1) := by decide +kernel
theorem dX0_wordAt_0 : decode cX0_wordAt 0 = .ok (.iload_n 1, 1) := by decide +kernel
theorem dX0_wordAt_1 : decode cX0_wordAt 1 = .ok (.ifCond .lt 17, 3) := by decide +kernel
theorem dX0_wordAt_4 : decode cX0_wordAt 4 = .ok (.iload_n 1, 1) := by decide +kernel
theorem dX0_wordAt_5 : decode cX0_wordAt 5 = .ok (.iconst 5, 1) := by decide +kernel
theorem dX0_wordAt_6 : decode cX0_wordAt 6 = .ok (.if_icmp .ge 12, 3) := by decide +kernel
theorem dX0_wordAt_9 : decode cX0_wordAt 9 = .ok (.aload_n 0, 1) := by decide +kernel
theorem dX0_wordAt_10 : decode cX0_wordAt 10 = .ok (.getfield 33, 3) := by decide +kernel
theorem dX0_wordAt_13 : decode cX0_wordAt 13 = .ok (.iload_n 1, 1) := by decide +kernel
theorem dX0_wordAt_14 : decode cX0_wordAt 14 = .ok (.laload, 1) := by decide +kernel
theorem dX0_wordAt_15 : decode cX0_wordAt 15 = .ok (.goto 4, 3) := by decide +kernel
theorem dX0_wordAt_18 : decode cX0_wordAt 18 = .ok (.lconst 0, 1) := by decide +kernel
theorem dX0_wordAt_19 : decode cX0_wordAt 19 = .ok (.lreturn, 1) := by decide +kernel
theorem dX0_turnToField_0 : decode cX0_turnToField 0 = .ok (.aload_n 0, 1) := by decide +kernel
theorem dX0_turnToField_1 : decode cX0_turnToField 1 = .ok (.aload_n 0, 1) := by decide +kernel
theorem dX0_turnToField_2 : decode cX0_turnToField 2 = .ok (.getfield 33, 3) := by decide +kernel
theorem dX0_turnToField_5 : decode cX0_turnToField 5 = .ok (.iconst 0, 1) := by decide +kernel
theorem dX0_turnToField_6 : decode cX0_turnToField 6 = .ok (.laload, 1) := by decide +kernel
theorem dX0_turnToField_7 : decode cX0_turnToField 7 = .ok (.iconst 0, 1) := by decide +kernel
theorem dX0_turnToField_8 : decode cX0_turnToField 8 = .ok (.invokestatic 43, 3) := by decide +kernel
theorem dX0_turnToField_11 : decode cX0_turnToField 11 = .ok (.bipush 97, 2) := by decide +kernel
theorem dX0_turnToField_13 : decode cX0_turnToField 13 = .ok (.isub, 1) := by decide +kernel
theorem dX0_turnToField_14 : decode cX0_turnToField 14 = .ok (.putfield 21, 3) := by decide +kernel
theorem dX0_turnToField_17 : decode cX0_turnToField 17 = .ok (.aload_n 0, 1) := by decide +kernel
theorem dX0_turnToField_18 : decode cX0_turnToField 18 = .ok (.getfield 33, 3) := by decide +kernel
theorem dX0_turnToField_21 : decode cX0_turnToField 21 = .ok (.iconst 0, 1) := by decide +kernel
theorem dX0_turnToField_22 : decode cX0_turnToField 22 = .ok (.lconst 0, 1) := by decide +kernel
theorem dX0_turnToField_23 : decode cX0_turnToField 23 = .ok (.lastore, 1) := by decide +kernel
theorem dX0_turnToField_24 : decode cX0_turnToField 24 = .ok (.aload_n 0, 1) := by decide +kernel
theorem dX0_turnToField_25 : decode cX0_turnToField 25 = .ok (.iconst 0, 1) := by decide +kernel
theorem dX0_turnToField_26 : decode cX0_turnToField 26 = .ok (.putfield 27, 3) := by decide +kernel
theorem dX0_turnToField_29 : decode cX0_turnToField 29 = .ok (.return_, 1) := by decide +kernel
theorem dX1_init_0 : decode cX1_init 0 = .ok (.aload_n 0, 1) := by decide +kernel
theorem dX1_init_1 : decode cX1_init 1 = .ok (.invokespecial 3, 3) := by decide +kernel
theorem dX1_init_4 : decode cX1_init 4 = .ok (.aload_n 0, 1) := by decide +kernel
theorem dX1_init_5 : decode cX1_init 5 = .ok (.new 9, 3) := by decide +kernel
theorem dX1_init_8 : decode cX1_init 8 = .ok (.dup, 1) := by decide +kernel
theorem dX1_init_9 : decode cX1_init 9 = .ok (.invokespecial 11, 3) := by decide +kernel
theorem dX1_init_12 : decode cX1_init 12 = .ok (.putfield 12, 3) := by decide +kernel
theorem dX1_init_15 : decode cX1_init 15 = .ok (.aload_n 0, 1) := by decide +kernel
theorem dX1_init_16 : decode cX1_init 16 = .ok (.new 18, 3) := by decide +kernel
theorem dX1_init_19 : decode cX1_init 19 = .ok (.dup, 1) := by decide +kernel
theorem dX1_init_20 : decode cX1_init 20 = .ok (.invokespecial 20, 3) := by decide +kernel
theorem dX1_init_23 : decode cX1_init 23 = .ok (.putfield 21, 3) := by decide +kernel
theorem dX1_init_26 : decode cX1_init 26 = .ok (.aload_n 0, 1) := by decide +kernel
theorem dX1_init_27 : decode cX1_init 27 = .ok (.bipush 25, 2) := by decide +kernel
theorem dX1_init_29 : decode cX1_init 29 = .ok (.newarray .long, 2) := by decide +kernel
theorem dX1_init_31 : decode cX1_init 31 = .ok (.putfield 25, 3) := by decide +kernel
theorem dX1_init_34 : decode cX1_init 34 = .ok (.return_, 1) := by decide +kernel
theorem dX1_weigh_0 : decode cX1_weigh 0 = .ok (.aload_n 1, 1) := by decide +kernel
theorem dX1_weigh_1 : decode cX1_weigh 1 = .ok (.getfield 29, 3) := by decide +kernel
theorem dX1_weigh_4 : decode cX1_weigh 4 = .ok (.iconst 1, 1) := by decide +kernel
theorem dX1_weigh_5 : decode cX1_weigh 5 = .ok (.isub, 1) := by decide +kernel
theorem dX1_weigh_6 : decode cX1_weigh 6 = .ok (.istore 4, 2) := by decide +kernel
theorem dX1_weigh_8 : decode cX1_weigh 8 = .ok (.iload 4, 2) := by decide +kernel
theorem dX1_weigh_10 : decode cX1_weigh 10 = .ok (.iload_n 2, 1) := by decide +kernel
theorem dX1_weigh_11 : decode cX1_weigh 11 = .ok (.if_icmp .lt 90, 3) := by decide +kernel
theorem dX1_weigh_14 : decode cX1_weigh 14 = .ok (.iload 4, 2) := by decide +kernel
theorem dX1_weigh_16 : decode cX1_weigh 16 = .ok (.ifCond .lt 85, 3) := by decide +kernel
theorem dX1_weigh_19 : decode cX1_weigh 19 = .ok (.aload_n 1, 1) := by decide +kernel
theorem dX1_weigh_20 : decode cX1_weigh 20 = .ok (.iload 4, 2) := by decide +kernel
theorem dX1_weigh_22 : decode cX1_weigh 22 = .ok (.invokevirtual 35, 3) := by decide +kernel
theorem dX1_weigh_25 : decode cX1_weigh 25 = .ok (.astore 5, 2) := by decide +kernel
theorem dX1_weigh_27 : decode cX1_weigh 27 = .ok (.aload 5, 2) := by decide +kernel
theorem dX1_weigh_29 : decode cX1_weigh 29 = .ok (.getfield 39, 3) := by decide +kernel
theorem dX1_weigh_32 : decode cX1_weigh 32 = .ok (.iconst 3, 1) := by decide +kernel
theorem dX1_weigh_33 : decode cX1_weigh 33 = .ok (.if_icmp .ne 19, 3) := by decide +kernel
theorem dX1_weigh_36 : decode cX1_weigh 36 = .ok (.aload_n 0, 1) := by decide +kernel
theorem dX1_weigh_37 : decode cX1_weigh 37 = .ok (.iload 4, 2) := by decide +kernel
theorem dX1_weigh_39 : decode cX1_weigh 39 = .ok (.aload_n 0, 1) := by decide +kernel
theorem dX1_weigh_40 : decode cX1_weigh 40 = .ok (.aload_n 1, 1) := by decide +kernel
theorem dX1_weigh_41 : decode cX1_weigh 41 = .ok (.iload 4, 2) := by decide +kernel
theorem dX1_weigh_43 : decode cX1_weigh 43 = .ok (.invokevirtual 44, 3) := by decide +kernel
theorem dX1_weigh_46 : decode cX1_weigh 46 = .ok (.invokevirtual 48, 3) := by decide +kernel
theorem dX1_weigh_49 : decode cX1_weigh 49 = .ok (.goto 46, 3) := by decide +kernel
theorem dX1_weigh_52 : decode cX1_weigh 52 = .ok (.aload_n 0, 1) := by decide +kernel
theorem dX1_weigh_53 : decode cX1_weigh 53 = .ok (.aload 5, 2) := by decide +kernel
theorem dX1_weigh_55 : decode cX1_weigh 55 = .ok (.aload_n 1, 1) := by decide +kernel
theorem dX1_weigh_56 : decode cX1_weigh 56 = .ok (.iload 4, 2) := by decide +kernel
theorem dX1_weigh_58 : decode cX1_weigh 58 = .ok (.invokevirtual 52, 3) := by decide +kernel
theorem dX1_weigh_61 : decode cX1_weigh 61 = .ok (.iload_n 3, 1) := by decide +kernel
theorem dX1_weigh_62 : decode cX1_weigh 62 = .ok (.invokevirtual 56, 3) := by decide +kernel
theorem dX1_weigh_65 : decode cX1_weigh 65 = .ok (.lstore 6, 2) := by decide +kernel
theorem dX1_weigh_67 : decode cX1_weigh 67 = .ok (.aload_n 0, 1) := by decide +kernel
theorem dX1_weigh_68 : decode cX1_weigh 68 = .ok (.iload 4, 2) := by decide +kernel
theorem dX1_weigh_70 : decode cX1_weigh 70 = .ok (.lload 6, 2) := by decide +kernel
theorem dX1_weigh_72 : decode cX1_weigh 72 = .ok (.lconst 0, 1) := by decide +kernel
theorem dX1_weigh_73 : decode cX1_weigh 73 = .ok (.lcmp, 1) := by decide +kernel
theorem dX1_weigh_74 : decode cX1_weigh 74 = .ok (.ifCond .ne 9, 3) := by decide +kernel
theorem dX1_weigh_77 : decode cX1_weigh 77 = .ok (.ldc2_w 60, 3) := by decide +kernel
theorem dX1_weigh_80 : decode cX1_weigh 80 = .ok (.goto 12, 3) := by decide +kernel
theorem dX1_weigh_83 : decode cX1_weigh 83 = .ok (.aload 5, 2) := by decide +kernel
theorem dX1_weigh_85 : decode cX1_weigh 85 = .ok (.getfield 62, 3) := by decide +kernel
theorem dX1_weigh_88 : decode cX1_weigh 88 = .ok (.i2l, 1) := by decide +kernel
theorem dX1_weigh_89 : decode cX1_weigh 89 = .ok (.lload 6, 2) := by decide +kernel
theorem dX1_weigh_91 : decode cX1_weigh 91 = .ok (.lmul, 1) := by decide +kernel
theorem dX1_weigh_92 : decode cX1_weigh 92 = .ok (.invokevirtual 48, 3) := by decide +kernel
theorem dX1_weigh_95 : decode cX1_weigh 95 = .ok (.iinc 4 (-1), 3) := by decide +kernel
theorem dX1_weigh_98 : decode cX1_weigh 98 = .ok (.goto (-90), 3) := by decide +kernel
theorem dX1_weigh_101 : decode cX1_weigh 101 = .ok (.aload_n 0, 1) := by decide +kernel
theorem dX1_weigh_102 : decode cX1_weigh 102 = .ok (.iload_n 2, 1) := by decide +kernel
theorem dX1_weigh_103 : decode cX1_weigh 103 = .ok (.invokevirtual 65, 3) := by decide +kernel
theorem dX1_weigh_106 : decode cX1_weigh 106 = .ok (.lreturn, 1) := by decide +kernel
theorem dX1_setValue_0 : decode cX1_setValue 0 = .ok (.iload_n 1, 1) := by decide +kernel
theorem dX1_setValue_1 : decode cX1_setValue 1 = .ok (.ifCond .lt 19, 3) := by decide +kernel
theorem dX1_setValue_4 : decode cX1_setValue 4 = .ok (.iload_n 1, 1) := by decide +kernel
theorem dX1_setValue_5 : decode cX1_setValue 5 = .ok (.aload_n 0, 1) := by decide +kernel
theorem dX1_setValue_6 : decode cX1_setValue 6 = .ok (.getfield 25, 3) := by decide +kernel
theorem dX1_setValue_9 : decode cX1_setValue 9 = .ok (.arraylength, 1) := by decide +kernel
theorem dX1_setValue_10 : decode cX1_setValue 10 = .ok (.if_icmp .ge 10, 3) := by decide +kernel
theorem dX1_setValue_13 : decode cX1_setValue 13 = .ok (.aload_n 0, 1) := by decide +kernel
theorem dX1_setValue_14 : decode cX1_setValue 14 = .ok (.getfield 25, 3) := by decide +kernel
theorem dX1_setValue_17 : decode cX1_setValue 17 = .ok (.iload_n 1, 1) := by decide +kernel
theorem dX1_setValue_18 : decode cX1_setValue 18 = .ok (.lload_n 2, 1) := by decide +kernel
theorem dX1_setValue_19 : decode cX1_setValue 19 = .ok (.lastore, 1) := by decide +kernel
theorem dX1_setValue_20 : decode cX1_setValue 20 = .ok (.return_, 1) := by decide +kernel
theorem dX1_valueAt_0 : decode cX1_valueAt 0 = .ok (.iload_n 1, 1) := by decide +kernel
theorem dX1_valueAt_1 : decode cX1_valueAt 1 = .ok (.ifCond .lt 21, 3) := by decide +kernel
theorem dX1_valueAt_4 : decode cX1_valueAt 4 = .ok (.iload_n 1, 1) := by decide +kernel
theorem dX1_valueAt_5 : decode cX1_valueAt 5 = .ok (.aload_n 0, 1) := by decide +kernel
theorem dX1_valueAt_6 : decode cX1_valueAt 6 = .ok (.getfield 25, 3) := by decide +kernel
theorem dX1_valueAt_9 : decode cX1_valueAt 9 = .ok (.arraylength, 1) := by decide +kernel
theorem dX1_valueAt_10 : decode cX1_valueAt 10 = .ok (.if_icmp .ge 12, 3) := by decide +kernel
theorem dX1_valueAt_13 : decode cX1_valueAt 13 = .ok (.aload_n 0, 1) := by decide +kernel
theorem dX1_valueAt_14 : decode cX1_valueAt 14 = .ok (.getfield 25, 3) := by decide +kernel
theorem dX1_valueAt_17 : decode cX1_valueAt 17 = .ok (.iload_n 1, 1) := by decide +kernel
theorem dX1_valueAt_18 : decode cX1_valueAt 18 = .ok (.laload, 1) := by decide +kernel
theorem dX1_valueAt_19 : decode cX1_valueAt 19 = .ok (.goto 6, 3) := by decide +kernel
theorem dX1_valueAt_22 : decode cX1_valueAt 22 = .ok (.ldc2_w 60, 3) := by decide +kernel
theorem dX1_valueAt_25 : decode cX1_valueAt 25 = .ok (.lreturn, 1) := by decide +kernel
theorem dX1_groupValue_0 : decode cX1_groupValue 0 = .ok (.lconst 0, 1) := by decide +kernel
theorem dX1_groupValue_1 : decode cX1_groupValue 1 = .ok (.lstore_n 3, 1) := by decide +kernel
theorem dX1_groupValue_2 : decode cX1_groupValue 2 = .ok (.iconst 0, 1) := by decide +kernel
theorem dX1_groupValue_3 : decode cX1_groupValue 3 = .ok (.istore 5, 2) := by decide +kernel
theorem dX1_groupValue_5 : decode cX1_groupValue 5 = .ok (.iconst 0, 1) := by decide +kernel
theorem dX1_groupValue_6 : decode cX1_groupValue 6 = .ok (.istore 6, 2) := by decide +kernel
theorem dX1_groupValue_8 : decode cX1_groupValue 8 = .ok (.iconst 0, 1) := by decide +kernel
theorem dX1_groupValue_9 : decode cX1_groupValue 9 = .ok (.istore 7, 2) := by decide +kernel
theorem dX1_groupValue_11 : decode cX1_groupValue 11 = .ok (.iload_n 2, 1) := by decide +kernel
theorem dX1_groupValue_12 : decode cX1_groupValue 12 = .ok (.iconst 1, 1) := by decide +kernel
theorem dX1_groupValue_13 : decode cX1_groupValue 13 = .ok (.iadd, 1) := by decide +kernel
theorem dX1_groupValue_14 : decode cX1_groupValue 14 = .ok (.istore 8, 2) := by decide +kernel
theorem dX1_groupValue_16 : decode cX1_groupValue 16 = .ok (.iload 8, 2) := by decide +kernel
theorem dX1_groupValue_18 : decode cX1_groupValue 18 = .ok (.aload_n 1, 1) := by decide +kernel
theorem dX1_groupValue_19 : decode cX1_groupValue 19 = .ok (.getfield 29, 3) := by decide +kernel
theorem dX1_groupValue_22 : decode cX1_groupValue 22 = .ok (.if_icmp .ge 128, 3) := by decide +kernel
theorem dX1_groupValue_25 : decode cX1_groupValue 25 = .ok (.aload_n 1, 1) := by decide +kernel
theorem dX1_groupValue_26 : decode cX1_groupValue 26 = .ok (.iload 8, 2) := by decide +kernel
theorem dX1_groupValue_28 : decode cX1_groupValue 28 = .ok (.invokevirtual 35, 3) := by decide +kernel
theorem dX1_groupValue_31 : decode cX1_groupValue 31 = .ok (.astore 9, 2) := by decide +kernel
theorem dX1_groupValue_33 : decode cX1_groupValue 33 = .ok (.aload 9, 2) := by decide +kernel
theorem dX1_groupValue_35 : decode cX1_groupValue 35 = .ok (.getfield 69, 3) := by decide +kernel
theorem dX1_groupValue_38 : decode cX1_groupValue 38 = .ok (.iload_n 2, 1) := by decide +kernel
theorem dX1_groupValue_39 : decode cX1_groupValue 39 = .ok (.if_icmp .ne 105, 3) := by decide +kernel
theorem dX1_groupValue_42 : decode cX1_groupValue 42 = .ok (.aload_n 0, 1) := by decide +kernel
theorem dX1_groupValue_43 : decode cX1_groupValue 43 = .ok (.iload 8, 2) := by decide +kernel
theorem dX1_groupValue_45 : decode cX1_groupValue 45 = .ok (.invokevirtual 65, 3) := by decide +kernel
theorem dX1_groupValue_48 : decode cX1_groupValue 48 = .ok (.lstore 10, 2) := by decide +kernel
theorem dX1_groupValue_50 : decode cX1_groupValue 50 = .ok (.aload 9, 2) := by decide +kernel
theorem dX1_groupValue_52 : decode cX1_groupValue 52 = .ok (.getfield 72, 3) := by decide +kernel
theorem dX1_groupValue_55 : decode cX1_groupValue 55 = .ok (.lload 10, 2) := by decide +kernel
theorem dX1_groupValue_57 : decode cX1_groupValue 57 = .ok (.invokestatic 75, 3) := by decide +kernel
theorem dX1_groupValue_60 : decode cX1_groupValue 60 = .ok (.ifCond .eq 7, 3) := by decide +kernel
theorem dX1_groupValue_63 : decode cX1_groupValue 63 = .ok (.ldc2_w 60, 3) := by decide +kernel
theorem dX1_groupValue_66 : decode cX1_groupValue 66 = .ok (.lreturn, 1) := by decide +kernel
theorem dX1_groupValue_67 : decode cX1_groupValue 67 = .ok (.iload 5, 2) := by decide +kernel
theorem dX1_groupValue_69 : decode cX1_groupValue 69 = .ok (.ifCond .ne 12, 3) := by decide +kernel
theorem dX1_groupValue_72 : decode cX1_groupValue 72 = .ok (.aload 9, 2) := by decide +kernel
theorem dX1_groupValue_74 : decode cX1_groupValue 74 = .ok (.getfield 72, 3) := by decide +kernel
theorem dX1_groupValue_77 : decode cX1_groupValue 77 = .ok (.iconst 1, 1) := by decide +kernel
theorem dX1_groupValue_78 : decode cX1_groupValue 78 = .ok (.if_icmp .ne 7, 3) := by decide +kernel
theorem dX1_groupValue_81 : decode cX1_groupValue 81 = .ok (.iconst 1, 1) := by decide +kernel
theorem dX1_groupValue_82 : decode cX1_groupValue 82 = .ok (.goto 4, 3) := by decide +kernel
theorem dX1_groupValue_85 : decode cX1_groupValue 85 = .ok (.iconst 0, 1) := by decide +kernel
theorem dX1_groupValue_86 : decode cX1_groupValue 86 = .ok (.istore 5, 2) := by decide +kernel
theorem dX1_groupValue_88 : decode cX1_groupValue 88 = .ok (.iload 6, 2) := by decide +kernel
theorem dX1_groupValue_90 : decode cX1_groupValue 90 = .ok (.ifCond .ne 11, 3) := by decide +kernel
theorem dX1_groupValue_93 : decode cX1_groupValue 93 = .ok (.aload 9, 2) := by decide +kernel
theorem dX1_groupValue_95 : decode cX1_groupValue 95 = .ok (.getfield 72, 3) := by decide +kernel
theorem dX1_groupValue_98 : decode cX1_groupValue 98 = .ok (.ifCond .ne 7, 3) := by decide +kernel
theorem dX1_groupValue_101 : decode cX1_groupValue 101 = .ok (.iconst 1, 1) := by decide +kernel
theorem dX1_groupValue_102 : decode cX1_groupValue 102 = .ok (.goto 4, 3) := by decide +kernel
theorem dX1_groupValue_105 : decode cX1_groupValue 105 = .ok (.iconst 0, 1) := by decide +kernel
theorem dX1_groupValue_106 : decode cX1_groupValue 106 = .ok (.istore 6, 2) := by decide +kernel
theorem dX1_groupValue_108 : decode cX1_groupValue 108 = .ok (.iload 7, 2) := by decide +kernel
theorem dX1_groupValue_110 : decode cX1_groupValue 110 = .ok (.aload 9, 2) := by decide +kernel
theorem dX1_groupValue_112 : decode cX1_groupValue 112 = .ok (.getfield 72, 3) := by decide +kernel
theorem dX1_groupValue_115 : decode cX1_groupValue 115 = .ok (.ifCond .ne 16, 3) := by decide +kernel
theorem dX1_groupValue_118 : decode cX1_groupValue 118 = .ok (.lload 10, 2) := by decide +kernel
theorem dX1_groupValue_120 : decode cX1_groupValue 120 = .ok (.ldc2_w 60, 3) := by decide +kernel
theorem dX1_groupValue_123 : decode cX1_groupValue 123 = .ok (.lcmp, 1) := by decide +kernel
theorem dX1_groupValue_124 : decode cX1_groupValue 124 = .ok (.ifCond .eq 7, 3) := by decide +kernel
theorem dX1_groupValue_127 : decode cX1_groupValue 127 = .ok (.iconst 1, 1) := by decide +kernel
theorem dX1_groupValue_128 : decode cX1_groupValue 128 = .ok (.goto 4, 3) := by decide +kernel
theorem dX1_groupValue_131 : decode cX1_groupValue 131 = .ok (.iconst 0, 1) := by decide +kernel
theorem dX1_groupValue_132 : decode cX1_groupValue 132 = .ok (.iadd, 1) := by decide +kernel
theorem dX1_groupValue_133 : decode cX1_groupValue 133 = .ok (.istore 7, 2) := by decide +kernel
theorem dX1_groupValue_135 : decode cX1_groupValue 135 = .ok (.lload_n 3, 1) := by decide +kernel
theorem dX1_groupValue_136 : decode cX1_groupValue 136 = .ok (.lconst 0, 1) := by decide +kernel
theorem dX1_groupValue_137 : decode cX1_groupValue 137 = .ok (.lload 10, 2) := by decide +kernel
theorem dX1_groupValue_139 : decode cX1_groupValue 139 = .ok (.invokestatic 79, 3) := by decide +kernel
theorem dX1_groupValue_142 : decode cX1_groupValue 142 = .ok (.ladd, 1) := by decide +kernel
theorem dX1_groupValue_143 : decode cX1_groupValue 143 = .ok (.lstore_n 3, 1) := by decide +kernel
theorem dX1_groupValue_144 : decode cX1_groupValue 144 = .ok (.iinc 8 1, 3) := by decide +kernel
theorem dX1_groupValue_147 : decode cX1_groupValue 147 = .ok (.goto (-131), 3) := by decide +kernel
theorem dX1_groupValue_150 : decode cX1_groupValue 150 = .ok (.aload_n 1, 1) := by decide +kernel
theorem dX1_groupValue_151 : decode cX1_groupValue 151 = .ok (.iload_n 2, 1) := by decide +kernel
theorem dX1_groupValue_152 : decode cX1_groupValue 152 = .ok (.invokevirtual 35, 3) := by decide +kernel
theorem dX1_groupValue_155 : decode cX1_groupValue 155 = .ok (.astore 8, 2) := by decide +kernel
theorem dX1_groupValue_157 : decode cX1_groupValue 157 = .ok (.iload 5, 2) := by decide +kernel
theorem dX1_groupValue_159 : decode cX1_groupValue 159 = .ok (.ifCond .ne 8, 3) := by decide +kernel
theorem dX1_groupValue_162 : decode cX1_groupValue 162 = .ok (.iload 6, 2) := by decide +kernel
theorem dX1_groupValue_164 : decode cX1_groupValue 164 = .ok (.ifCond .ne 7, 3) := by decide +kernel
theorem dX1_groupValue_167 : decode cX1_groupValue 167 = .ok (.iconst 0, 1) := by decide +kernel
theorem dX1_groupValue_168 : decode cX1_groupValue 168 = .ok (.goto 4, 3) := by decide +kernel
theorem dX1_groupValue_171 : decode cX1_groupValue 171 = .ok (.iconst 1, 1) := by decide +kernel
theorem dX1_groupValue_172 : decode cX1_groupValue 172 = .ok (.istore 9, 2) := by decide +kernel
theorem dX1_groupValue_174 : decode cX1_groupValue 174 = .ok (.aload 8, 2) := by decide +kernel
theorem dX1_groupValue_176 : decode cX1_groupValue 176 = .ok (.getfield 85, 3) := by decide +kernel
theorem dX1_groupValue_179 : decode cX1_groupValue 179 = .ok (.iconst (-1), 1) := by decide +kernel
theorem dX1_groupValue_180 : decode cX1_groupValue 180 = .ok (.if_icmp .ne 8, 3) := by decide +kernel
theorem dX1_groupValue_183 : decode cX1_groupValue 183 = .ok (.iload 9, 2) := by decide +kernel
theorem dX1_groupValue_185 : decode cX1_groupValue 185 = .ok (.goto 8, 3) := by decide +kernel
theorem dX1_groupValue_188 : decode cX1_groupValue 188 = .ok (.aload 8, 2) := by decide +kernel
theorem dX1_groupValue_190 : decode cX1_groupValue 190 = .ok (.getfield 85, 3) := by decide +kernel
theorem dX1_groupValue_193 : decode cX1_groupValue 193 = .ok (.istore 10, 2) := by decide +kernel
theorem dX1_groupValue_195 : decode cX1_groupValue 195 = .ok (.iload 7, 2) := by decide +kernel
theorem dX1_groupValue_197 : decode cX1_groupValue 197 = .ok (.iload 10, 2) := by decide +kernel
theorem dX1_groupValue_199 : decode cX1_groupValue 199 = .ok (.if_icmp .ge 9, 3) := by decide +kernel
theorem dX1_groupValue_202 : decode cX1_groupValue 202 = .ok (.ldc2_w 60, 3) := by decide +kernel
theorem dX1_groupValue_205 : decode cX1_groupValue 205 = .ok (.goto 11, 3) := by decide +kernel
theorem dX1_groupValue_208 : decode cX1_groupValue 208 = .ok (.aload 8, 2) := by decide +kernel
theorem dX1_groupValue_210 : decode cX1_groupValue 210 = .ok (.getfield 62, 3) := by decide +kernel
theorem dX1_groupValue_213 : decode cX1_groupValue 213 = .ok (.i2l, 1) := by decide +kernel
theorem dX1_groupValue_214 : decode cX1_groupValue 214 = .ok (.lload_n 3, 1) := by decide +kernel
theorem dX1_groupValue_215 : decode cX1_groupValue 215 = .ok (.lmul, 1) := by decide +kernel
theorem dX1_groupValue_216 : decode cX1_groupValue 216 = .ok (.lreturn, 1) := by decide +kernel
theorem dX1_isFault_0 : decode cX1_isFault 0 = .ok (.iload_n 0, 1) := by decide +kernel
theorem dX1_isFault_1 : decode cX1_isFault 1 = .ok (.iconst 1, 1) := by decide +kernel
theorem dX1_isFault_2 : decode cX1_isFault 2 = .ok (.if_icmp .ne 11, 3) := by decide +kernel
theorem dX1_isFault_5 : decode cX1_isFault 5 = .ok (.lload_n 1, 1) := by decide +kernel
theorem dX1_isFault_6 : decode cX1_isFault 6 = .ok (.ldc2_w 60, 3) := by decide +kernel
theorem dX1_isFault_9 : decode cX1_isFault 9 = .ok (.lcmp, 1) := by decide +kernel
theorem dX1_isFault_10 : decode cX1_isFault 10 = .ok (.ifCond .eq 16, 3) := by decide +kernel
theorem dX1_isFault_13 : decode cX1_isFault 13 = .ok (.iload_n 0, 1) := by decide +kernel
theorem dX1_isFault_14 : decode cX1_isFault 14 = .ok (.iconst 2, 1) := by decide +kernel
theorem dX1_isFault_15 : decode cX1_isFault 15 = .ok (.if_icmp .ne 15, 3) := by decide +kernel
theorem dX1_isFault_18 : decode cX1_isFault 18 = .ok (.lload_n 1, 1) := by decide +kernel
theorem dX1_isFault_19 : decode cX1_isFault 19 = .ok (.ldc2_w 60, 3) := by decide +kernel
theorem dX1_isFault_22 : decode cX1_isFault 22 = .ok (.lcmp, 1) := by decide +kernel
theorem dX1_isFault_23 : decode cX1_isFault 23 = .ok (.ifCond .eq 7, 3) := by decide +kernel
theorem dX1_isFault_26 : decode cX1_isFault 26 = .ok (.iconst 1, 1) := by decide +kernel
theorem dX1_isFault_27 : decode cX1_isFault 27 = .ok (.goto 4, 3) := by decide +kernel
theorem dX1_isFault_30 : decode cX1_isFault 30 = .ok (.iconst 0, 1) := by decide +kernel
theorem dX1_isFault_31 : decode cX1_isFault 31 = .ok (.ireturn, 1) := by decide +kernel
theorem dX1_firstFault_0 : decode cX1_firstFault 0 = .ok (.iconst 1, 1) := by decide +kernel
theorem dX1_firstFault_1 : decode cX1_firstFault 1 = .ok (.istore_n 3, 1) := by decide +kernel
theorem dX1_firstFault_2 : decode cX1_firstFault 2 = .ok (.iload_n 3, 1) := by decide +kernel
theorem dX1_firstFault_3 : decode cX1_firstFault 3 = .ok (.aload_n 1, 1) := by decide +kernel
theorem dX1_firstFault_4 : decode cX1_firstFault 4 = .ok (.getfield 29, 3) := by decide +kernel
theorem dX1_firstFault_7 : decode cX1_firstFault 7 = .ok (.if_icmp .ge 47, 3) := by decide +kernel
theorem dX1_firstFault_10 : decode cX1_firstFault 10 = .ok (.aload_n 1, 1) := by decide +kernel
theorem dX1_firstFault_11 : decode cX1_firstFault 11 = .ok (.iload_n 3, 1) := by decide +kernel
theorem dX1_firstFault_12 : decode cX1_firstFault 12 = .ok (.invokevirtual 35, 3) := by decide +kernel
theorem dX1_firstFault_15 : decode cX1_firstFault 15 = .ok (.astore 4, 2) := by decide +kernel
theorem dX1_firstFault_17 : decode cX1_firstFault 17 = .ok (.aload 4, 2) := by decide +kernel
theorem dX1_firstFault_19 : decode cX1_firstFault 19 = .ok (.getfield 69, 3) := by decide +kernel
theorem dX1_firstFault_22 : decode cX1_firstFault 22 = .ok (.ifCond .ne 26, 3) := by decide +kernel
theorem dX1_firstFault_25 : decode cX1_firstFault 25 = .ok (.aload 4, 2) := by decide +kernel
theorem dX1_firstFault_27 : decode cX1_firstFault 27 = .ok (.getfield 72, 3) := by decide +kernel
theorem dX1_firstFault_30 : decode cX1_firstFault 30 = .ok (.iload_n 2, 1) := by decide +kernel
theorem dX1_firstFault_31 : decode cX1_firstFault 31 = .ok (.if_icmp .ne 17, 3) := by decide +kernel
theorem dX1_firstFault_34 : decode cX1_firstFault 34 = .ok (.iload_n 2, 1) := by decide +kernel
theorem dX1_firstFault_35 : decode cX1_firstFault 35 = .ok (.aload_n 0, 1) := by decide +kernel
theorem dX1_firstFault_36 : decode cX1_firstFault 36 = .ok (.iload_n 3, 1) := by decide +kernel
theorem dX1_firstFault_37 : decode cX1_firstFault 37 = .ok (.invokevirtual 65, 3) := by decide +kernel
theorem dX1_firstFault_40 : decode cX1_firstFault 40 = .ok (.invokestatic 75, 3) := by decide +kernel
theorem dX1_firstFault_43 : decode cX1_firstFault 43 = .ok (.ifCond .eq 5, 3) := by decide +kernel
theorem dX1_firstFault_46 : decode cX1_firstFault 46 = .ok (.iload_n 3, 1) := by decide +kernel
theorem dX1_firstFault_47 : decode cX1_firstFault 47 = .ok (.ireturn, 1) := by decide +kernel
theorem dX1_firstFault_48 : decode cX1_firstFault 48 = .ok (.iinc 3 1, 3) := by decide +kernel
theorem dX1_firstFault_51 : decode cX1_firstFault 51 = .ok (.goto (-49), 3) := by decide +kernel
theorem dX1_firstFault_54 : decode cX1_firstFault 54 = .ok (.iconst 0, 1) := by decide +kernel
theorem dX1_firstFault_55 : decode cX1_firstFault 55 = .ok (.ireturn, 1) := by decide +kernel
theorem dX1_countFits_0 : decode cX1_countFits 0 = .ok (.lconst 0, 1) := by decide +kernel
theorem dX1_countFits_1 : decode cX1_countFits 1 = .ok (.lstore 4, 2) := by decide +kernel
theorem dX1_countFits_3 : decode cX1_countFits 3 = .ok (.iconst 0, 1) := by decide +kernel
theorem dX1_countFits_4 : decode cX1_countFits 4 = .ok (.istore 6, 2) := by decide +kernel
theorem dX1_countFits_6 : decode cX1_countFits 6 = .ok (.iload 6, 2) := by decide +kernel
theorem dX1_countFits_8 : decode cX1_countFits 8 = .ok (.iconst 4, 1) := by decide +kernel
theorem dX1_countFits_9 : decode cX1_countFits 9 = .ok (.if_icmp .ge 54, 3) := by decide +kernel
theorem dX1_countFits_12 : decode cX1_countFits 12 = .ok (.iload_n 2, 1) := by decide +kernel
theorem dX1_countFits_13 : decode cX1_countFits 13 = .ok (.iconst (-1), 1) := by decide +kernel
theorem dX1_countFits_14 : decode cX1_countFits 14 = .ok (.if_icmp .eq 9, 3) := by decide +kernel
theorem dX1_countFits_17 : decode cX1_countFits 17 = .ok (.iload_n 2, 1) := by decide +kernel
theorem dX1_countFits_18 : decode cX1_countFits 18 = .ok (.iload 6, 2) := by decide +kernel
theorem dX1_countFits_20 : decode cX1_countFits 20 = .ok (.if_icmp .ne 37, 3) := by decide +kernel
theorem dX1_countFits_23 : decode cX1_countFits 23 = .ok (.lload 4, 2) := by decide +kernel
theorem dX1_countFits_25 : decode cX1_countFits 25 = .ok (.aload_n 1, 1) := by decide +kernel
theorem dX1_countFits_26 : decode cX1_countFits 26 = .ok (.getfield 39, 3) := by decide +kernel
theorem dX1_countFits_29 : decode cX1_countFits 29 = .ok (.iconst 1, 1) := by decide +kernel
theorem dX1_countFits_30 : decode cX1_countFits 30 = .ok (.if_icmp .ne 15, 3) := by decide +kernel
theorem dX1_countFits_33 : decode cX1_countFits 33 = .ok (.aload_n 0, 1) := by decide +kernel
theorem dX1_countFits_34 : decode cX1_countFits 34 = .ok (.aload_n 1, 1) := by decide +kernel
theorem dX1_countFits_35 : decode cX1_countFits 35 = .ok (.iload_n 3, 1) := by decide +kernel
theorem dX1_countFits_36 : decode cX1_countFits 36 = .ok (.iload 6, 2) := by decide +kernel
theorem dX1_countFits_38 : decode cX1_countFits 38 = .ok (.invokevirtual 88, 3) := by decide +kernel
theorem dX1_countFits_41 : decode cX1_countFits 41 = .ok (.i2l, 1) := by decide +kernel
theorem dX1_countFits_42 : decode cX1_countFits 42 = .ok (.goto 12, 3) := by decide +kernel
theorem dX1_countFits_45 : decode cX1_countFits 45 = .ok (.aload_n 0, 1) := by decide +kernel
theorem dX1_countFits_46 : decode cX1_countFits 46 = .ok (.aload_n 1, 1) := by decide +kernel
theorem dX1_countFits_47 : decode cX1_countFits 47 = .ok (.iload_n 3, 1) := by decide +kernel
theorem dX1_countFits_48 : decode cX1_countFits 48 = .ok (.iload 6, 2) := by decide +kernel
theorem dX1_countFits_50 : decode cX1_countFits 50 = .ok (.invokevirtual 92, 3) := by decide +kernel
theorem dX1_countFits_53 : decode cX1_countFits 53 = .ok (.i2l, 1) := by decide +kernel
theorem dX1_countFits_54 : decode cX1_countFits 54 = .ok (.ladd, 1) := by decide +kernel
theorem dX1_countFits_55 : decode cX1_countFits 55 = .ok (.lstore 4, 2) := by decide +kernel
theorem dX1_countFits_57 : decode cX1_countFits 57 = .ok (.iinc 6 1, 3) := by decide +kernel
theorem dX1_countFits_60 : decode cX1_countFits 60 = .ok (.goto (-54), 3) := by decide +kernel
theorem dX1_countFits_63 : decode cX1_countFits 63 = .ok (.lload 4, 2) := by decide +kernel
theorem dX1_countFits_65 : decode cX1_countFits 65 = .ok (.lreturn, 1) := by decide +kernel
theorem dX1_countWords_0 : decode cX1_countWords 0 = .ok (.iconst 0, 1) := by decide +kernel
theorem dX1_countWords_1 : decode cX1_countWords 1 = .ok (.istore 4, 2) := by decide +kernel
theorem dX1_countWords_3 : decode cX1_countWords 3 = .ok (.aload_n 0, 1) := by decide +kernel
theorem dX1_countWords_4 : decode cX1_countWords 4 = .ok (.getfield 12, 3) := by decide +kernel
theorem dX1_countWords_7 : decode cX1_countWords 7 = .ok (.iload_n 2, 1) := by decide +kernel
theorem dX1_countWords_8 : decode cX1_countWords 8 = .ok (.iload_n 3, 1) := by decide +kernel
theorem dX1_countWords_9 : decode cX1_countWords 9 = .ok (.invokevirtual 95, 3) := by decide +kernel
theorem dX1_countWords_12 : decode cX1_countWords 12 = .ok (.istore 5, 2) := by decide +kernel
theorem dX1_countWords_14 : decode cX1_countWords 14 = .ok (.iconst 0, 1) := by decide +kernel
theorem dX1_countWords_15 : decode cX1_countWords 15 = .ok (.istore 6, 2) := by decide +kernel
theorem dX1_countWords_17 : decode cX1_countWords 17 = .ok (.iload 6, 2) := by decide +kernel
theorem dX1_countWords_19 : decode cX1_countWords 19 = .ok (.iload 5, 2) := by decide +kernel
theorem dX1_countWords_21 : decode cX1_countWords 21 = .ok (.if_icmp .ge 34, 3) := by decide +kernel
theorem dX1_countWords_24 : decode cX1_countWords 24 = .ok (.aload_n 0, 1) := by decide +kernel
theorem dX1_countWords_25 : decode cX1_countWords 25 = .ok (.getfield 21, 3) := by decide +kernel
theorem dX1_countWords_28 : decode cX1_countWords 28 = .ok (.aload_n 1, 1) := by decide +kernel
theorem dX1_countWords_29 : decode cX1_countWords 29 = .ok (.aload_n 0, 1) := by decide +kernel
theorem dX1_countWords_30 : decode cX1_countWords 30 = .ok (.getfield 12, 3) := by decide +kernel
theorem dX1_countWords_33 : decode cX1_countWords 33 = .ok (.iload_n 2, 1) := by decide +kernel
theorem dX1_countWords_34 : decode cX1_countWords 34 = .ok (.iload_n 3, 1) := by decide +kernel
theorem dX1_countWords_35 : decode cX1_countWords 35 = .ok (.iload 6, 2) := by decide +kernel
theorem dX1_countWords_37 : decode cX1_countWords 37 = .ok (.invokevirtual 99, 3) := by decide +kernel
theorem dX1_countWords_40 : decode cX1_countWords 40 = .ok (.invokevirtual 103, 3) := by decide +kernel
theorem dX1_countWords_43 : decode cX1_countWords 43 = .ok (.ifCond .eq 6, 3) := by decide +kernel
theorem dX1_countWords_46 : decode cX1_countWords 46 = .ok (.iinc 4 1, 3) := by decide +kernel
theorem dX1_countWords_49 : decode cX1_countWords 49 = .ok (.iinc 6 1, 3) := by decide +kernel
theorem dX1_countWords_52 : decode cX1_countWords 52 = .ok (.goto (-35), 3) := by decide +kernel
theorem dX1_countWords_55 : decode cX1_countWords 55 = .ok (.iload 4, 2) := by decide +kernel
theorem dX1_countWords_57 : decode cX1_countWords 57 = .ok (.ireturn, 1) := by decide +kernel
theorem dX1_countQuotes_0 : decode cX1_countQuotes 0 = .ok (.iconst 0, 1) := by decide +kernel
theorem dX1_countQuotes_1 : decode cX1_countQuotes 1 = .ok (.istore 4, 2) := by decide +kernel
theorem dX1_countQuotes_3 : decode cX1_countQuotes 3 = .ok (.aload_n 0, 1) := by decide +kernel
theorem dX1_countQuotes_4 : decode cX1_countQuotes 4 = .ok (.getfield 12, 3) := by decide +kernel
theorem dX1_countQuotes_7 : decode cX1_countQuotes 7 = .ok (.iload_n 2, 1) := by decide +kernel
theorem dX1_countQuotes_8 : decode cX1_countQuotes 8 = .ok (.iload_n 3, 1) := by decide +kernel
theorem dX1_countQuotes_9 : decode cX1_countQuotes 9 = .ok (.invokevirtual 95, 3) := by decide +kernel
theorem dX1_countQuotes_12 : decode cX1_countQuotes 12 = .ok (.istore 5, 2) := by decide +kernel
theorem dX1_countQuotes_14 : decode cX1_countQuotes 14 = .ok (.iconst 0, 1) := by decide +kernel
theorem dX1_countQuotes_15 : decode cX1_countQuotes 15 = .ok (.istore 6, 2) := by decide +kernel
theorem dX1_countQuotes_17 : decode cX1_countQuotes 17 = .ok (.iload 6, 2) := by decide +kernel
theorem dX1_countQuotes_19 : decode cX1_countQuotes 19 = .ok (.iload 5, 2) := by decide +kernel
theorem dX1_countQuotes_21 : decode cX1_countQuotes 21 = .ok (.if_icmp .ge 44, 3) := by decide +kernel
theorem dX1_countQuotes_24 : decode cX1_countQuotes 24 = .ok (.aload_n 0, 1) := by decide +kernel
theorem dX1_countQuotes_25 : decode cX1_countQuotes 25 = .ok (.getfield 12, 3) := by decide +kernel
theorem dX1_countQuotes_28 : decode cX1_countQuotes 28 = .ok (.iload_n 2, 1) := by decide +kernel
theorem dX1_countQuotes_29 : decode cX1_countQuotes 29 = .ok (.iload_n 3, 1) := by decide +kernel
theorem dX1_countQuotes_30 : decode cX1_countQuotes 30 = .ok (.iload 6, 2) := by decide +kernel
theorem dX1_countQuotes_32 : decode cX1_countQuotes 32 = .ok (.invokevirtual 99, 3) := by decide +kernel
theorem dX1_countQuotes_35 : decode cX1_countQuotes 35 = .ok (.aload_n 1, 1) := by decide +kernel
theorem dX1_countQuotes_36 : decode cX1_countQuotes 36 = .ok (.iconst 0, 1) := by decide +kernel
theorem dX1_countQuotes_37 : decode cX1_countQuotes 37 = .ok (.invokevirtual 107, 3) := by decide +kernel
theorem dX1_countQuotes_40 : decode cX1_countQuotes 40 = .ok (.lcmp, 1) := by decide +kernel
theorem dX1_countQuotes_41 : decode cX1_countQuotes 41 = .ok (.ifCond .ne 18, 3) := by decide +kernel
theorem dX1_countQuotes_44 : decode cX1_countQuotes 44 = .ok (.aload_n 0, 1) := by decide +kernel
theorem dX1_countQuotes_45 : decode cX1_countQuotes 45 = .ok (.aload_n 1, 1) := by decide +kernel
theorem dX1_countQuotes_46 : decode cX1_countQuotes 46 = .ok (.iload_n 2, 1) := by decide +kernel
theorem dX1_countQuotes_47 : decode cX1_countQuotes 47 = .ok (.iload_n 3, 1) := by decide +kernel
theorem dX1_countQuotes_48 : decode cX1_countQuotes 48 = .ok (.iload 6, 2) := by decide +kernel
theorem dX1_countQuotes_50 : decode cX1_countQuotes 50 = .ok (.invokevirtual 109, 3) := by decide +kernel
theorem dX1_countQuotes_53 : decode cX1_countQuotes 53 = .ok (.ifCond .eq 6, 3) := by decide +kernel
theorem dX1_countQuotes_56 : decode cX1_countQuotes 56 = .ok (.iinc 4 1, 3) := by decide +kernel
theorem dX1_countQuotes_59 : decode cX1_countQuotes 59 = .ok (.iinc 6 1, 3) := by decide +kernel
theorem dX1_countQuotes_62 : decode cX1_countQuotes 62 = .ok (.goto (-45), 3) := by decide +kernel
theorem dX1_countQuotes_65 : decode cX1_countQuotes 65 = .ok (.iload 4, 2) := by decide +kernel
theorem dX1_countQuotes_67 : decode cX1_countQuotes 67 = .ok (.ireturn, 1) := by decide +kernel
theorem dX1_quoteStands_0 : decode cX1_quoteStands 0 = .ok (.aload_n 0, 1) := by decide +kernel
theorem dX1_quoteStands_1 : decode cX1_quoteStands 1 = .ok (.getfield 12, 3) := by decide +kernel
theorem dX1_quoteStands_4 : decode cX1_quoteStands 4 = .ok (.iload_n 2, 1) := by decide +kernel
theorem dX1_quoteStands_5 : decode cX1_quoteStands 5 = .ok (.iload_n 3, 1) := by decide +kernel
theorem dX1_quoteStands_6 : decode cX1_quoteStands 6 = .ok (.invokevirtual 95, 3) := by decide +kernel
theorem dX1_quoteStands_9 : decode cX1_quoteStands 9 = .ok (.iconst 1, 1) := by decide +kernel
theorem dX1_quoteStands_10 : decode cX1_quoteStands 10 = .ok (.isub, 1) := by decide +kernel
theorem dX1_quoteStands_11 : decode cX1_quoteStands 11 = .ok (.iload 4, 2) := by decide +kernel
theorem dX1_quoteStands_13 : decode cX1_quoteStands 13 = .ok (.aload_n 1, 1) := by decide +kernel
theorem dX1_quoteStands_14 : decode cX1_quoteStands 14 = .ok (.getfield 113, 3) := by decide +kernel
theorem dX1_quoteStands_17 : decode cX1_quoteStands 17 = .ok (.iadd, 1) := by decide +kernel
theorem dX1_quoteStands_18 : decode cX1_quoteStands 18 = .ok (.iconst 1, 1) := by decide +kernel
theorem dX1_quoteStands_19 : decode cX1_quoteStands 19 = .ok (.isub, 1) := by decide +kernel
theorem dX1_quoteStands_20 : decode cX1_quoteStands 20 = .ok (.aload_n 1, 1) := by decide +kernel
theorem dX1_quoteStands_21 : decode cX1_quoteStands 21 = .ok (.getfield 85, 3) := by decide +kernel
theorem dX1_quoteStands_24 : decode cX1_quoteStands 24 = .ok (.iadd, 1) := by decide +kernel
theorem dX1_quoteStands_25 : decode cX1_quoteStands 25 = .ok (.invokestatic 116, 3) := by decide +kernel
theorem dX1_quoteStands_28 : decode cX1_quoteStands 28 = .ok (.istore 5, 2) := by decide +kernel
theorem dX1_quoteStands_30 : decode cX1_quoteStands 30 = .ok (.iconst 0, 1) := by decide +kernel
theorem dX1_quoteStands_31 : decode cX1_quoteStands 31 = .ok (.istore 6, 2) := by decide +kernel
theorem dX1_quoteStands_33 : decode cX1_quoteStands 33 = .ok (.iload 4, 2) := by decide +kernel
theorem dX1_quoteStands_35 : decode cX1_quoteStands 35 = .ok (.istore 7, 2) := by decide +kernel
theorem dX1_quoteStands_37 : decode cX1_quoteStands 37 = .ok (.iload 7, 2) := by decide +kernel
theorem dX1_quoteStands_39 : decode cX1_quoteStands 39 = .ok (.iload 5, 2) := by decide +kernel
theorem dX1_quoteStands_41 : decode cX1_quoteStands 41 = .ok (.if_icmp .gt 42, 3) := by decide +kernel
theorem dX1_quoteStands_44 : decode cX1_quoteStands 44 = .ok (.iload 6, 2) := by decide +kernel
theorem dX1_quoteStands_46 : decode cX1_quoteStands 46 = .ok (.aload_n 1, 1) := by decide +kernel
theorem dX1_quoteStands_47 : decode cX1_quoteStands 47 = .ok (.getfield 113, 3) := by decide +kernel
theorem dX1_quoteStands_50 : decode cX1_quoteStands 50 = .ok (.if_icmp .ge 33, 3) := by decide +kernel
theorem dX1_quoteStands_53 : decode cX1_quoteStands 53 = .ok (.aload_n 0, 1) := by decide +kernel
theorem dX1_quoteStands_54 : decode cX1_quoteStands 54 = .ok (.getfield 12, 3) := by decide +kernel
theorem dX1_quoteStands_57 : decode cX1_quoteStands 57 = .ok (.iload_n 2, 1) := by decide +kernel
theorem dX1_quoteStands_58 : decode cX1_quoteStands 58 = .ok (.iload_n 3, 1) := by decide +kernel
theorem dX1_quoteStands_59 : decode cX1_quoteStands 59 = .ok (.iload 7, 2) := by decide +kernel
theorem dX1_quoteStands_61 : decode cX1_quoteStands 61 = .ok (.invokevirtual 99, 3) := by decide +kernel
theorem dX1_quoteStands_64 : decode cX1_quoteStands 64 = .ok (.aload_n 1, 1) := by decide +kernel
theorem dX1_quoteStands_65 : decode cX1_quoteStands 65 = .ok (.iload 6, 2) := by decide +kernel
theorem dX1_quoteStands_67 : decode cX1_quoteStands 67 = .ok (.invokevirtual 107, 3) := by decide +kernel
theorem dX1_quoteStands_70 : decode cX1_quoteStands 70 = .ok (.lcmp, 1) := by decide +kernel
theorem dX1_quoteStands_71 : decode cX1_quoteStands 71 = .ok (.ifCond .ne 6, 3) := by decide +kernel
theorem dX1_quoteStands_74 : decode cX1_quoteStands 74 = .ok (.iinc 6 1, 3) := by decide +kernel
theorem dX1_quoteStands_77 : decode cX1_quoteStands 77 = .ok (.iinc 7 1, 3) := by decide +kernel
theorem dX1_quoteStands_80 : decode cX1_quoteStands 80 = .ok (.goto (-43), 3) := by decide +kernel
theorem dX1_quoteStands_83 : decode cX1_quoteStands 83 = .ok (.iload 6, 2) := by decide +kernel
theorem dX1_quoteStands_85 : decode cX1_quoteStands 85 = .ok (.aload_n 1, 1) := by decide +kernel
theorem dX1_quoteStands_86 : decode cX1_quoteStands 86 = .ok (.getfield 113, 3) := by decide +kernel
theorem dX1_quoteStands_89 : decode cX1_quoteStands 89 = .ok (.if_icmp .ne 7, 3) := by decide +kernel
theorem dX1_quoteStands_92 : decode cX1_quoteStands 92 = .ok (.iconst 1, 1) := by decide +kernel
theorem dX1_quoteStands_93 : decode cX1_quoteStands 93 = .ok (.goto 4, 3) := by decide +kernel
theorem dX1_quoteStands_96 : decode cX1_quoteStands 96 = .ok (.iconst 0, 1) := by decide +kernel
theorem dX1_quoteStands_97 : decode cX1_quoteStands 97 = .ok (.ireturn, 1) := by decide +kernel
theorem dX2_isLetter_0 : decode cX2_isLetter 0 = .ok (.iload_n 0, 1) := by decide +kernel
theorem dX2_isLetter_1 : decode cX2_isLetter 1 = .ok (.bipush 97, 2) := by decide +kernel
theorem dX2_isLetter_3 : decode cX2_isLetter 3 = .ok (.if_icmp .lt 13, 3) := by decide +kernel
theorem dX2_isLetter_6 : decode cX2_isLetter 6 = .ok (.iload_n 0, 1) := by decide +kernel
theorem dX2_isLetter_7 : decode cX2_isLetter 7 = .ok (.bipush 122, 2) := by decide +kernel
theorem dX2_isLetter_9 : decode cX2_isLetter 9 = .ok (.if_icmp .gt 7, 3) := by decide +kernel
theorem dX2_isLetter_12 : decode cX2_isLetter 12 = .ok (.iconst 1, 1) := by decide +kernel
theorem dX2_isLetter_13 : decode cX2_isLetter 13 = .ok (.goto 4, 3) := by decide +kernel
theorem dX2_isLetter_16 : decode cX2_isLetter 16 = .ok (.iconst 0, 1) := by decide +kernel
theorem dX2_isLetter_17 : decode cX2_isLetter 17 = .ok (.ireturn, 1) := by decide +kernel
theorem dX2_isSign_0 : decode cX2_isSign 0 = .ok (.iload_n 0, 1) := by decide +kernel
theorem dX2_isSign_1 : decode cX2_isSign 1 = .ok (.invokestatic 9, 3) := by decide +kernel
theorem dX2_isSign_4 : decode cX2_isSign 4 = .ok (.ifCond .ne 15, 3) := by decide +kernel
theorem dX2_isSign_7 : decode cX2_isSign 7 = .ok (.iload_n 0, 1) := by decide +kernel
theorem dX2_isSign_8 : decode cX2_isSign 8 = .ok (.bipush 63, 2) := by decide +kernel
theorem dX2_isSign_10 : decode cX2_isSign 10 = .ok (.if_icmp .eq 9, 3) := by decide +kernel
theorem dX2_isSign_13 : decode cX2_isSign 13 = .ok (.iload_n 0, 1) := by decide +kernel
theorem dX2_isSign_14 : decode cX2_isSign 14 = .ok (.bipush 42, 2) := by decide +kernel
theorem dX2_isSign_16 : decode cX2_isSign 16 = .ok (.if_icmp .ne 7, 3) := by decide +kernel
theorem dX2_isSign_19 : decode cX2_isSign 19 = .ok (.iconst 1, 1) := by decide +kernel
theorem dX2_isSign_20 : decode cX2_isSign 20 = .ok (.goto 4, 3) := by decide +kernel
theorem dX2_isSign_23 : decode cX2_isSign 23 = .ok (.iconst 0, 1) := by decide +kernel
theorem dX2_isSign_24 : decode cX2_isSign 24 = .ok (.ireturn, 1) := by decide +kernel
theorem dX2_signAt_0 : decode cX2_signAt 0 = .ok (.iload_n 2, 1) := by decide +kernel
theorem dX2_signAt_1 : decode cX2_signAt 1 = .ok (.ifCond .lt 26, 3) := by decide +kernel
theorem dX2_signAt_4 : decode cX2_signAt 4 = .ok (.iload_n 2, 1) := by decide +kernel
theorem dX2_signAt_5 : decode cX2_signAt 5 = .ok (.bipush 8, 2) := by decide +kernel
theorem dX2_signAt_7 : decode cX2_signAt 7 = .ok (.if_icmp .ge 20, 3) := by decide +kernel
theorem dX2_signAt_10 : decode cX2_signAt 10 = .ok (.lload_n 0, 1) := by decide +kernel
theorem dX2_signAt_11 : decode cX2_signAt 11 = .ok (.bipush 56, 2) := by decide +kernel
theorem dX2_signAt_13 : decode cX2_signAt 13 = .ok (.bipush 8, 2) := by decide +kernel
theorem dX2_signAt_15 : decode cX2_signAt 15 = .ok (.iload_n 2, 1) := by decide +kernel
theorem dX2_signAt_16 : decode cX2_signAt 16 = .ok (.imul, 1) := by decide +kernel
theorem dX2_signAt_17 : decode cX2_signAt 17 = .ok (.isub, 1) := by decide +kernel
theorem dX2_signAt_18 : decode cX2_signAt 18 = .ok (.lushr, 1) := by decide +kernel
theorem dX2_signAt_19 : decode cX2_signAt 19 = .ok (.l2i, 1) := by decide +kernel
theorem dX2_signAt_20 : decode cX2_signAt 20 = .ok (.sipush 255, 3) := by decide +kernel
theorem dX2_signAt_23 : decode cX2_signAt 23 = .ok (.iand, 1) := by decide +kernel
theorem dX2_signAt_24 : decode cX2_signAt 24 = .ok (.goto 4, 3) := by decide +kernel
theorem dX2_signAt_27 : decode cX2_signAt 27 = .ok (.iconst 0, 1) := by decide +kernel
theorem dX2_signAt_28 : decode cX2_signAt 28 = .ok (.ireturn, 1) := by decide +kernel
theorem dX2_isPlain_0 : decode cX2_isPlain 0 = .ok (.lload_n 0, 1) := by decide +kernel
theorem dX2_isPlain_1 : decode cX2_isPlain 1 = .ok (.lstore_n 2, 1) := by decide +kernel
theorem dX2_isPlain_2 : decode cX2_isPlain 2 = .ok (.iconst 0, 1) := by decide +kernel
theorem dX2_isPlain_3 : decode cX2_isPlain 3 = .ok (.istore 4, 2) := by decide +kernel
theorem dX2_isPlain_5 : decode cX2_isPlain 5 = .ok (.iload 4, 2) := by decide +kernel
theorem dX2_isPlain_7 : decode cX2_isPlain 7 = .ok (.bipush 8, 2) := by decide +kernel
theorem dX2_isPlain_9 : decode cX2_isPlain 9 = .ok (.if_icmp .ge 34, 3) := by decide +kernel
theorem dX2_isPlain_12 : decode cX2_isPlain 12 = .ok (.lload_n 2, 1) := by decide +kernel
theorem dX2_isPlain_13 : decode cX2_isPlain 13 = .ok (.lconst 0, 1) := by decide +kernel
theorem dX2_isPlain_14 : decode cX2_isPlain 14 = .ok (.lcmp, 1) := by decide +kernel
theorem dX2_isPlain_15 : decode cX2_isPlain 15 = .ok (.ifCond .eq 28, 3) := by decide +kernel
theorem dX2_isPlain_18 : decode cX2_isPlain 18 = .ok (.lload_n 2, 1) := by decide +kernel
theorem dX2_isPlain_19 : decode cX2_isPlain 19 = .ok (.l2i, 1) := by decide +kernel
theorem dX2_isPlain_20 : decode cX2_isPlain 20 = .ok (.sipush 255, 3) := by decide +kernel
theorem dX2_isPlain_23 : decode cX2_isPlain 23 = .ok (.iand, 1) := by decide +kernel
theorem dX2_isPlain_24 : decode cX2_isPlain 24 = .ok (.invokestatic 9, 3) := by decide +kernel
theorem dX2_isPlain_27 : decode cX2_isPlain 27 = .ok (.ifCond .ne 5, 3) := by decide +kernel
theorem dX2_isPlain_30 : decode cX2_isPlain 30 = .ok (.iconst 0, 1) := by decide +kernel
theorem dX2_isPlain_31 : decode cX2_isPlain 31 = .ok (.ireturn, 1) := by decide +kernel
theorem dX2_isPlain_32 : decode cX2_isPlain 32 = .ok (.lload_n 2, 1) := by decide +kernel
theorem dX2_isPlain_33 : decode cX2_isPlain 33 = .ok (.bipush 8, 2) := by decide +kernel
theorem dX2_isPlain_35 : decode cX2_isPlain 35 = .ok (.lushr, 1) := by decide +kernel
theorem dX2_isPlain_36 : decode cX2_isPlain 36 = .ok (.lstore_n 2, 1) := by decide +kernel
theorem dX2_isPlain_37 : decode cX2_isPlain 37 = .ok (.iinc 4 1, 3) := by decide +kernel
theorem dX2_isPlain_40 : decode cX2_isPlain 40 = .ok (.goto (-35), 3) := by decide +kernel
theorem dX2_isPlain_43 : decode cX2_isPlain 43 = .ok (.lload_n 0, 1) := by decide +kernel
theorem dX2_isPlain_44 : decode cX2_isPlain 44 = .ok (.lconst 0, 1) := by decide +kernel
theorem dX2_isPlain_45 : decode cX2_isPlain 45 = .ok (.lcmp, 1) := by decide +kernel
theorem dX2_isPlain_46 : decode cX2_isPlain 46 = .ok (.ifCond .eq 7, 3) := by decide +kernel
theorem dX2_isPlain_49 : decode cX2_isPlain 49 = .ok (.iconst 1, 1) := by decide +kernel
theorem dX2_isPlain_50 : decode cX2_isPlain 50 = .ok (.goto 4, 3) := by decide +kernel
theorem dX2_isPlain_53 : decode cX2_isPlain 53 = .ok (.iconst 0, 1) := by decide +kernel
theorem dX2_isPlain_54 : decode cX2_isPlain 54 = .ok (.ireturn, 1) := by decide +kernel
theorem dX2_moveAhead_0 : decode cX2_moveAhead 0 = .ok (.lload_n 0, 1) := by decide +kernel
theorem dX2_moveAhead_1 : decode cX2_moveAhead 1 = .ok (.lstore_n 2, 1) := by decide +kernel
theorem dX2_moveAhead_2 : decode cX2_moveAhead 2 = .ok (.iconst 0, 1) := by decide +kernel
theorem dX2_moveAhead_3 : decode cX2_moveAhead 3 = .ok (.istore 4, 2) := by decide +kernel
theorem dX2_moveAhead_5 : decode cX2_moveAhead 5 = .ok (.iload 4, 2) := by decide +kernel
theorem dX2_moveAhead_7 : decode cX2_moveAhead 7 = .ok (.bipush 8, 2) := by decide +kernel
theorem dX2_moveAhead_9 : decode cX2_moveAhead 9 = .ok (.if_icmp .ge 23, 3) := by decide +kernel
theorem dX2_moveAhead_12 : decode cX2_moveAhead 12 = .ok (.lload_n 2, 1) := by decide +kernel
theorem dX2_moveAhead_13 : decode cX2_moveAhead 13 = .ok (.bipush 56, 2) := by decide +kernel
theorem dX2_moveAhead_15 : decode cX2_moveAhead 15 = .ok (.lushr, 1) := by decide +kernel
theorem dX2_moveAhead_16 : decode cX2_moveAhead 16 = .ok (.lconst 0, 1) := by decide +kernel
theorem dX2_moveAhead_17 : decode cX2_moveAhead 17 = .ok (.lcmp, 1) := by decide +kernel
theorem dX2_moveAhead_18 : decode cX2_moveAhead 18 = .ok (.ifCond .ne 14, 3) := by decide +kernel
theorem dX2_moveAhead_21 : decode cX2_moveAhead 21 = .ok (.lload_n 2, 1) := by decide +kernel
theorem dX2_moveAhead_22 : decode cX2_moveAhead 22 = .ok (.bipush 8, 2) := by decide +kernel
theorem dX2_moveAhead_24 : decode cX2_moveAhead 24 = .ok (.lshl, 1) := by decide +kernel
theorem dX2_moveAhead_25 : decode cX2_moveAhead 25 = .ok (.lstore_n 2, 1) := by decide +kernel
theorem dX2_moveAhead_26 : decode cX2_moveAhead 26 = .ok (.iinc 4 1, 3) := by decide +kernel
theorem dX2_moveAhead_29 : decode cX2_moveAhead 29 = .ok (.goto (-24), 3) := by decide +kernel
theorem dX2_moveAhead_32 : decode cX2_moveAhead 32 = .ok (.lload_n 2, 1) := by decide +kernel
theorem dX2_moveAhead_33 : decode cX2_moveAhead 33 = .ok (.lreturn, 1) := by decide +kernel
theorem dX2_lengthOf_0 : decode cX2_lengthOf 0 = .ok (.iconst 0, 1) := by decide +kernel
theorem dX2_lengthOf_1 : decode cX2_lengthOf 1 = .ok (.istore_n 2, 1) := by decide +kernel
theorem dX2_lengthOf_2 : decode cX2_lengthOf 2 = .ok (.iload_n 2, 1) := by decide +kernel
theorem dX2_lengthOf_3 : decode cX2_lengthOf 3 = .ok (.bipush 8, 2) := by decide +kernel
theorem dX2_lengthOf_5 : decode cX2_lengthOf 5 = .ok (.if_icmp .ge 17, 3) := by decide +kernel
theorem dX2_lengthOf_8 : decode cX2_lengthOf 8 = .ok (.lload_n 0, 1) := by decide +kernel
theorem dX2_lengthOf_9 : decode cX2_lengthOf 9 = .ok (.iload_n 2, 1) := by decide +kernel
theorem dX2_lengthOf_10 : decode cX2_lengthOf 10 = .ok (.invokestatic 15, 3) := by decide +kernel
theorem dX2_lengthOf_13 : decode cX2_lengthOf 13 = .ok (.ifCond .eq 9, 3) := by decide +kernel
theorem dX2_lengthOf_16 : decode cX2_lengthOf 16 = .ok (.iinc 2 1, 3) := by decide +kernel
theorem dX2_lengthOf_19 : decode cX2_lengthOf 19 = .ok (.goto (-17), 3) := by decide +kernel
theorem dX2_lengthOf_22 : decode cX2_lengthOf 22 = .ok (.iload_n 2, 1) := by decide +kernel
theorem dX2_lengthOf_23 : decode cX2_lengthOf 23 = .ok (.ireturn, 1) := by decide +kernel
theorem dX3_init_0 : decode cX3_init 0 = .ok (.aload_n 0, 1) := by decide +kernel
theorem dX3_init_1 : decode cX3_init 1 = .ok (.invokespecial 3, 3) := by decide +kernel
theorem dX3_init_4 : decode cX3_init 4 = .ok (.aload_n 0, 1) := by decide +kernel
theorem dX3_init_5 : decode cX3_init 5 = .ok (.bipush 9, 2) := by decide +kernel
theorem dX3_init_7 : decode cX3_init 7 = .ok (.newarray .int, 2) := by decide +kernel
theorem dX3_init_9 : decode cX3_init 9 = .ok (.putfield 9, 3) := by decide +kernel
theorem dX3_init_12 : decode cX3_init 12 = .ok (.return_, 1) := by decide +kernel
theorem dX3_isFor_0 : decode cX3_isFor 0 = .ok (.aload_n 1, 1) := by decide +kernel
theorem dX3_isFor_1 : decode cX3_isFor 1 = .ok (.getfield 15, 3) := by decide +kernel
theorem dX3_isFor_4 : decode cX3_isFor 4 = .ok (.iconst 2, 1) := by decide +kernel
theorem dX3_isFor_5 : decode cX3_isFor 5 = .ok (.if_icmp .ne 9, 3) := by decide +kernel
theorem dX3_isFor_8 : decode cX3_isFor 8 = .ok (.aload_n 1, 1) := by decide +kernel
theorem dX3_isFor_9 : decode cX3_isFor 9 = .ok (.lload_n 2, 1) := by decide +kernel
theorem dX3_isFor_10 : decode cX3_isFor 10 = .ok (.invokestatic 21, 3) := by decide +kernel
theorem dX3_isFor_13 : decode cX3_isFor 13 = .ok (.ireturn, 1) := by decide +kernel
theorem dX3_isFor_14 : decode cX3_isFor 14 = .ok (.aload_n 1, 1) := by decide +kernel
theorem dX3_isFor_15 : decode cX3_isFor 15 = .ok (.getfield 25, 3) := by decide +kernel
theorem dX3_isFor_18 : decode cX3_isFor 18 = .ok (.ifCond .le 28, 3) := by decide +kernel
theorem dX3_isFor_21 : decode cX3_isFor 21 = .ok (.aload_n 0, 1) := by decide +kernel
theorem dX3_isFor_22 : decode cX3_isFor 22 = .ok (.aload_n 1, 1) := by decide +kernel
theorem dX3_isFor_23 : decode cX3_isFor 23 = .ok (.iconst 0, 1) := by decide +kernel
theorem dX3_isFor_24 : decode cX3_isFor 24 = .ok (.invokevirtual 28, 3) := by decide +kernel
theorem dX3_isFor_27 : decode cX3_isFor 27 = .ok (.lload_n 2, 1) := by decide +kernel
theorem dX3_isFor_28 : decode cX3_isFor 28 = .ok (.invokevirtual 32, 3) := by decide +kernel
theorem dX3_isFor_31 : decode cX3_isFor 31 = .ok (.aload_n 1, 1) := by decide +kernel
theorem dX3_isFor_32 : decode cX3_isFor 32 = .ok (.getfield 25, 3) := by decide +kernel
theorem dX3_isFor_35 : decode cX3_isFor 35 = .ok (.if_icmp .gt 7, 3) := by decide +kernel
theorem dX3_isFor_38 : decode cX3_isFor 38 = .ok (.iconst 1, 1) := by decide +kernel
theorem dX3_isFor_39 : decode cX3_isFor 39 = .ok (.goto 16, 3) := by decide +kernel
theorem dX3_isFor_42 : decode cX3_isFor 42 = .ok (.iconst 0, 1) := by decide +kernel
theorem dX3_isFor_43 : decode cX3_isFor 43 = .ok (.goto 12, 3) := by decide +kernel
theorem dX3_isFor_46 : decode cX3_isFor 46 = .ok (.aload_n 1, 1) := by decide +kernel
theorem dX3_isFor_47 : decode cX3_isFor 47 = .ok (.iconst 0, 1) := by decide +kernel
theorem dX3_isFor_48 : decode cX3_isFor 48 = .ok (.invokevirtual 28, 3) := by decide +kernel
theorem dX3_isFor_51 : decode cX3_isFor 51 = .ok (.lload_n 2, 1) := by decide +kernel
theorem dX3_isFor_52 : decode cX3_isFor 52 = .ok (.invokestatic 36, 3) := by decide +kernel
theorem dX3_isFor_55 : decode cX3_isFor 55 = .ok (.ireturn, 1) := by decide +kernel
theorem dX3_isWithin_0 : decode cX3_isWithin 0 = .ok (.aload_n 0, 1) := by decide +kernel
theorem dX3_isWithin_1 : decode cX3_isWithin 1 = .ok (.iconst 0, 1) := by decide +kernel
theorem dX3_isWithin_2 : decode cX3_isWithin 2 = .ok (.invokevirtual 28, 3) := by decide +kernel
theorem dX3_isWithin_5 : decode cX3_isWithin 5 = .ok (.lstore_n 3, 1) := by decide +kernel
theorem dX3_isWithin_6 : decode cX3_isWithin 6 = .ok (.aload_n 0, 1) := by decide +kernel
theorem dX3_isWithin_7 : decode cX3_isWithin 7 = .ok (.iconst 1, 1) := by decide +kernel
theorem dX3_isWithin_8 : decode cX3_isWithin 8 = .ok (.invokevirtual 28, 3) := by decide +kernel
theorem dX3_isWithin_11 : decode cX3_isWithin 11 = .ok (.lstore 5, 2) := by decide +kernel
theorem dX3_isWithin_13 : decode cX3_isWithin 13 = .ok (.aload_n 0, 1) := by decide +kernel
theorem dX3_isWithin_14 : decode cX3_isWithin 14 = .ok (.getfield 25, 3) := by decide +kernel
theorem dX3_isWithin_17 : decode cX3_isWithin 17 = .ok (.iconst 1, 1) := by decide +kernel
theorem dX3_isWithin_18 : decode cX3_isWithin 18 = .ok (.if_icmp .ne 24, 3) := by decide +kernel
theorem dX3_isWithin_21 : decode cX3_isWithin 21 = .ok (.lload_n 3, 1) := by decide +kernel
theorem dX3_isWithin_22 : decode cX3_isWithin 22 = .ok (.lload_n 1, 1) := by decide +kernel
theorem dX3_isWithin_23 : decode cX3_isWithin 23 = .ok (.lcmp, 1) := by decide +kernel
theorem dX3_isWithin_24 : decode cX3_isWithin 24 = .ok (.ifCond .ge 14, 3) := by decide +kernel
theorem dX3_isWithin_27 : decode cX3_isWithin 27 = .ok (.lload_n 1, 1) := by decide +kernel
theorem dX3_isWithin_28 : decode cX3_isWithin 28 = .ok (.lload 5, 2) := by decide +kernel
theorem dX3_isWithin_30 : decode cX3_isWithin 30 = .ok (.lcmp, 1) := by decide +kernel
theorem dX3_isWithin_31 : decode cX3_isWithin 31 = .ok (.ifCond .ge 7, 3) := by decide +kernel
theorem dX3_isWithin_34 : decode cX3_isWithin 34 = .ok (.iconst 1, 1) := by decide +kernel
theorem dX3_isWithin_35 : decode cX3_isWithin 35 = .ok (.goto 25, 3) := by decide +kernel
theorem dX3_isWithin_38 : decode cX3_isWithin 38 = .ok (.iconst 0, 1) := by decide +kernel
theorem dX3_isWithin_39 : decode cX3_isWithin 39 = .ok (.goto 21, 3) := by decide +kernel
theorem dX3_isWithin_42 : decode cX3_isWithin 42 = .ok (.lload_n 3, 1) := by decide +kernel
theorem dX3_isWithin_43 : decode cX3_isWithin 43 = .ok (.lload_n 1, 1) := by decide +kernel
theorem dX3_isWithin_44 : decode cX3_isWithin 44 = .ok (.lcmp, 1) := by decide +kernel
theorem dX3_isWithin_45 : decode cX3_isWithin 45 = .ok (.ifCond .gt 14, 3) := by decide +kernel
theorem dX3_isWithin_48 : decode cX3_isWithin 48 = .ok (.lload_n 1, 1) := by decide +kernel
theorem dX3_isWithin_49 : decode cX3_isWithin 49 = .ok (.lload 5, 2) := by decide +kernel
theorem dX3_isWithin_51 : decode cX3_isWithin 51 = .ok (.lcmp, 1) := by decide +kernel
theorem dX3_isWithin_52 : decode cX3_isWithin 52 = .ok (.ifCond .gt 7, 3) := by decide +kernel
theorem dX3_isWithin_55 : decode cX3_isWithin 55 = .ok (.iconst 1, 1) := by decide +kernel
theorem dX3_isWithin_56 : decode cX3_isWithin 56 = .ok (.goto 4, 3) := by decide +kernel
theorem dX3_isWithin_59 : decode cX3_isWithin 59 = .ok (.iconst 0, 1) := by decide +kernel
theorem dX3_isWithin_60 : decode cX3_isWithin 60 = .ok (.ireturn, 1) := by decide +kernel
theorem dX3_changes_0 : decode cX3_changes 0 = .ok (.lload_n 1, 1) := by decide +kernel
theorem dX3_changes_1 : decode cX3_changes 1 = .ok (.invokestatic 40, 3) := by decide +kernel
theorem dX3_changes_4 : decode cX3_changes 4 = .ok (.istore 5, 2) := by decide +kernel
theorem dX3_changes_6 : decode cX3_changes 6 = .ok (.lload_n 3, 1) := by decide +kernel
theorem dX3_changes_7 : decode cX3_changes 7 = .ok (.invokestatic 40, 3) := by decide +kernel
theorem dX3_changes_10 : decode cX3_changes 10 = .ok (.istore 6, 2) := by decide +kernel
theorem dX3_changes_12 : decode cX3_changes 12 = .ok (.iconst 0, 1) := by decide +kernel
theorem dX3_changes_13 : decode cX3_changes 13 = .ok (.istore 7, 2) := by decide +kernel
theorem dX3_changes_15 : decode cX3_changes 15 = .ok (.iload 7, 2) := by decide +kernel
theorem dX3_changes_17 : decode cX3_changes 17 = .ok (.iload 6, 2) := by decide +kernel
theorem dX3_changes_19 : decode cX3_changes 19 = .ok (.if_icmp .gt 28, 3) := by decide +kernel
theorem dX3_changes_22 : decode cX3_changes 22 = .ok (.iload 7, 2) := by decide +kernel
theorem dX3_changes_24 : decode cX3_changes 24 = .ok (.aload_n 0, 1) := by decide +kernel
theorem dX3_changes_25 : decode cX3_changes 25 = .ok (.getfield 9, 3) := by decide +kernel
theorem dX3_changes_28 : decode cX3_changes 28 = .ok (.arraylength, 1) := by decide +kernel
theorem dX3_changes_29 : decode cX3_changes 29 = .ok (.if_icmp .ge 18, 3) := by decide +kernel
theorem dX3_changes_32 : decode cX3_changes 32 = .ok (.aload_n 0, 1) := by decide +kernel
theorem dX3_changes_33 : decode cX3_changes 33 = .ok (.getfield 9, 3) := by decide +kernel
theorem dX3_changes_36 : decode cX3_changes 36 = .ok (.iload 7, 2) := by decide +kernel
theorem dX3_changes_38 : decode cX3_changes 38 = .ok (.iload 7, 2) := by decide +kernel
theorem dX3_changes_40 : decode cX3_changes 40 = .ok (.iastore, 1) := by decide +kernel
theorem dX3_changes_41 : decode cX3_changes 41 = .ok (.iinc 7 1, 3) := by decide +kernel
theorem dX3_changes_44 : decode cX3_changes 44 = .ok (.goto (-29), 3) := by decide +kernel
theorem dX3_changes_47 : decode cX3_changes 47 = .ok (.iconst 1, 1) := by decide +kernel
theorem dX3_changes_48 : decode cX3_changes 48 = .ok (.istore 7, 2) := by decide +kernel
theorem dX3_changes_50 : decode cX3_changes 50 = .ok (.iload 7, 2) := by decide +kernel
theorem dX3_changes_52 : decode cX3_changes 52 = .ok (.iload 5, 2) := by decide +kernel
theorem dX3_changes_54 : decode cX3_changes 54 = .ok (.if_icmp .gt 126, 3) := by decide +kernel
theorem dX3_changes_57 : decode cX3_changes 57 = .ok (.aload_n 0, 1) := by decide +kernel
theorem dX3_changes_58 : decode cX3_changes 58 = .ok (.getfield 9, 3) := by decide +kernel
theorem dX3_changes_61 : decode cX3_changes 61 = .ok (.iconst 0, 1) := by decide +kernel
theorem dX3_changes_62 : decode cX3_changes 62 = .ok (.iaload, 1) := by decide +kernel
theorem dX3_changes_63 : decode cX3_changes 63 = .ok (.istore 8, 2) := by decide +kernel
theorem dX3_changes_65 : decode cX3_changes 65 = .ok (.aload_n 0, 1) := by decide +kernel
theorem dX3_changes_66 : decode cX3_changes 66 = .ok (.getfield 9, 3) := by decide +kernel
theorem dX3_changes_69 : decode cX3_changes 69 = .ok (.iconst 0, 1) := by decide +kernel
theorem dX3_changes_70 : decode cX3_changes 70 = .ok (.iload 7, 2) := by decide +kernel
theorem dX3_changes_72 : decode cX3_changes 72 = .ok (.iastore, 1) := by decide +kernel
theorem dX3_changes_73 : decode cX3_changes 73 = .ok (.iconst 1, 1) := by decide +kernel
theorem dX3_changes_74 : decode cX3_changes 74 = .ok (.istore 9, 2) := by decide +kernel
theorem dX3_changes_76 : decode cX3_changes 76 = .ok (.iload 9, 2) := by decide +kernel
theorem dX3_changes_78 : decode cX3_changes 78 = .ok (.iload 6, 2) := by decide +kernel
theorem dX3_changes_80 : decode cX3_changes 80 = .ok (.if_icmp .gt 94, 3) := by decide +kernel
theorem dX3_changes_83 : decode cX3_changes 83 = .ok (.iload 9, 2) := by decide +kernel
theorem dX3_changes_85 : decode cX3_changes 85 = .ok (.aload_n 0, 1) := by decide +kernel
theorem dX3_changes_86 : decode cX3_changes 86 = .ok (.getfield 9, 3) := by decide +kernel
theorem dX3_changes_89 : decode cX3_changes 89 = .ok (.arraylength, 1) := by decide +kernel
theorem dX3_changes_90 : decode cX3_changes 90 = .ok (.if_icmp .ge 84, 3) := by decide +kernel
theorem dX3_changes_93 : decode cX3_changes 93 = .ok (.lload_n 1, 1) := by decide +kernel
theorem dX3_changes_94 : decode cX3_changes 94 = .ok (.iload 7, 2) := by decide +kernel
theorem dX3_changes_96 : decode cX3_changes 96 = .ok (.iconst 1, 1) := by decide +kernel
theorem dX3_changes_97 : decode cX3_changes 97 = .ok (.isub, 1) := by decide +kernel
theorem dX3_changes_98 : decode cX3_changes 98 = .ok (.invokestatic 46, 3) := by decide +kernel
theorem dX3_changes_101 : decode cX3_changes 101 = .ok (.lload_n 3, 1) := by decide +kernel
theorem dX3_changes_102 : decode cX3_changes 102 = .ok (.iload 9, 2) := by decide +kernel
theorem dX3_changes_104 : decode cX3_changes 104 = .ok (.iconst 1, 1) := by decide +kernel
theorem dX3_changes_105 : decode cX3_changes 105 = .ok (.isub, 1) := by decide +kernel
theorem dX3_changes_106 : decode cX3_changes 106 = .ok (.invokestatic 46, 3) := by decide +kernel
theorem dX3_changes_109 : decode cX3_changes 109 = .ok (.if_icmp .ne 7, 3) := by decide +kernel
theorem dX3_changes_112 : decode cX3_changes 112 = .ok (.iconst 0, 1) := by decide +kernel
theorem dX3_changes_113 : decode cX3_changes 113 = .ok (.goto 4, 3) := by decide +kernel
theorem dX3_changes_116 : decode cX3_changes 116 = .ok (.iconst 1, 1) := by decide +kernel
theorem dX3_changes_117 : decode cX3_changes 117 = .ok (.istore 10, 2) := by decide +kernel
theorem dX3_changes_119 : decode cX3_changes 119 = .ok (.iload 8, 2) := by decide +kernel
theorem dX3_changes_121 : decode cX3_changes 121 = .ok (.iload 10, 2) := by decide +kernel
theorem dX3_changes_123 : decode cX3_changes 123 = .ok (.iadd, 1) := by decide +kernel
theorem dX3_changes_124 : decode cX3_changes 124 = .ok (.aload_n 0, 1) := by decide +kernel
theorem dX3_changes_125 : decode cX3_changes 125 = .ok (.getfield 9, 3) := by decide +kernel
theorem dX3_changes_128 : decode cX3_changes 128 = .ok (.iload 9, 2) := by decide +kernel
theorem dX3_changes_130 : decode cX3_changes 130 = .ok (.iaload, 1) := by decide +kernel
theorem dX3_changes_131 : decode cX3_changes 131 = .ok (.aload_n 0, 1) := by decide +kernel
theorem dX3_changes_132 : decode cX3_changes 132 = .ok (.getfield 9, 3) := by decide +kernel
theorem dX3_changes_135 : decode cX3_changes 135 = .ok (.iload 9, 2) := by decide +kernel
theorem dX3_changes_137 : decode cX3_changes 137 = .ok (.iconst 1, 1) := by decide +kernel
theorem dX3_changes_138 : decode cX3_changes 138 = .ok (.isub, 1) := by decide +kernel
theorem dX3_changes_139 : decode cX3_changes 139 = .ok (.iaload, 1) := by decide +kernel
theorem dX3_changes_140 : decode cX3_changes 140 = .ok (.invokestatic 50, 3) := by decide +kernel
theorem dX3_changes_143 : decode cX3_changes 143 = .ok (.iconst 1, 1) := by decide +kernel
theorem dX3_changes_144 : decode cX3_changes 144 = .ok (.iadd, 1) := by decide +kernel
theorem dX3_changes_145 : decode cX3_changes 145 = .ok (.invokestatic 50, 3) := by decide +kernel
theorem dX3_changes_148 : decode cX3_changes 148 = .ok (.istore 11, 2) := by decide +kernel
theorem dX3_changes_150 : decode cX3_changes 150 = .ok (.aload_n 0, 1) := by decide +kernel
theorem dX3_changes_151 : decode cX3_changes 151 = .ok (.getfield 9, 3) := by decide +kernel
theorem dX3_changes_154 : decode cX3_changes 154 = .ok (.iload 9, 2) := by decide +kernel
theorem dX3_changes_156 : decode cX3_changes 156 = .ok (.iaload, 1) := by decide +kernel
theorem dX3_changes_157 : decode cX3_changes 157 = .ok (.istore 8, 2) := by decide +kernel
theorem dX3_changes_159 : decode cX3_changes 159 = .ok (.aload_n 0, 1) := by decide +kernel
theorem dX3_changes_160 : decode cX3_changes 160 = .ok (.getfield 9, 3) := by decide +kernel
theorem dX3_changes_163 : decode cX3_changes 163 = .ok (.iload 9, 2) := by decide +kernel
theorem dX3_changes_165 : decode cX3_changes 165 = .ok (.iload 11, 2) := by decide +kernel
theorem dX3_changes_167 : decode cX3_changes 167 = .ok (.iastore, 1) := by decide +kernel
theorem dX3_changes_168 : decode cX3_changes 168 = .ok (.iinc 9 1, 3) := by decide +kernel
theorem dX3_changes_171 : decode cX3_changes 171 = .ok (.goto (-95), 3) := by decide +kernel
theorem dX3_changes_174 : decode cX3_changes 174 = .ok (.iinc 7 1, 3) := by decide +kernel
theorem dX3_changes_177 : decode cX3_changes 177 = .ok (.goto (-127), 3) := by decide +kernel
theorem dX3_changes_180 : decode cX3_changes 180 = .ok (.iload 6, 2) := by decide +kernel
theorem dX3_changes_182 : decode cX3_changes 182 = .ok (.aload_n 0, 1) := by decide +kernel
theorem dX3_changes_183 : decode cX3_changes 183 = .ok (.getfield 9, 3) := by decide +kernel
theorem dX3_changes_186 : decode cX3_changes 186 = .ok (.arraylength, 1) := by decide +kernel
theorem dX3_changes_187 : decode cX3_changes 187 = .ok (.if_icmp .ge 13, 3) := by decide +kernel
theorem dX3_changes_190 : decode cX3_changes 190 = .ok (.aload_n 0, 1) := by decide +kernel
theorem dX3_changes_191 : decode cX3_changes 191 = .ok (.getfield 9, 3) := by decide +kernel
theorem dX3_changes_194 : decode cX3_changes 194 = .ok (.iload 6, 2) := by decide +kernel
theorem dX3_changes_196 : decode cX3_changes 196 = .ok (.iaload, 1) := by decide +kernel
theorem dX3_changes_197 : decode cX3_changes 197 = .ok (.goto 8, 3) := by decide +kernel
theorem dX3_changes_200 : decode cX3_changes 200 = .ok (.aload_n 0, 1) := by decide +kernel
theorem dX3_changes_201 : decode cX3_changes 201 = .ok (.getfield 9, 3) := by decide +kernel
theorem dX3_changes_204 : decode cX3_changes 204 = .ok (.arraylength, 1) := by decide +kernel
theorem dX3_changes_205 : decode cX3_changes 205 = .ok (.ireturn, 1) := by decide +kernel
theorem dX3_hasSigns_0 : decode cX3_hasSigns 0 = .ok (.lload_n 2, 1) := by decide +kernel
theorem dX3_hasSigns_1 : decode cX3_hasSigns 1 = .ok (.invokestatic 40, 3) := by decide +kernel
theorem dX3_hasSigns_4 : decode cX3_hasSigns 4 = .ok (.istore 4, 2) := by decide +kernel
theorem dX3_hasSigns_6 : decode cX3_hasSigns 6 = .ok (.iconst 1, 1) := by decide +kernel
theorem dX3_hasSigns_7 : decode cX3_hasSigns 7 = .ok (.iload 4, 2) := by decide +kernel
theorem dX3_hasSigns_9 : decode cX3_hasSigns 9 = .ok (.iconst 1, 1) := by decide +kernel
theorem dX3_hasSigns_10 : decode cX3_hasSigns 10 = .ok (.iadd, 1) := by decide +kernel
theorem dX3_hasSigns_11 : decode cX3_hasSigns 11 = .ok (.ishl, 1) := by decide +kernel
theorem dX3_hasSigns_12 : decode cX3_hasSigns 12 = .ok (.iconst 1, 1) := by decide +kernel
theorem dX3_hasSigns_13 : decode cX3_hasSigns 13 = .ok (.isub, 1) := by decide +kernel
theorem dX3_hasSigns_14 : decode cX3_hasSigns 14 = .ok (.istore 5, 2) := by decide +kernel
theorem dX3_hasSigns_16 : decode cX3_hasSigns 16 = .ok (.lload_n 0, 1) := by decide +kernel
theorem dX3_hasSigns_17 : decode cX3_hasSigns 17 = .ok (.invokestatic 40, 3) := by decide +kernel
theorem dX3_hasSigns_20 : decode cX3_hasSigns 20 = .ok (.istore 6, 2) := by decide +kernel
theorem dX3_hasSigns_22 : decode cX3_hasSigns 22 = .ok (.iconst 1, 1) := by decide +kernel
theorem dX3_hasSigns_23 : decode cX3_hasSigns 23 = .ok (.istore 7, 2) := by decide +kernel
theorem dX3_hasSigns_25 : decode cX3_hasSigns 25 = .ok (.iconst 0, 1) := by decide +kernel
theorem dX3_hasSigns_26 : decode cX3_hasSigns 26 = .ok (.istore 8, 2) := by decide +kernel
theorem dX3_hasSigns_28 : decode cX3_hasSigns 28 = .ok (.iload 8, 2) := by decide +kernel
theorem dX3_hasSigns_30 : decode cX3_hasSigns 30 = .ok (.iload 6, 2) := by decide +kernel
theorem dX3_hasSigns_32 : decode cX3_hasSigns 32 = .ok (.if_icmp .ge 53, 3) := by decide +kernel
theorem dX3_hasSigns_35 : decode cX3_hasSigns 35 = .ok (.lload_n 0, 1) := by decide +kernel
theorem dX3_hasSigns_36 : decode cX3_hasSigns 36 = .ok (.iload 8, 2) := by decide +kernel
theorem dX3_hasSigns_38 : decode cX3_hasSigns 38 = .ok (.invokestatic 46, 3) := by decide +kernel
theorem dX3_hasSigns_41 : decode cX3_hasSigns 41 = .ok (.istore 9, 2) := by decide +kernel
theorem dX3_hasSigns_43 : decode cX3_hasSigns 43 = .ok (.iload 9, 2) := by decide +kernel
theorem dX3_hasSigns_45 : decode cX3_hasSigns 45 = .ok (.bipush 42, 2) := by decide +kernel
theorem dX3_hasSigns_47 : decode cX3_hasSigns 47 = .ok (.if_icmp .ne 17, 3) := by decide +kernel
theorem dX3_hasSigns_50 : decode cX3_hasSigns 50 = .ok (.iload 7, 2) := by decide +kernel
theorem dX3_hasSigns_52 : decode cX3_hasSigns 52 = .ok (.iload 7, 2) := by decide +kernel
theorem dX3_hasSigns_54 : decode cX3_hasSigns 54 = .ok (.ineg, 1) := by decide +kernel
theorem dX3_hasSigns_55 : decode cX3_hasSigns 55 = .ok (.ior, 1) := by decide +kernel
theorem dX3_hasSigns_56 : decode cX3_hasSigns 56 = .ok (.iload 5, 2) := by decide +kernel
theorem dX3_hasSigns_58 : decode cX3_hasSigns 58 = .ok (.iand, 1) := by decide +kernel
theorem dX3_hasSigns_59 : decode cX3_hasSigns 59 = .ok (.istore 7, 2) := by decide +kernel
theorem dX3_hasSigns_61 : decode cX3_hasSigns 61 = .ok (.goto 18, 3) := by decide +kernel
theorem dX3_hasSigns_64 : decode cX3_hasSigns 64 = .ok (.iload 7, 2) := by decide +kernel
theorem dX3_hasSigns_66 : decode cX3_hasSigns 66 = .ok (.iload 9, 2) := by decide +kernel
theorem dX3_hasSigns_68 : decode cX3_hasSigns 68 = .ok (.lload_n 2, 1) := by decide +kernel
theorem dX3_hasSigns_69 : decode cX3_hasSigns 69 = .ok (.iload 4, 2) := by decide +kernel
theorem dX3_hasSigns_71 : decode cX3_hasSigns 71 = .ok (.invokestatic 56, 3) := by decide +kernel
theorem dX3_hasSigns_74 : decode cX3_hasSigns 74 = .ok (.iand, 1) := by decide +kernel
theorem dX3_hasSigns_75 : decode cX3_hasSigns 75 = .ok (.iconst 1, 1) := by decide +kernel
theorem dX3_hasSigns_76 : decode cX3_hasSigns 76 = .ok (.ishl, 1) := by decide +kernel
theorem dX3_hasSigns_77 : decode cX3_hasSigns 77 = .ok (.istore 7, 2) := by decide +kernel
theorem dX3_hasSigns_79 : decode cX3_hasSigns 79 = .ok (.iinc 8 1, 3) := by decide +kernel
theorem dX3_hasSigns_82 : decode cX3_hasSigns 82 = .ok (.goto (-54), 3) := by decide +kernel
theorem dX3_hasSigns_85 : decode cX3_hasSigns 85 = .ok (.iload 7, 2) := by decide +kernel
theorem dX3_hasSigns_87 : decode cX3_hasSigns 87 = .ok (.iload 4, 2) := by decide +kernel
theorem dX3_hasSigns_89 : decode cX3_hasSigns 89 = .ok (.ishr, 1) := by decide +kernel
theorem dX3_hasSigns_90 : decode cX3_hasSigns 90 = .ok (.iconst 1, 1) := by decide +kernel
theorem dX3_hasSigns_91 : decode cX3_hasSigns 91 = .ok (.iand, 1) := by decide +kernel
theorem dX3_hasSigns_92 : decode cX3_hasSigns 92 = .ok (.iconst 1, 1) := by decide +kernel
theorem dX3_hasSigns_93 : decode cX3_hasSigns 93 = .ok (.if_icmp .ne 7, 3) := by decide +kernel
theorem dX3_hasSigns_96 : decode cX3_hasSigns 96 = .ok (.iconst 1, 1) := by decide +kernel
theorem dX3_hasSigns_97 : decode cX3_hasSigns 97 = .ok (.goto 4, 3) := by decide +kernel
theorem dX3_hasSigns_100 : decode cX3_hasSigns 100 = .ok (.iconst 0, 1) := by decide +kernel
theorem dX3_hasSigns_101 : decode cX3_hasSigns 101 = .ok (.ireturn, 1) := by decide +kernel
theorem dX3_placesOf_0 : decode cX3_placesOf 0 = .ok (.iconst 0, 1) := by decide +kernel
theorem dX3_placesOf_1 : decode cX3_placesOf 1 = .ok (.istore 4, 2) := by decide +kernel
theorem dX3_placesOf_3 : decode cX3_placesOf 3 = .ok (.iconst 0, 1) := by decide +kernel
theorem dX3_placesOf_4 : decode cX3_placesOf 4 = .ok (.istore 5, 2) := by decide +kernel
theorem dX3_placesOf_6 : decode cX3_placesOf 6 = .ok (.iload 5, 2) := by decide +kernel
theorem dX3_placesOf_8 : decode cX3_placesOf 8 = .ok (.iload_n 3, 1) := by decide +kernel
theorem dX3_placesOf_9 : decode cX3_placesOf 9 = .ok (.if_icmp .ge 34, 3) := by decide +kernel
theorem dX3_placesOf_12 : decode cX3_placesOf 12 = .ok (.iload_n 0, 1) := by decide +kernel
theorem dX3_placesOf_13 : decode cX3_placesOf 13 = .ok (.bipush 63, 2) := by decide +kernel
theorem dX3_placesOf_15 : decode cX3_placesOf 15 = .ok (.if_icmp .eq 13, 3) := by decide +kernel
theorem dX3_placesOf_18 : decode cX3_placesOf 18 = .ok (.iload_n 0, 1) := by decide +kernel
theorem dX3_placesOf_19 : decode cX3_placesOf 19 = .ok (.lload_n 1, 1) := by decide +kernel
theorem dX3_placesOf_20 : decode cX3_placesOf 20 = .ok (.iload 5, 2) := by decide +kernel
theorem dX3_placesOf_22 : decode cX3_placesOf 22 = .ok (.invokestatic 46, 3) := by decide +kernel
theorem dX3_placesOf_25 : decode cX3_placesOf 25 = .ok (.if_icmp .ne 12, 3) := by decide +kernel
theorem dX3_placesOf_28 : decode cX3_placesOf 28 = .ok (.iload 4, 2) := by decide +kernel
theorem dX3_placesOf_30 : decode cX3_placesOf 30 = .ok (.iconst 1, 1) := by decide +kernel
theorem dX3_placesOf_31 : decode cX3_placesOf 31 = .ok (.iload 5, 2) := by decide +kernel
theorem dX3_placesOf_33 : decode cX3_placesOf 33 = .ok (.ishl, 1) := by decide +kernel
theorem dX3_placesOf_34 : decode cX3_placesOf 34 = .ok (.ior, 1) := by decide +kernel
theorem dX3_placesOf_35 : decode cX3_placesOf 35 = .ok (.istore 4, 2) := by decide +kernel
theorem dX3_placesOf_37 : decode cX3_placesOf 37 = .ok (.iinc 5 1, 3) := by decide +kernel
theorem dX3_placesOf_40 : decode cX3_placesOf 40 = .ok (.goto (-34), 3) := by decide +kernel
theorem dX3_placesOf_43 : decode cX3_placesOf 43 = .ok (.iload 4, 2) := by decide +kernel
theorem dX3_placesOf_45 : decode cX3_placesOf 45 = .ok (.ireturn, 1) := by decide +kernel
theorem dX4_init_0 : decode cX4_init 0 = .ok (.aload_n 0, 1) := by decide +kernel
theorem dX4_init_1 : decode cX4_init 1 = .ok (.invokespecial 3, 3) := by decide +kernel
theorem dX4_init_4 : decode cX4_init 4 = .ok (.aload_n 0, 1) := by decide +kernel
theorem dX4_init_5 : decode cX4_init 5 = .ok (.new 9, 3) := by decide +kernel
theorem dX4_init_8 : decode cX4_init 8 = .ok (.dup, 1) := by decide +kernel
theorem dX4_init_9 : decode cX4_init 9 = .ok (.invokespecial 11, 3) := by decide +kernel
theorem dX4_init_12 : decode cX4_init 12 = .ok (.putfield 12, 3) := by decide +kernel
theorem dX4_init_15 : decode cX4_init 15 = .ok (.aload_n 0, 1) := by decide +kernel
theorem dX4_init_16 : decode cX4_init 16 = .ok (.iconst 0, 1) := by decide +kernel
theorem dX4_init_17 : decode cX4_init 17 = .ok (.putfield 18, 3) := by decide +kernel
theorem dX4_init_20 : decode cX4_init 20 = .ok (.aload_n 0, 1) := by decide +kernel
theorem dX4_init_21 : decode cX4_init 21 = .ok (.iconst 0, 1) := by decide +kernel
theorem dX4_init_22 : decode cX4_init 22 = .ok (.putfield 22, 3) := by decide +kernel
theorem dX4_init_25 : decode cX4_init 25 = .ok (.aload_n 0, 1) := by decide +kernel
theorem dX4_init_26 : decode cX4_init 26 = .ok (.iconst 0, 1) := by decide +kernel
theorem dX4_init_27 : decode cX4_init 27 = .ok (.putfield 25, 3) := by decide +kernel
theorem dX4_init_30 : decode cX4_init 30 = .ok (.aload_n 0, 1) := by decide +kernel
theorem dX4_init_31 : decode cX4_init 31 = .ok (.new 28, 3) := by decide +kernel
theorem dX4_init_34 : decode cX4_init 34 = .ok (.dup, 1) := by decide +kernel
theorem dX4_init_35 : decode cX4_init 35 = .ok (.invokespecial 30, 3) := by decide +kernel
theorem dX4_init_38 : decode cX4_init 38 = .ok (.putfield 31, 3) := by decide +kernel
theorem dX4_init_41 : decode cX4_init 41 = .ok (.aload_n 0, 1) := by decide +kernel
theorem dX4_init_42 : decode cX4_init 42 = .ok (.iconst 0, 1) := by decide +kernel
theorem dX4_init_43 : decode cX4_init 43 = .ok (.putfield 35, 3) := by decide +kernel
theorem dX4_init_46 : decode cX4_init 46 = .ok (.aload_n 0, 1) := by decide +kernel
theorem dX4_init_47 : decode cX4_init 47 = .ok (.iconst 0, 1) := by decide +kernel
theorem dX4_init_48 : decode cX4_init 48 = .ok (.putfield 38, 3) := by decide +kernel
theorem dX4_init_51 : decode cX4_init 51 = .ok (.aload_n 0, 1) := by decide +kernel
theorem dX4_init_52 : decode cX4_init 52 = .ok (.iconst 1, 1) := by decide +kernel
theorem dX4_init_53 : decode cX4_init 53 = .ok (.putfield 41, 3) := by decide +kernel
theorem dX4_init_56 : decode cX4_init 56 = .ok (.return_, 1) := by decide +kernel
theorem dX4_begin_0 : decode cX4_begin 0 = .ok (.aload_n 0, 1) := by decide +kernel
theorem dX4_begin_1 : decode cX4_begin 1 = .ok (.getfield 12, 3) := by decide +kernel
theorem dX4_begin_4 : decode cX4_begin 4 = .ok (.invokevirtual 45, 3) := by decide +kernel
theorem dX4_begin_7 : decode cX4_begin 7 = .ok (.aload_n 0, 1) := by decide +kernel
theorem dX4_begin_8 : decode cX4_begin 8 = .ok (.iconst 0, 1) := by decide +kernel
theorem dX4_begin_9 : decode cX4_begin 9 = .ok (.putfield 18, 3) := by decide +kernel
theorem dX4_begin_12 : decode cX4_begin 12 = .ok (.aload_n 0, 1) := by decide +kernel
theorem dX4_begin_13 : decode cX4_begin 13 = .ok (.iconst 0, 1) := by decide +kernel
theorem dX4_begin_14 : decode cX4_begin 14 = .ok (.putfield 22, 3) := by decide +kernel
theorem dX4_begin_17 : decode cX4_begin 17 = .ok (.aload_n 0, 1) := by decide +kernel
theorem dX4_begin_18 : decode cX4_begin 18 = .ok (.iconst 0, 1) := by decide +kernel
theorem dX4_begin_19 : decode cX4_begin 19 = .ok (.putfield 25, 3) := by decide +kernel
theorem dX4_begin_22 : decode cX4_begin 22 = .ok (.return_, 1) := by decide +kernel
theorem dX4_exchange_0 : decode cX4_exchange 0 = .ok (.aload_n 0, 1) := by decide +kernel
theorem dX4_exchange_1 : decode cX4_exchange 1 = .ok (.getfield 12, 3) := by decide +kernel
theorem dX4_exchange_4 : decode cX4_exchange 4 = .ok (.astore_n 2, 1) := by decide +kernel
theorem dX4_exchange_5 : decode cX4_exchange 5 = .ok (.aload_n 0, 1) := by decide +kernel
theorem dX4_exchange_6 : decode cX4_exchange 6 = .ok (.aload_n 1, 1) := by decide +kernel
theorem dX4_exchange_7 : decode cX4_exchange 7 = .ok (.putfield 12, 3) := by decide +kernel
theorem dX4_exchange_10 : decode cX4_exchange 10 = .ok (.aload_n 2, 1) := by decide +kernel
theorem dX4_exchange_11 : decode cX4_exchange 11 = .ok (.areturn, 1) := by decide +kernel
theorem dX4_isWhole_0 : decode cX4_isWhole 0 = .ok (.aload_n 0, 1) := by decide +kernel
theorem dX4_isWhole_1 : decode cX4_isWhole 1 = .ok (.getfield 22, 3) := by decide +kernel
theorem dX4_isWhole_4 : decode cX4_isWhole 4 = .ok (.ifCond .le 5, 3) := by decide +kernel
theorem dX4_isWhole_7 : decode cX4_isWhole 7 = .ok (.iconst 0, 1) := by decide +kernel
theorem dX4_isWhole_8 : decode cX4_isWhole 8 = .ok (.ireturn, 1) := by decide +kernel
theorem dX4_isWhole_9 : decode cX4_isWhole 9 = .ok (.aload_n 0, 1) := by decide +kernel
theorem dX4_isWhole_10 : decode cX4_isWhole 10 = .ok (.getfield 18, 3) := by decide +kernel
theorem dX4_isWhole_13 : decode cX4_isWhole 13 = .ok (.tableswitch 113 0 18 #[91, 113, 113, 111, 113, 113, 113, 113, 111, 113, 113, 113, 113, 111, 113, 111, 113, 111, 111], 91) := by decide +kernel
theorem dX4_isWhole_104 : decode cX4_isWhole 104 = .ok (.aload_n 0, 1) := by decide +kernel
theorem dX4_isWhole_105 : decode cX4_isWhole 105 = .ok (.getfield 12, 3) := by decide +kernel
theorem dX4_isWhole_108 : decode cX4_isWhole 108 = .ok (.iconst 0, 1) := by decide +kernel
theorem dX4_isWhole_109 : decode cX4_isWhole 109 = .ok (.invokevirtual 48, 3) := by decide +kernel
theorem dX4_isWhole_112 : decode cX4_isWhole 112 = .ok (.getfield 52, 3) := by decide +kernel
theorem dX4_isWhole_115 : decode cX4_isWhole 115 = .ok (.ifCond .le 7, 3) := by decide +kernel
theorem dX4_isWhole_118 : decode cX4_isWhole 118 = .ok (.iconst 1, 1) := by decide +kernel
theorem dX4_isWhole_119 : decode cX4_isWhole 119 = .ok (.goto 4, 3) := by decide +kernel
theorem dX4_isWhole_122 : decode cX4_isWhole 122 = .ok (.iconst 0, 1) := by decide +kernel
theorem dX4_isWhole_123 : decode cX4_isWhole 123 = .ok (.ireturn, 1) := by decide +kernel
theorem dX4_isWhole_124 : decode cX4_isWhole 124 = .ok (.iconst 1, 1) := by decide +kernel
theorem dX4_isWhole_125 : decode cX4_isWhole 125 = .ok (.ireturn, 1) := by decide +kernel
theorem dX4_isWhole_126 : decode cX4_isWhole 126 = .ok (.iconst 0, 1) := by decide +kernel
theorem dX4_isWhole_127 : decode cX4_isWhole 127 = .ok (.ireturn, 1) := by decide +kernel
theorem dX4_takes_0 : decode cX4_takes 0 = .ok (.aload_n 0, 1) := by decide +kernel
theorem dX4_takes_1 : decode cX4_takes 1 = .ok (.getfield 18, 3) := by decide +kernel
theorem dX4_takes_4 : decode cX4_takes 4 = .ok (.tableswitch 320 0 17 #[88, 94, 94, 117, 123, 133, 141, 147, 153, 174, 184, 192, 198, 220, 241, 251, 257, 283], 88) := by decide +kernel
theorem dX4_takes_92 : decode cX4_takes 92 = .ok (.aload_n 0, 1) := by decide +kernel
theorem dX4_takes_93 : decode cX4_takes 93 = .ok (.iload_n 1, 1) := by decide +kernel
theorem dX4_takes_94 : decode cX4_takes 94 = .ok (.invokevirtual 55, 3) := by decide +kernel
theorem dX4_takes_97 : decode cX4_takes 97 = .ok (.ireturn, 1) := by decide +kernel
theorem dX4_takes_98 : decode cX4_takes 98 = .ok (.aload_n 0, 1) := by decide +kernel
theorem dX4_takes_99 : decode cX4_takes 99 = .ok (.iload_n 1, 1) := by decide +kernel
theorem dX4_takes_100 : decode cX4_takes 100 = .ok (.iconst 0, 1) := by decide +kernel
theorem dX4_takes_101 : decode cX4_takes 101 = .ok (.invokevirtual 59, 3) := by decide +kernel
theorem dX4_takes_104 : decode cX4_takes 104 = .ok (.ifCond .eq 15, 3) := by decide +kernel
theorem dX4_takes_107 : decode cX4_takes 107 = .ok (.aload_n 0, 1) := by decide +kernel
theorem dX4_takes_108 : decode cX4_takes 108 = .ok (.iload_n 1, 1) := by decide +kernel
theorem dX4_takes_109 : decode cX4_takes 109 = .ok (.invokevirtual 63, 3) := by decide +kernel
theorem dX4_takes_112 : decode cX4_takes 112 = .ok (.ifCond .eq 7, 3) := by decide +kernel
theorem dX4_takes_115 : decode cX4_takes 115 = .ok (.iconst 1, 1) := by decide +kernel
theorem dX4_takes_116 : decode cX4_takes 116 = .ok (.goto 4, 3) := by decide +kernel
theorem dX4_takes_119 : decode cX4_takes 119 = .ok (.iconst 0, 1) := by decide +kernel
theorem dX4_takes_120 : decode cX4_takes 120 = .ok (.ireturn, 1) := by decide +kernel
theorem dX4_takes_121 : decode cX4_takes 121 = .ok (.aload_n 0, 1) := by decide +kernel
theorem dX4_takes_122 : decode cX4_takes 122 = .ok (.iload_n 1, 1) := by decide +kernel
theorem dX4_takes_123 : decode cX4_takes 123 = .ok (.invokevirtual 66, 3) := by decide +kernel
theorem dX4_takes_126 : decode cX4_takes 126 = .ok (.ireturn, 1) := by decide +kernel
theorem dX4_takes_127 : decode cX4_takes 127 = .ok (.aload_n 0, 1) := by decide +kernel
theorem dX4_takes_128 : decode cX4_takes 128 = .ok (.iload_n 1, 1) := by decide +kernel
theorem dX4_takes_129 : decode cX4_takes 129 = .ok (.bipush 48, 2) := by decide +kernel
theorem dX4_takes_131 : decode cX4_takes 131 = .ok (.bipush 50, 2) := by decide +kernel
theorem dX4_takes_133 : decode cX4_takes 133 = .ok (.invokevirtual 69, 3) := by decide +kernel
theorem dX4_takes_136 : decode cX4_takes 136 = .ok (.ireturn, 1) := by decide +kernel
theorem dX4_takes_137 : decode cX4_takes 137 = .ok (.aload_n 0, 1) := by decide +kernel
theorem dX4_takes_138 : decode cX4_takes 138 = .ok (.iload_n 1, 1) := by decide +kernel
theorem dX4_takes_139 : decode cX4_takes 139 = .ok (.bipush 6, 2) := by decide +kernel
theorem dX4_takes_141 : decode cX4_takes 141 = .ok (.invokevirtual 73, 3) := by decide +kernel
theorem dX4_takes_144 : decode cX4_takes 144 = .ok (.ireturn, 1) := by decide +kernel
theorem dX4_takes_145 : decode cX4_takes 145 = .ok (.aload_n 0, 1) := by decide +kernel
theorem dX4_takes_146 : decode cX4_takes 146 = .ok (.iload_n 1, 1) := by decide +kernel
theorem dX4_takes_147 : decode cX4_takes 147 = .ok (.invokevirtual 76, 3) := by decide +kernel
theorem dX4_takes_150 : decode cX4_takes 150 = .ok (.ireturn, 1) := by decide +kernel
theorem dX4_takes_151 : decode cX4_takes 151 = .ok (.aload_n 0, 1) := by decide +kernel
theorem dX4_takes_152 : decode cX4_takes 152 = .ok (.iload_n 1, 1) := by decide +kernel
theorem dX4_takes_153 : decode cX4_takes 153 = .ok (.invokevirtual 79, 3) := by decide +kernel
theorem dX4_takes_156 : decode cX4_takes 156 = .ok (.ireturn, 1) := by decide +kernel
theorem dX4_takes_157 : decode cX4_takes 157 = .ok (.iload_n 1, 1) := by decide +kernel
theorem dX4_takes_158 : decode cX4_takes 158 = .ok (.bipush 126, 2) := by decide +kernel
theorem dX4_takes_160 : decode cX4_takes 160 = .ok (.if_icmp .ne 12, 3) := by decide +kernel
theorem dX4_takes_163 : decode cX4_takes 163 = .ok (.aload_n 0, 1) := by decide +kernel
theorem dX4_takes_164 : decode cX4_takes 164 = .ok (.bipush 9, 2) := by decide +kernel
theorem dX4_takes_166 : decode cX4_takes 166 = .ok (.invokevirtual 82, 3) := by decide +kernel
theorem dX4_takes_169 : decode cX4_takes 169 = .ok (.goto 8, 3) := by decide +kernel
theorem dX4_takes_172 : decode cX4_takes 172 = .ok (.aload_n 0, 1) := by decide +kernel
theorem dX4_takes_173 : decode cX4_takes 173 = .ok (.iload_n 1, 1) := by decide +kernel
theorem dX4_takes_174 : decode cX4_takes 174 = .ok (.invokevirtual 85, 3) := by decide +kernel
theorem dX4_takes_177 : decode cX4_takes 177 = .ok (.ireturn, 1) := by decide +kernel
theorem dX4_takes_178 : decode cX4_takes 178 = .ok (.aload_n 0, 1) := by decide +kernel
theorem dX4_takes_179 : decode cX4_takes 179 = .ok (.iload_n 1, 1) := by decide +kernel
theorem dX4_takes_180 : decode cX4_takes 180 = .ok (.bipush 48, 2) := by decide +kernel
theorem dX4_takes_182 : decode cX4_takes 182 = .ok (.bipush 57, 2) := by decide +kernel
theorem dX4_takes_184 : decode cX4_takes 184 = .ok (.invokevirtual 69, 3) := by decide +kernel
theorem dX4_takes_187 : decode cX4_takes 187 = .ok (.ireturn, 1) := by decide +kernel
theorem dX4_takes_188 : decode cX4_takes 188 = .ok (.aload_n 0, 1) := by decide +kernel
theorem dX4_takes_189 : decode cX4_takes 189 = .ok (.iload_n 1, 1) := by decide +kernel
theorem dX4_takes_190 : decode cX4_takes 190 = .ok (.bipush 11, 2) := by decide +kernel
theorem dX4_takes_192 : decode cX4_takes 192 = .ok (.invokevirtual 73, 3) := by decide +kernel
theorem dX4_takes_195 : decode cX4_takes 195 = .ok (.ireturn, 1) := by decide +kernel
theorem dX4_takes_196 : decode cX4_takes 196 = .ok (.aload_n 0, 1) := by decide +kernel
theorem dX4_takes_197 : decode cX4_takes 197 = .ok (.iload_n 1, 1) := by decide +kernel
theorem dX4_takes_198 : decode cX4_takes 198 = .ok (.invokevirtual 88, 3) := by decide +kernel
theorem dX4_takes_201 : decode cX4_takes 201 = .ok (.ireturn, 1) := by decide +kernel
theorem dX4_takes_202 : decode cX4_takes 202 = .ok (.iload_n 1, 1) := by decide +kernel
theorem dX4_takes_203 : decode cX4_takes 203 = .ok (.bipush 46, 2) := by decide +kernel
theorem dX4_takes_205 : decode cX4_takes 205 = .ok (.if_icmp .ne 17, 3) := by decide +kernel
theorem dX4_takes_208 : decode cX4_takes 208 = .ok (.aload_n 0, 1) := by decide +kernel
theorem dX4_takes_209 : decode cX4_takes 209 = .ok (.iconst 1, 1) := by decide +kernel
theorem dX4_takes_210 : decode cX4_takes 210 = .ok (.bipush 10, 2) := by decide +kernel
theorem dX4_takes_212 : decode cX4_takes 212 = .ok (.invokevirtual 91, 3) := by decide +kernel
theorem dX4_takes_215 : decode cX4_takes 215 = .ok (.ifCond .eq 7, 3) := by decide +kernel
theorem dX4_takes_218 : decode cX4_takes 218 = .ok (.iconst 1, 1) := by decide +kernel
theorem dX4_takes_219 : decode cX4_takes 219 = .ok (.goto 4, 3) := by decide +kernel
theorem dX4_takes_222 : decode cX4_takes 222 = .ok (.iconst 0, 1) := by decide +kernel
theorem dX4_takes_223 : decode cX4_takes 223 = .ok (.ireturn, 1) := by decide +kernel
theorem dX4_takes_224 : decode cX4_takes 224 = .ok (.iload_n 1, 1) := by decide +kernel
theorem dX4_takes_225 : decode cX4_takes 225 = .ok (.bipush 64, 2) := by decide +kernel
theorem dX4_takes_227 : decode cX4_takes 227 = .ok (.if_icmp .ne 12, 3) := by decide +kernel
theorem dX4_takes_230 : decode cX4_takes 230 = .ok (.aload_n 0, 1) := by decide +kernel
theorem dX4_takes_231 : decode cX4_takes 231 = .ok (.bipush 14, 2) := by decide +kernel
theorem dX4_takes_233 : decode cX4_takes 233 = .ok (.invokevirtual 82, 3) := by decide +kernel
theorem dX4_takes_236 : decode cX4_takes 236 = .ok (.goto 8, 3) := by decide +kernel
theorem dX4_takes_239 : decode cX4_takes 239 = .ok (.aload_n 0, 1) := by decide +kernel
theorem dX4_takes_240 : decode cX4_takes 240 = .ok (.iload_n 1, 1) := by decide +kernel
theorem dX4_takes_241 : decode cX4_takes 241 = .ok (.invokevirtual 85, 3) := by decide +kernel
theorem dX4_takes_244 : decode cX4_takes 244 = .ok (.ireturn, 1) := by decide +kernel
theorem dX4_takes_245 : decode cX4_takes 245 = .ok (.aload_n 0, 1) := by decide +kernel
theorem dX4_takes_246 : decode cX4_takes 246 = .ok (.iload_n 1, 1) := by decide +kernel
theorem dX4_takes_247 : decode cX4_takes 247 = .ok (.bipush 49, 2) := by decide +kernel
theorem dX4_takes_249 : decode cX4_takes 249 = .ok (.bipush 57, 2) := by decide +kernel
theorem dX4_takes_251 : decode cX4_takes 251 = .ok (.invokevirtual 69, 3) := by decide +kernel
theorem dX4_takes_254 : decode cX4_takes 254 = .ok (.ireturn, 1) := by decide +kernel
theorem dX4_takes_255 : decode cX4_takes 255 = .ok (.aload_n 0, 1) := by decide +kernel
theorem dX4_takes_256 : decode cX4_takes 256 = .ok (.iload_n 1, 1) := by decide +kernel
theorem dX4_takes_257 : decode cX4_takes 257 = .ok (.invokevirtual 85, 3) := by decide +kernel
theorem dX4_takes_260 : decode cX4_takes 260 = .ok (.ireturn, 1) := by decide +kernel
theorem dX4_takes_261 : decode cX4_takes 261 = .ok (.iload_n 1, 1) := by decide +kernel
theorem dX4_takes_262 : decode cX4_takes 262 = .ok (.invokestatic 94, 3) := by decide +kernel
theorem dX4_takes_265 : decode cX4_takes 265 = .ok (.ifCond .eq 20, 3) := by decide +kernel
theorem dX4_takes_268 : decode cX4_takes 268 = .ok (.aload_n 0, 1) := by decide +kernel
theorem dX4_takes_269 : decode cX4_takes 269 = .ok (.iload_n 1, 1) := by decide +kernel
theorem dX4_takes_270 : decode cX4_takes 270 = .ok (.bipush 48, 2) := by decide +kernel
theorem dX4_takes_272 : decode cX4_takes 272 = .ok (.isub, 1) := by decide +kernel
theorem dX4_takes_273 : decode cX4_takes 273 = .ok (.bipush 17, 2) := by decide +kernel
theorem dX4_takes_275 : decode cX4_takes 275 = .ok (.invokevirtual 97, 3) := by decide +kernel
theorem dX4_takes_278 : decode cX4_takes 278 = .ok (.ifCond .eq 7, 3) := by decide +kernel
theorem dX4_takes_281 : decode cX4_takes 281 = .ok (.iconst 1, 1) := by decide +kernel
theorem dX4_takes_282 : decode cX4_takes 282 = .ok (.goto 4, 3) := by decide +kernel
theorem dX4_takes_285 : decode cX4_takes 285 = .ok (.iconst 0, 1) := by decide +kernel
theorem dX4_takes_286 : decode cX4_takes 286 = .ok (.ireturn, 1) := by decide +kernel
theorem dX4_takes_287 : decode cX4_takes 287 = .ok (.iload_n 1, 1) := by decide +kernel
theorem dX4_takes_288 : decode cX4_takes 288 = .ok (.invokestatic 94, 3) := by decide +kernel
theorem dX4_takes_291 : decode cX4_takes 291 = .ok (.ifCond .eq 27, 3) := by decide +kernel
theorem dX4_takes_294 : decode cX4_takes 294 = .ok (.aload_n 0, 1) := by decide +kernel
theorem dX4_takes_295 : decode cX4_takes 295 = .ok (.bipush 10, 2) := by decide +kernel
theorem dX4_takes_297 : decode cX4_takes 297 = .ok (.aload_n 0, 1) := by decide +kernel
theorem dX4_takes_298 : decode cX4_takes 298 = .ok (.getfield 31, 3) := by decide +kernel
theorem dX4_takes_301 : decode cX4_takes 301 = .ok (.getfield 100, 3) := by decide +kernel
theorem dX4_takes_304 : decode cX4_takes 304 = .ok (.imul, 1) := by decide +kernel
theorem dX4_takes_305 : decode cX4_takes 305 = .ok (.iload_n 1, 1) := by decide +kernel
theorem dX4_takes_306 : decode cX4_takes 306 = .ok (.iadd, 1) := by decide +kernel
theorem dX4_takes_307 : decode cX4_takes 307 = .ok (.bipush 48, 2) := by decide +kernel
theorem dX4_takes_309 : decode cX4_takes 309 = .ok (.isub, 1) := by decide +kernel
theorem dX4_takes_310 : decode cX4_takes 310 = .ok (.bipush 18, 2) := by decide +kernel
theorem dX4_takes_312 : decode cX4_takes 312 = .ok (.invokevirtual 97, 3) := by decide +kernel
theorem dX4_takes_315 : decode cX4_takes 315 = .ok (.goto 8, 3) := by decide +kernel
theorem dX4_takes_318 : decode cX4_takes 318 = .ok (.aload_n 0, 1) := by decide +kernel
theorem dX4_takes_319 : decode cX4_takes 319 = .ok (.iload_n 1, 1) := by decide +kernel
theorem dX4_takes_320 : decode cX4_takes 320 = .ok (.invokevirtual 103, 3) := by decide +kernel
theorem dX4_takes_323 : decode cX4_takes 323 = .ok (.ireturn, 1) := by decide +kernel
theorem dX4_takes_324 : decode cX4_takes 324 = .ok (.aload_n 0, 1) := by decide +kernel
theorem dX4_takes_325 : decode cX4_takes 325 = .ok (.iload_n 1, 1) := by decide +kernel
theorem dX4_takes_326 : decode cX4_takes 326 = .ok (.invokevirtual 103, 3) := by decide +kernel
theorem dX4_takes_329 : decode cX4_takes 329 = .ok (.ireturn, 1) := by decide +kernel
theorem dX4_goTo_0 : decode cX4_goTo 0 = .ok (.aload_n 0, 1) := by decide +kernel
theorem dX4_goTo_1 : decode cX4_goTo 1 = .ok (.iload_n 1, 1) := by decide +kernel
theorem dX4_goTo_2 : decode cX4_goTo 2 = .ok (.putfield 18, 3) := by decide +kernel
theorem dX4_goTo_5 : decode cX4_goTo 5 = .ok (.iconst 1, 1) := by decide +kernel
theorem dX4_goTo_6 : decode cX4_goTo 6 = .ok (.ireturn, 1) := by decide +kernel
theorem dX4_isFigure_0 : decode cX4_isFigure 0 = .ok (.iload_n 0, 1) := by decide +kernel
theorem dX4_isFigure_1 : decode cX4_isFigure 1 = .ok (.bipush 48, 2) := by decide +kernel
theorem dX4_isFigure_3 : decode cX4_isFigure 3 = .ok (.if_icmp .lt 13, 3) := by decide +kernel
theorem dX4_isFigure_6 : decode cX4_isFigure 6 = .ok (.iload_n 0, 1) := by decide +kernel
theorem dX4_isFigure_7 : decode cX4_isFigure 7 = .ok (.bipush 57, 2) := by decide +kernel
theorem dX4_isFigure_9 : decode cX4_isFigure 9 = .ok (.if_icmp .gt 7, 3) := by decide +kernel
theorem dX4_isFigure_12 : decode cX4_isFigure 12 = .ok (.iconst 1, 1) := by decide +kernel
theorem dX4_isFigure_13 : decode cX4_isFigure 13 = .ok (.goto 4, 3) := by decide +kernel
theorem dX4_isFigure_16 : decode cX4_isFigure 16 = .ok (.iconst 0, 1) := by decide +kernel
theorem dX4_isFigure_17 : decode cX4_isFigure 17 = .ok (.ireturn, 1) := by decide +kernel
theorem dX4_takesInGap_0 : decode cX4_takesInGap 0 = .ok (.iload_n 1, 1) := by decide +kernel
theorem dX4_takesInGap_1 : decode cX4_takesInGap 1 = .ok (.bipush 32, 2) := by decide +kernel
theorem dX4_takesInGap_3 : decode cX4_takesInGap 3 = .ok (.if_icmp .ne 5, 3) := by decide +kernel
theorem dX4_takesInGap_6 : decode cX4_takesInGap 6 = .ok (.iconst 1, 1) := by decide +kernel
theorem dX4_takesInGap_7 : decode cX4_takesInGap 7 = .ok (.ireturn, 1) := by decide +kernel
theorem dX4_takesInGap_8 : decode cX4_takesInGap 8 = .ok (.iload_n 1, 1) := by decide +kernel
theorem dX4_takesInGap_9 : decode cX4_takesInGap 9 = .ok (.bipush 41, 2) := by decide +kernel
theorem dX4_takesInGap_11 : decode cX4_takesInGap 11 = .ok (.if_icmp .ne 33, 3) := by decide +kernel
theorem dX4_takesInGap_14 : decode cX4_takesInGap 14 = .ok (.aload_n 0, 1) := by decide +kernel
theorem dX4_takesInGap_15 : decode cX4_takesInGap 15 = .ok (.getfield 12, 3) := by decide +kernel
theorem dX4_takesInGap_18 : decode cX4_takesInGap 18 = .ok (.aload_n 0, 1) := by decide +kernel
theorem dX4_takesInGap_19 : decode cX4_takesInGap 19 = .ok (.getfield 25, 3) := by decide +kernel
theorem dX4_takesInGap_22 : decode cX4_takesInGap 22 = .ok (.invokevirtual 48, 3) := by decide +kernel
theorem dX4_takesInGap_25 : decode cX4_takesInGap 25 = .ok (.getfield 52, 3) := by decide +kernel
theorem dX4_takesInGap_28 : decode cX4_takesInGap 28 = .ok (.ifCond .le 14, 3) := by decide +kernel
theorem dX4_takesInGap_31 : decode cX4_takesInGap 31 = .ok (.aload_n 0, 1) := by decide +kernel
theorem dX4_takesInGap_32 : decode cX4_takesInGap 32 = .ok (.invokevirtual 106, 3) := by decide +kernel
theorem dX4_takesInGap_35 : decode cX4_takesInGap 35 = .ok (.ifCond .eq 7, 3) := by decide +kernel
theorem dX4_takesInGap_38 : decode cX4_takesInGap 38 = .ok (.iconst 1, 1) := by decide +kernel
theorem dX4_takesInGap_39 : decode cX4_takesInGap 39 = .ok (.goto 4, 3) := by decide +kernel
theorem dX4_takesInGap_42 : decode cX4_takesInGap 42 = .ok (.iconst 0, 1) := by decide +kernel
theorem dX4_takesInGap_43 : decode cX4_takesInGap 43 = .ok (.ireturn, 1) := by decide +kernel
theorem dX4_takesInGap_44 : decode cX4_takesInGap 44 = .ok (.iload_n 1, 1) := by decide +kernel
theorem dX4_takesInGap_45 : decode cX4_takesInGap 45 = .ok (.bipush 43, 2) := by decide +kernel
theorem dX4_takesInGap_47 : decode cX4_takesInGap 47 = .ok (.if_icmp .eq 9, 3) := by decide +kernel
theorem dX4_takesInGap_50 : decode cX4_takesInGap 50 = .ok (.iload_n 1, 1) := by decide +kernel
theorem dX4_takesInGap_51 : decode cX4_takesInGap 51 = .ok (.bipush 45, 2) := by decide +kernel
theorem dX4_takesInGap_53 : decode cX4_takesInGap 53 = .ok (.if_icmp .ne 7, 3) := by decide +kernel
theorem dX4_takesInGap_56 : decode cX4_takesInGap 56 = .ok (.iconst 1, 1) := by decide +kernel
theorem dX4_takesInGap_57 : decode cX4_takesInGap 57 = .ok (.goto 4, 3) := by decide +kernel
theorem dX4_takesInGap_60 : decode cX4_takesInGap 60 = .ok (.iconst 0, 1) := by decide +kernel
theorem dX4_takesInGap_61 : decode cX4_takesInGap 61 = .ok (.istore_n 2, 1) := by decide +kernel
theorem dX4_takesInGap_62 : decode cX4_takesInGap 62 = .ok (.iload_n 2, 1) := by decide +kernel
theorem dX4_takesInGap_63 : decode cX4_takesInGap 63 = .ok (.ifCond .eq 17, 3) := by decide +kernel
theorem dX4_takesInGap_66 : decode cX4_takesInGap 66 = .ok (.aload_n 0, 1) := by decide +kernel
theorem dX4_takesInGap_67 : decode cX4_takesInGap 67 = .ok (.getfield 12, 3) := by decide +kernel
theorem dX4_takesInGap_70 : decode cX4_takesInGap 70 = .ok (.iconst 1, 1) := by decide +kernel
theorem dX4_takesInGap_71 : decode cX4_takesInGap 71 = .ok (.invokevirtual 110, 3) := by decide +kernel
theorem dX4_takesInGap_74 : decode cX4_takesInGap 74 = .ok (.ifCond .eq 15, 3) := by decide +kernel
theorem dX4_takesInGap_77 : decode cX4_takesInGap 77 = .ok (.goto 14, 3) := by decide +kernel
theorem dX4_takesInGap_80 : decode cX4_takesInGap 80 = .ok (.aload_n 0, 1) := by decide +kernel
theorem dX4_takesInGap_81 : decode cX4_takesInGap 81 = .ok (.iload_n 1, 1) := by decide +kernel
theorem dX4_takesInGap_82 : decode cX4_takesInGap 82 = .ok (.iconst 1, 1) := by decide +kernel
theorem dX4_takesInGap_83 : decode cX4_takesInGap 83 = .ok (.invokevirtual 59, 3) := by decide +kernel
theorem dX4_takesInGap_86 : decode cX4_takesInGap 86 = .ok (.ifCond .ne 5, 3) := by decide +kernel
theorem dX4_takesInGap_89 : decode cX4_takesInGap 89 = .ok (.iconst 0, 1) := by decide +kernel
theorem dX4_takesInGap_90 : decode cX4_takesInGap 90 = .ok (.ireturn, 1) := by decide +kernel
theorem dX4_takesInGap_91 : decode cX4_takesInGap 91 = .ok (.aload_n 0, 1) := by decide +kernel
theorem dX4_takesInGap_92 : decode cX4_takesInGap 92 = .ok (.aload_n 0, 1) := by decide +kernel
theorem dX4_takesInGap_93 : decode cX4_takesInGap 93 = .ok (.getfield 12, 3) := by decide +kernel
theorem dX4_takesInGap_96 : decode cX4_takesInGap 96 = .ok (.iload_n 1, 1) := by decide +kernel
theorem dX4_takesInGap_97 : decode cX4_takesInGap 97 = .ok (.bipush 43, 2) := by decide +kernel
theorem dX4_takesInGap_99 : decode cX4_takesInGap 99 = .ok (.if_icmp .ne 7, 3) := by decide +kernel
theorem dX4_takesInGap_102 : decode cX4_takesInGap 102 = .ok (.iconst 1, 1) := by decide +kernel
theorem dX4_takesInGap_103 : decode cX4_takesInGap 103 = .ok (.goto 14, 3) := by decide +kernel
theorem dX4_takesInGap_106 : decode cX4_takesInGap 106 = .ok (.iload_n 1, 1) := by decide +kernel
theorem dX4_takesInGap_107 : decode cX4_takesInGap 107 = .ok (.bipush 45, 2) := by decide +kernel
theorem dX4_takesInGap_109 : decode cX4_takesInGap 109 = .ok (.if_icmp .ne 7, 3) := by decide +kernel
theorem dX4_takesInGap_112 : decode cX4_takesInGap 112 = .ok (.iconst 2, 1) := by decide +kernel
theorem dX4_takesInGap_113 : decode cX4_takesInGap 113 = .ok (.goto 4, 3) := by decide +kernel
theorem dX4_takesInGap_116 : decode cX4_takesInGap 116 = .ok (.iconst 0, 1) := by decide +kernel
theorem dX4_takesInGap_117 : decode cX4_takesInGap 117 = .ok (.aload_n 0, 1) := by decide +kernel
theorem dX4_takesInGap_118 : decode cX4_takesInGap 118 = .ok (.getfield 25, 3) := by decide +kernel
theorem dX4_takesInGap_121 : decode cX4_takesInGap 121 = .ok (.invokevirtual 113, 3) := by decide +kernel
theorem dX4_takesInGap_124 : decode cX4_takesInGap 124 = .ok (.putfield 31, 3) := by decide +kernel
theorem dX4_takesInGap_127 : decode cX4_takesInGap 127 = .ok (.iload_n 2, 1) := by decide +kernel
theorem dX4_takesInGap_128 : decode cX4_takesInGap 128 = .ok (.ifCond .eq 11, 3) := by decide +kernel
theorem dX4_takesInGap_131 : decode cX4_takesInGap 131 = .ok (.aload_n 0, 1) := by decide +kernel
theorem dX4_takesInGap_132 : decode cX4_takesInGap 132 = .ok (.iconst 1, 1) := by decide +kernel
theorem dX4_takesInGap_133 : decode cX4_takesInGap 133 = .ok (.invokevirtual 82, 3) := by decide +kernel
theorem dX4_takesInGap_136 : decode cX4_takesInGap 136 = .ok (.goto 8, 3) := by decide +kernel
theorem dX4_takesInGap_139 : decode cX4_takesInGap 139 = .ok (.aload_n 0, 1) := by decide +kernel
theorem dX4_takesInGap_140 : decode cX4_takesInGap 140 = .ok (.iload_n 1, 1) := by decide +kernel
theorem dX4_takesInGap_141 : decode cX4_takesInGap 141 = .ok (.invokevirtual 63, 3) := by decide +kernel
theorem dX4_takesInGap_144 : decode cX4_takesInGap 144 = .ok (.ireturn, 1) := by decide +kernel
theorem dX4_canBeginCore_0 : decode cX4_canBeginCore 0 = .ok (.iload_n 1, 1) := by decide +kernel
theorem dX4_canBeginCore_1 : decode cX4_canBeginCore 1 = .ok (.bipush 40, 2) := by decide +kernel
theorem dX4_canBeginCore_3 : decode cX4_canBeginCore 3 = .ok (.if_icmp .ne 30, 3) := by decide +kernel
theorem dX4_canBeginCore_6 : decode cX4_canBeginCore 6 = .ok (.aload_n 0, 1) := by decide +kernel
theorem dX4_canBeginCore_7 : decode cX4_canBeginCore 7 = .ok (.getfield 22, 3) := by decide +kernel
theorem dX4_canBeginCore_10 : decode cX4_canBeginCore 10 = .ok (.iconst 5, 1) := by decide +kernel
theorem dX4_canBeginCore_11 : decode cX4_canBeginCore 11 = .ok (.if_icmp .ge 20, 3) := by decide +kernel
theorem dX4_canBeginCore_14 : decode cX4_canBeginCore 14 = .ok (.aload_n 0, 1) := by decide +kernel
theorem dX4_canBeginCore_15 : decode cX4_canBeginCore 15 = .ok (.getfield 12, 3) := by decide +kernel
theorem dX4_canBeginCore_18 : decode cX4_canBeginCore 18 = .ok (.iload_n 2, 1) := by decide +kernel
theorem dX4_canBeginCore_19 : decode cX4_canBeginCore 19 = .ok (.iconst 1, 1) := by decide +kernel
theorem dX4_canBeginCore_20 : decode cX4_canBeginCore 20 = .ok (.iadd, 1) := by decide +kernel
theorem dX4_canBeginCore_21 : decode cX4_canBeginCore 21 = .ok (.invokevirtual 110, 3) := by decide +kernel
theorem dX4_canBeginCore_24 : decode cX4_canBeginCore 24 = .ok (.ifCond .eq 7, 3) := by decide +kernel
theorem dX4_canBeginCore_27 : decode cX4_canBeginCore 27 = .ok (.iconst 1, 1) := by decide +kernel
theorem dX4_canBeginCore_28 : decode cX4_canBeginCore 28 = .ok (.goto 4, 3) := by decide +kernel
theorem dX4_canBeginCore_31 : decode cX4_canBeginCore 31 = .ok (.iconst 0, 1) := by decide +kernel
theorem dX4_canBeginCore_32 : decode cX4_canBeginCore 32 = .ok (.ireturn, 1) := by decide +kernel
theorem dX4_canBeginCore_33 : decode cX4_canBeginCore 33 = .ok (.aload_n 0, 1) := by decide +kernel
theorem dX4_canBeginCore_34 : decode cX4_canBeginCore 34 = .ok (.getfield 12, 3) := by decide +kernel
theorem dX4_canBeginCore_37 : decode cX4_canBeginCore 37 = .ok (.iload_n 2, 1) := by decide +kernel
theorem dX4_canBeginCore_38 : decode cX4_canBeginCore 38 = .ok (.invokevirtual 110, 3) := by decide +kernel
theorem dX4_canBeginCore_41 : decode cX4_canBeginCore 41 = .ok (.ifCond .eq 32, 3) := by decide +kernel
theorem dX4_canBeginCore_44 : decode cX4_canBeginCore 44 = .ok (.iload_n 1, 1) := by decide +kernel
theorem dX4_canBeginCore_45 : decode cX4_canBeginCore 45 = .ok (.invokestatic 117, 3) := by decide +kernel
theorem dX4_canBeginCore_48 : decode cX4_canBeginCore 48 = .ok (.ifCond .ne 21, 3) := by decide +kernel
theorem dX4_canBeginCore_51 : decode cX4_canBeginCore 51 = .ok (.iload_n 1, 1) := by decide +kernel
theorem dX4_canBeginCore_52 : decode cX4_canBeginCore 52 = .ok (.bipush 34, 2) := by decide +kernel
theorem dX4_canBeginCore_54 : decode cX4_canBeginCore 54 = .ok (.if_icmp .eq 15, 3) := by decide +kernel
theorem dX4_canBeginCore_57 : decode cX4_canBeginCore 57 = .ok (.iload_n 1, 1) := by decide +kernel
theorem dX4_canBeginCore_58 : decode cX4_canBeginCore 58 = .ok (.bipush 91, 2) := by decide +kernel
theorem dX4_canBeginCore_60 : decode cX4_canBeginCore 60 = .ok (.if_icmp .eq 9, 3) := by decide +kernel
theorem dX4_canBeginCore_63 : decode cX4_canBeginCore 63 = .ok (.iload_n 1, 1) := by decide +kernel
theorem dX4_canBeginCore_64 : decode cX4_canBeginCore 64 = .ok (.bipush 123, 2) := by decide +kernel
theorem dX4_canBeginCore_66 : decode cX4_canBeginCore 66 = .ok (.if_icmp .ne 7, 3) := by decide +kernel
theorem dX4_canBeginCore_69 : decode cX4_canBeginCore 69 = .ok (.iconst 1, 1) := by decide +kernel
theorem dX4_canBeginCore_70 : decode cX4_canBeginCore 70 = .ok (.goto 4, 3) := by decide +kernel
theorem dX4_canBeginCore_73 : decode cX4_canBeginCore 73 = .ok (.iconst 0, 1) := by decide +kernel
theorem dX4_canBeginCore_74 : decode cX4_canBeginCore 74 = .ok (.ireturn, 1) := by decide +kernel
theorem dX4_beginCore_0 : decode cX4_beginCore 0 = .ok (.iload_n 1, 1) := by decide +kernel
theorem dX4_beginCore_1 : decode cX4_beginCore 1 = .ok (.lookupswitch 97 #[(34, 48), (40, 43), (91, 63), (123, 63)], 43) := by decide +kernel
theorem dX4_beginCore_44 : decode cX4_beginCore 44 = .ok (.aload_n 0, 1) := by decide +kernel
theorem dX4_beginCore_45 : decode cX4_beginCore 45 = .ok (.invokevirtual 122, 3) := by decide +kernel
theorem dX4_beginCore_48 : decode cX4_beginCore 48 = .ok (.ireturn, 1) := by decide +kernel
theorem dX4_beginCore_49 : decode cX4_beginCore 49 = .ok (.aload_n 0, 1) := by decide +kernel
theorem dX4_beginCore_50 : decode cX4_beginCore 50 = .ok (.getfield 31, 3) := by decide +kernel
theorem dX4_beginCore_53 : decode cX4_beginCore 53 = .ok (.iconst 1, 1) := by decide +kernel
theorem dX4_beginCore_54 : decode cX4_beginCore 54 = .ok (.putfield 125, 3) := by decide +kernel
theorem dX4_beginCore_57 : decode cX4_beginCore 57 = .ok (.aload_n 0, 1) := by decide +kernel
theorem dX4_beginCore_58 : decode cX4_beginCore 58 = .ok (.iconst 0, 1) := by decide +kernel
theorem dX4_beginCore_59 : decode cX4_beginCore 59 = .ok (.iconst 5, 1) := by decide +kernel
theorem dX4_beginCore_60 : decode cX4_beginCore 60 = .ok (.invokevirtual 91, 3) := by decide +kernel
theorem dX4_beginCore_63 : decode cX4_beginCore 63 = .ok (.ireturn, 1) := by decide +kernel
theorem dX4_beginCore_64 : decode cX4_beginCore 64 = .ok (.aload_n 0, 1) := by decide +kernel
theorem dX4_beginCore_65 : decode cX4_beginCore 65 = .ok (.getfield 31, 3) := by decide +kernel
theorem dX4_beginCore_68 : decode cX4_beginCore 68 = .ok (.iconst 2, 1) := by decide +kernel
theorem dX4_beginCore_69 : decode cX4_beginCore 69 = .ok (.putfield 125, 3) := by decide +kernel
theorem dX4_beginCore_72 : decode cX4_beginCore 72 = .ok (.aload_n 0, 1) := by decide +kernel
theorem dX4_beginCore_73 : decode cX4_beginCore 73 = .ok (.getfield 31, 3) := by decide +kernel
theorem dX4_beginCore_76 : decode cX4_beginCore 76 = .ok (.iload_n 1, 1) := by decide +kernel
theorem dX4_beginCore_77 : decode cX4_beginCore 77 = .ok (.bipush 123, 2) := by decide +kernel
theorem dX4_beginCore_79 : decode cX4_beginCore 79 = .ok (.if_icmp .ne 7, 3) := by decide +kernel
theorem dX4_beginCore_82 : decode cX4_beginCore 82 = .ok (.iconst 1, 1) := by decide +kernel
theorem dX4_beginCore_83 : decode cX4_beginCore 83 = .ok (.goto 4, 3) := by decide +kernel
theorem dX4_beginCore_86 : decode cX4_beginCore 86 = .ok (.iconst 0, 1) := by decide +kernel
theorem dX4_beginCore_87 : decode cX4_beginCore 87 = .ok (.putfield 128, 3) := by decide +kernel
theorem dX4_beginCore_90 : decode cX4_beginCore 90 = .ok (.aload_n 0, 1) := by decide +kernel
theorem dX4_beginCore_91 : decode cX4_beginCore 91 = .ok (.iconst 0, 1) := by decide +kernel
theorem dX4_beginCore_92 : decode cX4_beginCore 92 = .ok (.bipush 10, 2) := by decide +kernel
theorem dX4_beginCore_94 : decode cX4_beginCore 94 = .ok (.invokevirtual 91, 3) := by decide +kernel
theorem dX4_beginCore_97 : decode cX4_beginCore 97 = .ok (.ireturn, 1) := by decide +kernel
theorem dX4_beginCore_98 : decode cX4_beginCore 98 = .ok (.aload_n 0, 1) := by decide +kernel
theorem dX4_beginCore_99 : decode cX4_beginCore 99 = .ok (.iconst 0, 1) := by decide +kernel
theorem dX4_beginCore_100 : decode cX4_beginCore 100 = .ok (.iconst 3, 1) := by decide +kernel
theorem dX4_beginCore_101 : decode cX4_beginCore 101 = .ok (.invokevirtual 91, 3) := by decide +kernel
theorem dX4_beginCore_104 : decode cX4_beginCore 104 = .ok (.ifCond .eq 15, 3) := by decide +kernel
theorem dX4_beginCore_107 : decode cX4_beginCore 107 = .ok (.aload_n 0, 1) := by decide +kernel
theorem dX4_beginCore_108 : decode cX4_beginCore 108 = .ok (.iload_n 1, 1) := by decide +kernel
theorem dX4_beginCore_109 : decode cX4_beginCore 109 = .ok (.invokevirtual 131, 3) := by decide +kernel
theorem dX4_beginCore_112 : decode cX4_beginCore 112 = .ok (.ifCond .eq 7, 3) := by decide +kernel
theorem dX4_beginCore_115 : decode cX4_beginCore 115 = .ok (.iconst 1, 1) := by decide +kernel
theorem dX4_beginCore_116 : decode cX4_beginCore 116 = .ok (.goto 4, 3) := by decide +kernel
theorem dX4_beginCore_119 : decode cX4_beginCore 119 = .ok (.iconst 0, 1) := by decide +kernel
theorem dX4_beginCore_120 : decode cX4_beginCore 120 = .ok (.ireturn, 1) := by decide +kernel
theorem dX4_openGroup_0 : decode cX4_openGroup 0 = .ok (.aload_n 0, 1) := by decide +kernel
theorem dX4_openGroup_1 : decode cX4_openGroup 1 = .ok (.getfield 31, 3) := by decide +kernel
theorem dX4_openGroup_4 : decode cX4_openGroup 4 = .ok (.iconst 3, 1) := by decide +kernel
theorem dX4_openGroup_5 : decode cX4_openGroup 5 = .ok (.putfield 125, 3) := by decide +kernel
theorem dX4_openGroup_8 : decode cX4_openGroup 8 = .ok (.aload_n 0, 1) := by decide +kernel
theorem dX4_openGroup_9 : decode cX4_openGroup 9 = .ok (.getfield 31, 3) := by decide +kernel
theorem dX4_openGroup_12 : decode cX4_openGroup 12 = .ok (.iconst (-1), 1) := by decide +kernel
theorem dX4_openGroup_13 : decode cX4_openGroup 13 = .ok (.putfield 128, 3) := by decide +kernel
theorem dX4_openGroup_16 : decode cX4_openGroup 16 = .ok (.aload_n 0, 1) := by decide +kernel
theorem dX4_openGroup_17 : decode cX4_openGroup 17 = .ok (.aload_n 0, 1) := by decide +kernel
theorem dX4_openGroup_18 : decode cX4_openGroup 18 = .ok (.getfield 12, 3) := by decide +kernel
theorem dX4_openGroup_21 : decode cX4_openGroup 21 = .ok (.getfield 134, 3) := by decide +kernel
theorem dX4_openGroup_24 : decode cX4_openGroup 24 = .ok (.iconst 1, 1) := by decide +kernel
theorem dX4_openGroup_25 : decode cX4_openGroup 25 = .ok (.isub, 1) := by decide +kernel
theorem dX4_openGroup_26 : decode cX4_openGroup 26 = .ok (.putfield 25, 3) := by decide +kernel
theorem dX4_openGroup_29 : decode cX4_openGroup 29 = .ok (.aload_n 0, 1) := by decide +kernel
theorem dX4_openGroup_30 : decode cX4_openGroup 30 = .ok (.dup, 1) := by decide +kernel
theorem dX4_openGroup_31 : decode cX4_openGroup 31 = .ok (.getfield 22, 3) := by decide +kernel
theorem dX4_openGroup_34 : decode cX4_openGroup 34 = .ok (.iconst 1, 1) := by decide +kernel
theorem dX4_openGroup_35 : decode cX4_openGroup 35 = .ok (.iadd, 1) := by decide +kernel
theorem dX4_openGroup_36 : decode cX4_openGroup 36 = .ok (.putfield 22, 3) := by decide +kernel
theorem dX4_openGroup_39 : decode cX4_openGroup 39 = .ok (.aload_n 0, 1) := by decide +kernel
theorem dX4_openGroup_40 : decode cX4_openGroup 40 = .ok (.iconst 0, 1) := by decide +kernel
theorem dX4_openGroup_41 : decode cX4_openGroup 41 = .ok (.invokevirtual 82, 3) := by decide +kernel
theorem dX4_openGroup_44 : decode cX4_openGroup 44 = .ok (.ireturn, 1) := by decide +kernel
theorem dX4_closeGroup_0 : decode cX4_closeGroup 0 = .ok (.aload_n 0, 1) := by decide +kernel
theorem dX4_closeGroup_1 : decode cX4_closeGroup 1 = .ok (.getfield 22, 3) := by decide +kernel
theorem dX4_closeGroup_4 : decode cX4_closeGroup 4 = .ok (.ifCond .ne 5, 3) := by decide +kernel
theorem dX4_closeGroup_7 : decode cX4_closeGroup 7 = .ok (.iconst 0, 1) := by decide +kernel
theorem dX4_closeGroup_8 : decode cX4_closeGroup 8 = .ok (.ireturn, 1) := by decide +kernel
theorem dX4_closeGroup_9 : decode cX4_closeGroup 9 = .ok (.aload_n 0, 1) := by decide +kernel
theorem dX4_closeGroup_10 : decode cX4_closeGroup 10 = .ok (.aload_n 0, 1) := by decide +kernel
theorem dX4_closeGroup_11 : decode cX4_closeGroup 11 = .ok (.getfield 12, 3) := by decide +kernel
theorem dX4_closeGroup_14 : decode cX4_closeGroup 14 = .ok (.aload_n 0, 1) := by decide +kernel
theorem dX4_closeGroup_15 : decode cX4_closeGroup 15 = .ok (.getfield 25, 3) := by decide +kernel
theorem dX4_closeGroup_18 : decode cX4_closeGroup 18 = .ok (.invokevirtual 48, 3) := by decide +kernel
theorem dX4_closeGroup_21 : decode cX4_closeGroup 21 = .ok (.putfield 31, 3) := by decide +kernel
theorem dX4_closeGroup_24 : decode cX4_closeGroup 24 = .ok (.aload_n 0, 1) := by decide +kernel
theorem dX4_closeGroup_25 : decode cX4_closeGroup 25 = .ok (.aload_n 0, 1) := by decide +kernel
theorem dX4_closeGroup_26 : decode cX4_closeGroup 26 = .ok (.getfield 31, 3) := by decide +kernel
theorem dX4_closeGroup_29 : decode cX4_closeGroup 29 = .ok (.getfield 137, 3) := by decide +kernel
theorem dX4_closeGroup_32 : decode cX4_closeGroup 32 = .ok (.putfield 25, 3) := by decide +kernel
theorem dX4_closeGroup_35 : decode cX4_closeGroup 35 = .ok (.aload_n 0, 1) := by decide +kernel
theorem dX4_closeGroup_36 : decode cX4_closeGroup 36 = .ok (.dup, 1) := by decide +kernel
theorem dX4_closeGroup_37 : decode cX4_closeGroup 37 = .ok (.getfield 22, 3) := by decide +kernel
theorem dX4_closeGroup_40 : decode cX4_closeGroup 40 = .ok (.iconst 1, 1) := by decide +kernel
theorem dX4_closeGroup_41 : decode cX4_closeGroup 41 = .ok (.isub, 1) := by decide +kernel
theorem dX4_closeGroup_42 : decode cX4_closeGroup 42 = .ok (.putfield 22, 3) := by decide +kernel
theorem dX4_closeGroup_45 : decode cX4_closeGroup 45 = .ok (.aload_n 0, 1) := by decide +kernel
theorem dX4_closeGroup_46 : decode cX4_closeGroup 46 = .ok (.bipush 13, 2) := by decide +kernel
theorem dX4_closeGroup_48 : decode cX4_closeGroup 48 = .ok (.invokevirtual 82, 3) := by decide +kernel
theorem dX4_closeGroup_51 : decode cX4_closeGroup 51 = .ok (.ireturn, 1) := by decide +kernel
theorem dX4_beginWord_0 : decode cX4_beginWord 0 = .ok (.aload_n 0, 1) := by decide +kernel
theorem dX4_beginWord_1 : decode cX4_beginWord 1 = .ok (.iload_n 1, 1) := by decide +kernel
theorem dX4_beginWord_2 : decode cX4_beginWord 2 = .ok (.putfield 35, 3) := by decide +kernel
theorem dX4_beginWord_5 : decode cX4_beginWord 5 = .ok (.aload_n 0, 1) := by decide +kernel
theorem dX4_beginWord_6 : decode cX4_beginWord 6 = .ok (.iconst 0, 1) := by decide +kernel
theorem dX4_beginWord_7 : decode cX4_beginWord 7 = .ok (.putfield 38, 3) := by decide +kernel
theorem dX4_beginWord_10 : decode cX4_beginWord 10 = .ok (.aload_n 0, 1) := by decide +kernel
theorem dX4_beginWord_11 : decode cX4_beginWord 11 = .ok (.iconst 1, 1) := by decide +kernel
theorem dX4_beginWord_12 : decode cX4_beginWord 12 = .ok (.putfield 41, 3) := by decide +kernel
theorem dX4_beginWord_15 : decode cX4_beginWord 15 = .ok (.aload_n 0, 1) := by decide +kernel
theorem dX4_beginWord_16 : decode cX4_beginWord 16 = .ok (.iload_n 2, 1) := by decide +kernel
theorem dX4_beginWord_17 : decode cX4_beginWord 17 = .ok (.invokevirtual 82, 3) := by decide +kernel
theorem dX4_beginWord_20 : decode cX4_beginWord 20 = .ok (.ireturn, 1) := by decide +kernel
theorem dX4_takeSign_0 : decode cX4_takeSign 0 = .ok (.aload_n 0, 1) := by decide +kernel
theorem dX4_takeSign_1 : decode cX4_takeSign 1 = .ok (.aload_n 0, 1) := by decide +kernel
theorem dX4_takeSign_2 : decode cX4_takeSign 2 = .ok (.getfield 41, 3) := by decide +kernel
theorem dX4_takeSign_5 : decode cX4_takeSign 5 = .ok (.ifCond .eq 14, 3) := by decide +kernel
theorem dX4_takeSign_8 : decode cX4_takeSign 8 = .ok (.iload_n 1, 1) := by decide +kernel
theorem dX4_takeSign_9 : decode cX4_takeSign 9 = .ok (.invokestatic 140, 3) := by decide +kernel
theorem dX4_takeSign_12 : decode cX4_takeSign 12 = .ok (.ifCond .eq 7, 3) := by decide +kernel
theorem dX4_takeSign_15 : decode cX4_takeSign 15 = .ok (.iconst 1, 1) := by decide +kernel
theorem dX4_takeSign_16 : decode cX4_takeSign 16 = .ok (.goto 4, 3) := by decide +kernel
theorem dX4_takeSign_19 : decode cX4_takeSign 19 = .ok (.iconst 0, 1) := by decide +kernel
theorem dX4_takeSign_20 : decode cX4_takeSign 20 = .ok (.putfield 41, 3) := by decide +kernel
theorem dX4_takeSign_23 : decode cX4_takeSign 23 = .ok (.aload_n 0, 1) := by decide +kernel
theorem dX4_takeSign_24 : decode cX4_takeSign 24 = .ok (.getfield 31, 3) := by decide +kernel
theorem dX4_takeSign_27 : decode cX4_takeSign 27 = .ok (.aload_n 0, 1) := by decide +kernel
theorem dX4_takeSign_28 : decode cX4_takeSign 28 = .ok (.getfield 35, 3) := by decide +kernel
theorem dX4_takeSign_31 : decode cX4_takeSign 31 = .ok (.aload_n 0, 1) := by decide +kernel
theorem dX4_takeSign_32 : decode cX4_takeSign 32 = .ok (.getfield 38, 3) := by decide +kernel
theorem dX4_takeSign_35 : decode cX4_takeSign 35 = .ok (.iload_n 1, 1) := by decide +kernel
theorem dX4_takeSign_36 : decode cX4_takeSign 36 = .ok (.invokevirtual 143, 3) := by decide +kernel
theorem dX4_takeSign_39 : decode cX4_takeSign 39 = .ok (.aload_n 0, 1) := by decide +kernel
theorem dX4_takeSign_40 : decode cX4_takeSign 40 = .ok (.dup, 1) := by decide +kernel
theorem dX4_takeSign_41 : decode cX4_takeSign 41 = .ok (.getfield 38, 3) := by decide +kernel
theorem dX4_takeSign_44 : decode cX4_takeSign 44 = .ok (.iconst 1, 1) := by decide +kernel
theorem dX4_takeSign_45 : decode cX4_takeSign 45 = .ok (.iadd, 1) := by decide +kernel
theorem dX4_takeSign_46 : decode cX4_takeSign 46 = .ok (.putfield 38, 3) := by decide +kernel
theorem dX4_takeSign_49 : decode cX4_takeSign 49 = .ok (.iconst 1, 1) := by decide +kernel
theorem dX4_takeSign_50 : decode cX4_takeSign 50 = .ok (.ireturn, 1) := by decide +kernel
theorem dX4_takesLetter_0 : decode cX4_takesLetter 0 = .ok (.aload_n 0, 1) := by decide +kernel
theorem dX4_takesLetter_1 : decode cX4_takesLetter 1 = .ok (.getfield 38, 3) := by decide +kernel
theorem dX4_takesLetter_4 : decode cX4_takesLetter 4 = .ok (.bipush 8, 2) := by decide +kernel
theorem dX4_takesLetter_6 : decode cX4_takesLetter 6 = .ok (.if_icmp .ge 30, 3) := by decide +kernel
theorem dX4_takesLetter_9 : decode cX4_takesLetter 9 = .ok (.iload_n 1, 1) := by decide +kernel
theorem dX4_takesLetter_10 : decode cX4_takesLetter 10 = .ok (.invokestatic 140, 3) := by decide +kernel
theorem dX4_takesLetter_13 : decode cX4_takesLetter 13 = .ok (.ifCond .eq 23, 3) := by decide +kernel
theorem dX4_takesLetter_16 : decode cX4_takesLetter 16 = .ok (.aload_n 0, 1) := by decide +kernel
theorem dX4_takesLetter_17 : decode cX4_takesLetter 17 = .ok (.iload_n 1, 1) := by decide +kernel
theorem dX4_takesLetter_18 : decode cX4_takesLetter 18 = .ok (.invokevirtual 131, 3) := by decide +kernel
theorem dX4_takesLetter_21 : decode cX4_takesLetter 21 = .ok (.ifCond .eq 15, 3) := by decide +kernel
theorem dX4_takesLetter_24 : decode cX4_takesLetter 24 = .ok (.aload_n 0, 1) := by decide +kernel
theorem dX4_takesLetter_25 : decode cX4_takesLetter 25 = .ok (.iload_n 2, 1) := by decide +kernel
theorem dX4_takesLetter_26 : decode cX4_takesLetter 26 = .ok (.invokevirtual 82, 3) := by decide +kernel
theorem dX4_takesLetter_29 : decode cX4_takesLetter 29 = .ok (.ifCond .eq 7, 3) := by decide +kernel
theorem dX4_takesLetter_32 : decode cX4_takesLetter 32 = .ok (.iconst 1, 1) := by decide +kernel
theorem dX4_takesLetter_33 : decode cX4_takesLetter 33 = .ok (.goto 4, 3) := by decide +kernel
theorem dX4_takesLetter_36 : decode cX4_takesLetter 36 = .ok (.iconst 0, 1) := by decide +kernel
theorem dX4_takesLetter_37 : decode cX4_takesLetter 37 = .ok (.ireturn, 1) := by decide +kernel
theorem dX4_takesInWord_0 : decode cX4_takesInWord 0 = .ok (.iload_n 1, 1) := by decide +kernel
theorem dX4_takesInWord_1 : decode cX4_takesInWord 1 = .ok (.invokestatic 117, 3) := by decide +kernel
theorem dX4_takesInWord_4 : decode cX4_takesInWord 4 = .ok (.ifCond .eq 26, 3) := by decide +kernel
theorem dX4_takesInWord_7 : decode cX4_takesInWord 7 = .ok (.aload_n 0, 1) := by decide +kernel
theorem dX4_takesInWord_8 : decode cX4_takesInWord 8 = .ok (.getfield 38, 3) := by decide +kernel
theorem dX4_takesInWord_11 : decode cX4_takesInWord 11 = .ok (.bipush 8, 2) := by decide +kernel
theorem dX4_takesInWord_13 : decode cX4_takesInWord 13 = .ok (.if_icmp .ge 15, 3) := by decide +kernel
theorem dX4_takesInWord_16 : decode cX4_takesInWord 16 = .ok (.aload_n 0, 1) := by decide +kernel
theorem dX4_takesInWord_17 : decode cX4_takesInWord 17 = .ok (.iload_n 1, 1) := by decide +kernel
theorem dX4_takesInWord_18 : decode cX4_takesInWord 18 = .ok (.invokevirtual 131, 3) := by decide +kernel
theorem dX4_takesInWord_21 : decode cX4_takesInWord 21 = .ok (.ifCond .eq 7, 3) := by decide +kernel
theorem dX4_takesInWord_24 : decode cX4_takesInWord 24 = .ok (.iconst 1, 1) := by decide +kernel
theorem dX4_takesInWord_25 : decode cX4_takesInWord 25 = .ok (.goto 4, 3) := by decide +kernel
theorem dX4_takesInWord_28 : decode cX4_takesInWord 28 = .ok (.iconst 0, 1) := by decide +kernel
theorem dX4_takesInWord_29 : decode cX4_takesInWord 29 = .ok (.ireturn, 1) := by decide +kernel
theorem dX4_takesInWord_30 : decode cX4_takesInWord 30 = .ok (.iload_n 1, 1) := by decide +kernel
theorem dX4_takesInWord_31 : decode cX4_takesInWord 31 = .ok (.bipush 58, 2) := by decide +kernel
theorem dX4_takesInWord_33 : decode cX4_takesInWord 33 = .ok (.if_icmp .ne 23, 3) := by decide +kernel
theorem dX4_takesInWord_36 : decode cX4_takesInWord 36 = .ok (.aload_n 0, 1) := by decide +kernel
theorem dX4_takesInWord_37 : decode cX4_takesInWord 37 = .ok (.invokevirtual 147, 3) := by decide +kernel
theorem dX4_takesInWord_40 : decode cX4_takesInWord 40 = .ok (.ifCond .eq 14, 3) := by decide +kernel
theorem dX4_takesInWord_43 : decode cX4_takesInWord 43 = .ok (.aload_n 0, 1) := by decide +kernel
theorem dX4_takesInWord_44 : decode cX4_takesInWord 44 = .ok (.invokevirtual 150, 3) := by decide +kernel
theorem dX4_takesInWord_47 : decode cX4_takesInWord 47 = .ok (.ifCond .eq 7, 3) := by decide +kernel
theorem dX4_takesInWord_50 : decode cX4_takesInWord 50 = .ok (.iconst 1, 1) := by decide +kernel
theorem dX4_takesInWord_51 : decode cX4_takesInWord 51 = .ok (.goto 4, 3) := by decide +kernel
theorem dX4_takesInWord_54 : decode cX4_takesInWord 54 = .ok (.iconst 0, 1) := by decide +kernel
theorem dX4_takesInWord_55 : decode cX4_takesInWord 55 = .ok (.ireturn, 1) := by decide +kernel
theorem dX4_takesInWord_56 : decode cX4_takesInWord 56 = .ok (.iload_n 1, 1) := by decide +kernel
theorem dX4_takesInWord_57 : decode cX4_takesInWord 57 = .ok (.bipush 126, 2) := by decide +kernel
theorem dX4_takesInWord_59 : decode cX4_takesInWord 59 = .ok (.if_icmp .ne 24, 3) := by decide +kernel
theorem dX4_takesInWord_62 : decode cX4_takesInWord 62 = .ok (.aload_n 0, 1) := by decide +kernel
theorem dX4_takesInWord_63 : decode cX4_takesInWord 63 = .ok (.getfield 41, 3) := by decide +kernel
theorem dX4_takesInWord_66 : decode cX4_takesInWord 66 = .ok (.ifCond .eq 15, 3) := by decide +kernel
theorem dX4_takesInWord_69 : decode cX4_takesInWord 69 = .ok (.aload_n 0, 1) := by decide +kernel
theorem dX4_takesInWord_70 : decode cX4_takesInWord 70 = .ok (.iconst 4, 1) := by decide +kernel
theorem dX4_takesInWord_71 : decode cX4_takesInWord 71 = .ok (.invokevirtual 82, 3) := by decide +kernel
theorem dX4_takesInWord_74 : decode cX4_takesInWord 74 = .ok (.ifCond .eq 7, 3) := by decide +kernel
theorem dX4_takesInWord_77 : decode cX4_takesInWord 77 = .ok (.iconst 1, 1) := by decide +kernel
theorem dX4_takesInWord_78 : decode cX4_takesInWord 78 = .ok (.goto 4, 3) := by decide +kernel
theorem dX4_takesInWord_81 : decode cX4_takesInWord 81 = .ok (.iconst 0, 1) := by decide +kernel
theorem dX4_takesInWord_82 : decode cX4_takesInWord 82 = .ok (.ireturn, 1) := by decide +kernel
theorem dX4_takesInWord_83 : decode cX4_takesInWord 83 = .ok (.aload_n 0, 1) := by decide +kernel
theorem dX4_takesInWord_84 : decode cX4_takesInWord 84 = .ok (.iload_n 1, 1) := by decide +kernel
theorem dX4_takesInWord_85 : decode cX4_takesInWord 85 = .ok (.invokevirtual 85, 3) := by decide +kernel
theorem dX4_takesInWord_88 : decode cX4_takesInWord 88 = .ok (.ireturn, 1) := by decide +kernel
theorem dX4_isFieldLetter_0 : decode cX4_isFieldLetter 0 = .ok (.aload_n 0, 1) := by decide +kernel
theorem dX4_isFieldLetter_1 : decode cX4_isFieldLetter 1 = .ok (.getfield 31, 3) := by decide +kernel
theorem dX4_isFieldLetter_4 : decode cX4_isFieldLetter 4 = .ok (.iconst 0, 1) := by decide +kernel
theorem dX4_isFieldLetter_5 : decode cX4_isFieldLetter 5 = .ok (.invokevirtual 153, 3) := by decide +kernel
theorem dX4_isFieldLetter_8 : decode cX4_isFieldLetter 8 = .ok (.iconst 0, 1) := by decide +kernel
theorem dX4_isFieldLetter_9 : decode cX4_isFieldLetter 9 = .ok (.invokestatic 157, 3) := by decide +kernel
theorem dX4_isFieldLetter_12 : decode cX4_isFieldLetter 12 = .ok (.istore_n 1, 1) := by decide +kernel
theorem dX4_isFieldLetter_13 : decode cX4_isFieldLetter 13 = .ok (.aload_n 0, 1) := by decide +kernel
theorem dX4_isFieldLetter_14 : decode cX4_isFieldLetter 14 = .ok (.getfield 38, 3) := by decide +kernel
theorem dX4_isFieldLetter_17 : decode cX4_isFieldLetter 17 = .ok (.iconst 1, 1) := by decide +kernel
theorem dX4_isFieldLetter_18 : decode cX4_isFieldLetter 18 = .ok (.if_icmp .ne 30, 3) := by decide +kernel
theorem dX4_isFieldLetter_21 : decode cX4_isFieldLetter 21 = .ok (.aload_n 0, 1) := by decide +kernel
theorem dX4_isFieldLetter_22 : decode cX4_isFieldLetter 22 = .ok (.getfield 31, 3) := by decide +kernel
theorem dX4_isFieldLetter_25 : decode cX4_isFieldLetter 25 = .ok (.getfield 161, 3) := by decide +kernel
theorem dX4_isFieldLetter_28 : decode cX4_isFieldLetter 28 = .ok (.iconst (-1), 1) := by decide +kernel
theorem dX4_isFieldLetter_29 : decode cX4_isFieldLetter 29 = .ok (.if_icmp .ne 19, 3) := by decide +kernel
theorem dX4_isFieldLetter_32 : decode cX4_isFieldLetter 32 = .ok (.iload_n 1, 1) := by decide +kernel
theorem dX4_isFieldLetter_33 : decode cX4_isFieldLetter 33 = .ok (.bipush 97, 2) := by decide +kernel
theorem dX4_isFieldLetter_35 : decode cX4_isFieldLetter 35 = .ok (.if_icmp .lt 13, 3) := by decide +kernel
theorem dX4_isFieldLetter_38 : decode cX4_isFieldLetter 38 = .ok (.iload_n 1, 1) := by decide +kernel
theorem dX4_isFieldLetter_39 : decode cX4_isFieldLetter 39 = .ok (.bipush 101, 2) := by decide +kernel
theorem dX4_isFieldLetter_41 : decode cX4_isFieldLetter 41 = .ok (.if_icmp .ge 7, 3) := by decide +kernel
theorem dX4_isFieldLetter_44 : decode cX4_isFieldLetter 44 = .ok (.iconst 1, 1) := by decide +kernel
theorem dX4_isFieldLetter_45 : decode cX4_isFieldLetter 45 = .ok (.goto 4, 3) := by decide +kernel
theorem dX4_isFieldLetter_48 : decode cX4_isFieldLetter 48 = .ok (.iconst 0, 1) := by decide +kernel
theorem dX4_isFieldLetter_49 : decode cX4_isFieldLetter 49 = .ok (.ireturn, 1) := by decide +kernel
theorem dX4_takeField_0 : decode cX4_takeField 0 = .ok (.aload_n 0, 1) := by decide +kernel
theorem dX4_takeField_1 : decode cX4_takeField 1 = .ok (.getfield 31, 3) := by decide +kernel
theorem dX4_takeField_4 : decode cX4_takeField 4 = .ok (.invokevirtual 164, 3) := by decide +kernel
theorem dX4_takeField_7 : decode cX4_takeField 7 = .ok (.aload_n 0, 1) := by decide +kernel
theorem dX4_takeField_8 : decode cX4_takeField 8 = .ok (.iconst 2, 1) := by decide +kernel
theorem dX4_takeField_9 : decode cX4_takeField 9 = .ok (.invokevirtual 82, 3) := by decide +kernel
theorem dX4_takeField_12 : decode cX4_takeField 12 = .ok (.ireturn, 1) := by decide +kernel
theorem dX4_takesInQuote_0 : decode cX4_takesInQuote 0 = .ok (.iload_n 1, 1) := by decide +kernel
theorem dX4_takesInQuote_1 : decode cX4_takesInQuote 1 = .ok (.bipush 34, 2) := by decide +kernel
theorem dX4_takesInQuote_3 : decode cX4_takesInQuote 3 = .ok (.if_icmp .ne 10, 3) := by decide +kernel
theorem dX4_takesInQuote_6 : decode cX4_takesInQuote 6 = .ok (.aload_n 0, 1) := by decide +kernel
theorem dX4_takesInQuote_7 : decode cX4_takesInQuote 7 = .ok (.bipush 8, 2) := by decide +kernel
theorem dX4_takesInQuote_9 : decode cX4_takesInQuote 9 = .ok (.invokevirtual 82, 3) := by decide +kernel
theorem dX4_takesInQuote_12 : decode cX4_takesInQuote 12 = .ok (.ireturn, 1) := by decide +kernel
theorem dX4_takesInQuote_13 : decode cX4_takesInQuote 13 = .ok (.iload_n 1, 1) := by decide +kernel
theorem dX4_takesInQuote_14 : decode cX4_takesInQuote 14 = .ok (.bipush 32, 2) := by decide +kernel
theorem dX4_takesInQuote_16 : decode cX4_takesInQuote 16 = .ok (.if_icmp .ne 28, 3) := by decide +kernel
theorem dX4_takesInQuote_19 : decode cX4_takesInQuote 19 = .ok (.aload_n 0, 1) := by decide +kernel
theorem dX4_takesInQuote_20 : decode cX4_takesInQuote 20 = .ok (.getfield 35, 3) := by decide +kernel
theorem dX4_takesInQuote_23 : decode cX4_takesInQuote 23 = .ok (.iconst 1, 1) := by decide +kernel
theorem dX4_takesInQuote_24 : decode cX4_takesInQuote 24 = .ok (.iadd, 1) := by decide +kernel
theorem dX4_takesInQuote_25 : decode cX4_takesInQuote 25 = .ok (.iconst 5, 1) := by decide +kernel
theorem dX4_takesInQuote_26 : decode cX4_takesInQuote 26 = .ok (.if_icmp .ge 16, 3) := by decide +kernel
theorem dX4_takesInQuote_29 : decode cX4_takesInQuote 29 = .ok (.aload_n 0, 1) := by decide +kernel
theorem dX4_takesInQuote_30 : decode cX4_takesInQuote 30 = .ok (.bipush 7, 2) := by decide +kernel
theorem dX4_takesInQuote_32 : decode cX4_takesInQuote 32 = .ok (.invokevirtual 82, 3) := by decide +kernel
theorem dX4_takesInQuote_35 : decode cX4_takesInQuote 35 = .ok (.ifCond .eq 7, 3) := by decide +kernel
theorem dX4_takesInQuote_38 : decode cX4_takesInQuote 38 = .ok (.iconst 1, 1) := by decide +kernel
theorem dX4_takesInQuote_39 : decode cX4_takesInQuote 39 = .ok (.goto 4, 3) := by decide +kernel
theorem dX4_takesInQuote_42 : decode cX4_takesInQuote 42 = .ok (.iconst 0, 1) := by decide +kernel
theorem dX4_takesInQuote_43 : decode cX4_takesInQuote 43 = .ok (.ireturn, 1) := by decide +kernel
theorem dX4_takesInQuote_44 : decode cX4_takesInQuote 44 = .ok (.aload_n 0, 1) := by decide +kernel
theorem dX4_takesInQuote_45 : decode cX4_takesInQuote 45 = .ok (.iload_n 1, 1) := by decide +kernel
theorem dX4_takesInQuote_46 : decode cX4_takesInQuote 46 = .ok (.bipush 6, 2) := by decide +kernel
theorem dX4_takesInQuote_48 : decode cX4_takesInQuote 48 = .ok (.invokevirtual 73, 3) := by decide +kernel
theorem dX4_takesInQuote_51 : decode cX4_takesInQuote 51 = .ok (.ireturn, 1) := by decide +kernel
theorem dX4_takesInQuoteGap_0 : decode cX4_takesInQuoteGap 0 = .ok (.iload_n 1, 1) := by decide +kernel
theorem dX4_takesInQuoteGap_1 : decode cX4_takesInQuoteGap 1 = .ok (.bipush 32, 2) := by decide +kernel
theorem dX4_takesInQuoteGap_3 : decode cX4_takesInQuoteGap 3 = .ok (.if_icmp .ne 5, 3) := by decide +kernel
theorem dX4_takesInQuoteGap_6 : decode cX4_takesInQuoteGap 6 = .ok (.iconst 1, 1) := by decide +kernel
theorem dX4_takesInQuoteGap_7 : decode cX4_takesInQuoteGap 7 = .ok (.ireturn, 1) := by decide +kernel
theorem dX4_takesInQuoteGap_8 : decode cX4_takesInQuoteGap 8 = .ok (.iload_n 1, 1) := by decide +kernel
theorem dX4_takesInQuoteGap_9 : decode cX4_takesInQuoteGap 9 = .ok (.invokestatic 140, 3) := by decide +kernel
theorem dX4_takesInQuoteGap_12 : decode cX4_takesInQuoteGap 12 = .ok (.ifCond .eq 30, 3) := by decide +kernel
theorem dX4_takesInQuoteGap_15 : decode cX4_takesInQuoteGap 15 = .ok (.aload_n 0, 1) := by decide +kernel
theorem dX4_takesInQuoteGap_16 : decode cX4_takesInQuoteGap 16 = .ok (.aload_n 0, 1) := by decide +kernel
theorem dX4_takesInQuoteGap_17 : decode cX4_takesInQuoteGap 17 = .ok (.getfield 35, 3) := by decide +kernel
theorem dX4_takesInQuoteGap_20 : decode cX4_takesInQuoteGap 20 = .ok (.iconst 1, 1) := by decide +kernel
theorem dX4_takesInQuoteGap_21 : decode cX4_takesInQuoteGap 21 = .ok (.iadd, 1) := by decide +kernel
theorem dX4_takesInQuoteGap_22 : decode cX4_takesInQuoteGap 22 = .ok (.bipush 6, 2) := by decide +kernel
theorem dX4_takesInQuoteGap_24 : decode cX4_takesInQuoteGap 24 = .ok (.invokevirtual 91, 3) := by decide +kernel
theorem dX4_takesInQuoteGap_27 : decode cX4_takesInQuoteGap 27 = .ok (.ifCond .eq 15, 3) := by decide +kernel
theorem dX4_takesInQuoteGap_30 : decode cX4_takesInQuoteGap 30 = .ok (.aload_n 0, 1) := by decide +kernel
theorem dX4_takesInQuoteGap_31 : decode cX4_takesInQuoteGap 31 = .ok (.iload_n 1, 1) := by decide +kernel
theorem dX4_takesInQuoteGap_32 : decode cX4_takesInQuoteGap 32 = .ok (.invokevirtual 131, 3) := by decide +kernel
theorem dX4_takesInQuoteGap_35 : decode cX4_takesInQuoteGap 35 = .ok (.ifCond .eq 7, 3) := by decide +kernel
theorem dX4_takesInQuoteGap_38 : decode cX4_takesInQuoteGap 38 = .ok (.iconst 1, 1) := by decide +kernel
theorem dX4_takesInQuoteGap_39 : decode cX4_takesInQuoteGap 39 = .ok (.goto 4, 3) := by decide +kernel
theorem dX4_takesInQuoteGap_42 : decode cX4_takesInQuoteGap 42 = .ok (.iconst 0, 1) := by decide +kernel
theorem dX4_takesInQuoteGap_43 : decode cX4_takesInQuoteGap 43 = .ok (.ireturn, 1) := by decide +kernel
theorem dX4_takesInSpan_0 : decode cX4_takesInSpan 0 = .ok (.aload_n 0, 1) := by decide +kernel
theorem dX4_takesInSpan_1 : decode cX4_takesInSpan 1 = .ok (.getfield 35, 3) := by decide +kernel
theorem dX4_takesInSpan_4 : decode cX4_takesInSpan 4 = .ok (.ifCond .ne 16, 3) := by decide +kernel
theorem dX4_takesInSpan_7 : decode cX4_takesInSpan 7 = .ok (.iload_n 1, 1) := by decide +kernel
theorem dX4_takesInSpan_8 : decode cX4_takesInSpan 8 = .ok (.bipush 46, 2) := by decide +kernel
theorem dX4_takesInSpan_10 : decode cX4_takesInSpan 10 = .ok (.if_icmp .ne 10, 3) := by decide +kernel
theorem dX4_takesInSpan_13 : decode cX4_takesInSpan 13 = .ok (.aload_n 0, 1) := by decide +kernel
theorem dX4_takesInSpan_14 : decode cX4_takesInSpan 14 = .ok (.bipush 12, 2) := by decide +kernel
theorem dX4_takesInSpan_16 : decode cX4_takesInSpan 16 = .ok (.invokevirtual 82, 3) := by decide +kernel
theorem dX4_takesInSpan_19 : decode cX4_takesInSpan 19 = .ok (.ireturn, 1) := by decide +kernel
theorem dX4_takesInSpan_20 : decode cX4_takesInSpan 20 = .ok (.aload_n 0, 1) := by decide +kernel
theorem dX4_takesInSpan_21 : decode cX4_takesInSpan 21 = .ok (.getfield 35, 3) := by decide +kernel
theorem dX4_takesInSpan_24 : decode cX4_takesInSpan 24 = .ok (.iconst 1, 1) := by decide +kernel
theorem dX4_takesInSpan_25 : decode cX4_takesInSpan 25 = .ok (.if_icmp .ne 32, 3) := by decide +kernel
theorem dX4_takesInSpan_28 : decode cX4_takesInSpan 28 = .ok (.iload_n 1, 1) := by decide +kernel
theorem dX4_takesInSpan_29 : decode cX4_takesInSpan 29 = .ok (.aload_n 0, 1) := by decide +kernel
theorem dX4_takesInSpan_30 : decode cX4_takesInSpan 30 = .ok (.getfield 31, 3) := by decide +kernel
theorem dX4_takesInSpan_33 : decode cX4_takesInSpan 33 = .ok (.getfield 128, 3) := by decide +kernel
theorem dX4_takesInSpan_36 : decode cX4_takesInSpan 36 = .ok (.iconst 1, 1) := by decide +kernel
theorem dX4_takesInSpan_37 : decode cX4_takesInSpan 37 = .ok (.if_icmp .ne 8, 3) := by decide +kernel
theorem dX4_takesInSpan_40 : decode cX4_takesInSpan 40 = .ok (.bipush 125, 2) := by decide +kernel
theorem dX4_takesInSpan_42 : decode cX4_takesInSpan 42 = .ok (.goto 5, 3) := by decide +kernel
theorem dX4_takesInSpan_45 : decode cX4_takesInSpan 45 = .ok (.bipush 93, 2) := by decide +kernel
theorem dX4_takesInSpan_47 : decode cX4_takesInSpan 47 = .ok (.if_icmp .ne 10, 3) := by decide +kernel
theorem dX4_takesInSpan_50 : decode cX4_takesInSpan 50 = .ok (.aload_n 0, 1) := by decide +kernel
theorem dX4_takesInSpan_51 : decode cX4_takesInSpan 51 = .ok (.bipush 15, 2) := by decide +kernel
theorem dX4_takesInSpan_53 : decode cX4_takesInSpan 53 = .ok (.invokevirtual 82, 3) := by decide +kernel
theorem dX4_takesInSpan_56 : decode cX4_takesInSpan 56 = .ok (.ireturn, 1) := by decide +kernel
theorem dX4_takesInSpan_57 : decode cX4_takesInSpan 57 = .ok (.aload_n 0, 1) := by decide +kernel
theorem dX4_takesInSpan_58 : decode cX4_takesInSpan 58 = .ok (.iload_n 1, 1) := by decide +kernel
theorem dX4_takesInSpan_59 : decode cX4_takesInSpan 59 = .ok (.bipush 11, 2) := by decide +kernel
theorem dX4_takesInSpan_61 : decode cX4_takesInSpan 61 = .ok (.invokevirtual 73, 3) := by decide +kernel
theorem dX4_takesInSpan_64 : decode cX4_takesInSpan 64 = .ok (.ireturn, 1) := by decide +kernel
theorem dX4_takesDetail_0 : decode cX4_takesDetail 0 = .ok (.iload_n 1, 1) := by decide +kernel
theorem dX4_takesDetail_1 : decode cX4_takesDetail 1 = .ok (.iload_n 2, 1) := by decide +kernel
theorem dX4_takesDetail_2 : decode cX4_takesDetail 2 = .ok (.if_icmp .lt 8, 3) := by decide +kernel
theorem dX4_takesDetail_5 : decode cX4_takesDetail 5 = .ok (.iload_n 1, 1) := by decide +kernel
theorem dX4_takesDetail_6 : decode cX4_takesDetail 6 = .ok (.iload_n 3, 1) := by decide +kernel
theorem dX4_takesDetail_7 : decode cX4_takesDetail 7 = .ok (.if_icmp .le 5, 3) := by decide +kernel
theorem dX4_takesDetail_10 : decode cX4_takesDetail 10 = .ok (.iconst 0, 1) := by decide +kernel
theorem dX4_takesDetail_11 : decode cX4_takesDetail 11 = .ok (.ireturn, 1) := by decide +kernel
theorem dX4_takesDetail_12 : decode cX4_takesDetail 12 = .ok (.aload_n 0, 1) := by decide +kernel
theorem dX4_takesDetail_13 : decode cX4_takesDetail 13 = .ok (.getfield 31, 3) := by decide +kernel
theorem dX4_takesDetail_16 : decode cX4_takesDetail 16 = .ok (.iload_n 1, 1) := by decide +kernel
theorem dX4_takesDetail_17 : decode cX4_takesDetail 17 = .ok (.bipush 48, 2) := by decide +kernel
theorem dX4_takesDetail_19 : decode cX4_takesDetail 19 = .ok (.isub, 1) := by decide +kernel
theorem dX4_takesDetail_20 : decode cX4_takesDetail 20 = .ok (.putfield 128, 3) := by decide +kernel
theorem dX4_takesDetail_23 : decode cX4_takesDetail 23 = .ok (.aload_n 0, 1) := by decide +kernel
theorem dX4_takesDetail_24 : decode cX4_takesDetail 24 = .ok (.bipush 15, 2) := by decide +kernel
theorem dX4_takesDetail_26 : decode cX4_takesDetail 26 = .ok (.invokevirtual 82, 3) := by decide +kernel
theorem dX4_takesDetail_29 : decode cX4_takesDetail 29 = .ok (.ireturn, 1) := by decide +kernel
theorem dX4_takeBoost_0 : decode cX4_takeBoost 0 = .ok (.aload_n 0, 1) := by decide +kernel
theorem dX4_takeBoost_1 : decode cX4_takeBoost 1 = .ok (.getfield 31, 3) := by decide +kernel
theorem dX4_takeBoost_4 : decode cX4_takeBoost 4 = .ok (.iload_n 1, 1) := by decide +kernel
theorem dX4_takeBoost_5 : decode cX4_takeBoost 5 = .ok (.putfield 100, 3) := by decide +kernel
theorem dX4_takeBoost_8 : decode cX4_takeBoost 8 = .ok (.aload_n 0, 1) := by decide +kernel
theorem dX4_takeBoost_9 : decode cX4_takeBoost 9 = .ok (.iload_n 2, 1) := by decide +kernel
theorem dX4_takeBoost_10 : decode cX4_takeBoost 10 = .ok (.invokevirtual 82, 3) := by decide +kernel
theorem dX4_takeBoost_13 : decode cX4_takeBoost 13 = .ok (.ireturn, 1) := by decide +kernel
theorem dX4_takesTail_0 : decode cX4_takesTail 0 = .ok (.iload_n 1, 1) := by decide +kernel
theorem dX4_takesTail_1 : decode cX4_takesTail 1 = .ok (.bipush 94, 2) := by decide +kernel
theorem dX4_takesTail_3 : decode cX4_takesTail 3 = .ok (.if_icmp .ne 12, 3) := by decide +kernel
theorem dX4_takesTail_6 : decode cX4_takesTail 6 = .ok (.aload_n 0, 1) := by decide +kernel
theorem dX4_takesTail_7 : decode cX4_takesTail 7 = .ok (.bipush 16, 2) := by decide +kernel
theorem dX4_takesTail_9 : decode cX4_takesTail 9 = .ok (.invokevirtual 82, 3) := by decide +kernel
theorem dX4_takesTail_12 : decode cX4_takesTail 12 = .ok (.goto 8, 3) := by decide +kernel
theorem dX4_takesTail_15 : decode cX4_takesTail 15 = .ok (.aload_n 0, 1) := by decide +kernel
theorem dX4_takesTail_16 : decode cX4_takesTail 16 = .ok (.iload_n 1, 1) := by decide +kernel
theorem dX4_takesTail_17 : decode cX4_takesTail 17 = .ok (.invokevirtual 103, 3) := by decide +kernel
theorem dX4_takesTail_20 : decode cX4_takesTail 20 = .ok (.ireturn, 1) := by decide +kernel
theorem dX4_takesEnd_0 : decode cX4_takesEnd 0 = .ok (.iload_n 1, 1) := by decide +kernel
theorem dX4_takesEnd_1 : decode cX4_takesEnd 1 = .ok (.bipush 32, 2) := by decide +kernel
theorem dX4_takesEnd_3 : decode cX4_takesEnd 3 = .ok (.if_icmp .ne 11, 3) := by decide +kernel
theorem dX4_takesEnd_6 : decode cX4_takesEnd 6 = .ok (.aload_n 0, 1) := by decide +kernel
theorem dX4_takesEnd_7 : decode cX4_takesEnd 7 = .ok (.iconst 0, 1) := by decide +kernel
theorem dX4_takesEnd_8 : decode cX4_takesEnd 8 = .ok (.invokevirtual 82, 3) := by decide +kernel
theorem dX4_takesEnd_11 : decode cX4_takesEnd 11 = .ok (.goto 21, 3) := by decide +kernel
theorem dX4_takesEnd_14 : decode cX4_takesEnd 14 = .ok (.iload_n 1, 1) := by decide +kernel
theorem dX4_takesEnd_15 : decode cX4_takesEnd 15 = .ok (.bipush 41, 2) := by decide +kernel
theorem dX4_takesEnd_17 : decode cX4_takesEnd 17 = .ok (.if_icmp .ne 14, 3) := by decide +kernel
theorem dX4_takesEnd_20 : decode cX4_takesEnd 20 = .ok (.aload_n 0, 1) := by decide +kernel
theorem dX4_takesEnd_21 : decode cX4_takesEnd 21 = .ok (.invokevirtual 106, 3) := by decide +kernel
theorem dX4_takesEnd_24 : decode cX4_takesEnd 24 = .ok (.ifCond .eq 7, 3) := by decide +kernel
theorem dX4_takesEnd_27 : decode cX4_takesEnd 27 = .ok (.iconst 1, 1) := by decide +kernel
theorem dX4_takesEnd_28 : decode cX4_takesEnd 28 = .ok (.goto 4, 3) := by decide +kernel
theorem dX4_takesEnd_31 : decode cX4_takesEnd 31 = .ok (.iconst 0, 1) := by decide +kernel
theorem dX4_takesEnd_32 : decode cX4_takesEnd 32 = .ok (.ireturn, 1) := by decide +kernel
theorem dX5_init_0 : decode cX5_init 0 = .ok (.aload_n 0, 1) := by decide +kernel
theorem dX5_init_1 : decode cX5_init 1 = .ok (.invokespecial 3, 3) := by decide +kernel
theorem dX5_init_4 : decode cX5_init 4 = .ok (.aload_n 0, 1) := by decide +kernel
theorem dX5_init_5 : decode cX5_init 5 = .ok (.sipush 240, 3) := by decide +kernel
theorem dX5_init_8 : decode cX5_init 8 = .ok (.newarray .byte, 2) := by decide +kernel
theorem dX5_init_10 : decode cX5_init 10 = .ok (.putfield 9, 3) := by decide +kernel
theorem dX5_init_13 : decode cX5_init 13 = .ok (.aload_n 0, 1) := by decide +kernel
theorem dX5_init_14 : decode cX5_init 14 = .ok (.iconst (-1), 1) := by decide +kernel
theorem dX5_init_15 : decode cX5_init 15 = .ok (.putfield 15, 3) := by decide +kernel
theorem dX5_init_18 : decode cX5_init 18 = .ok (.return_, 1) := by decide +kernel
theorem dX5_isWritten_0 : decode cX5_isWritten 0 = .ok (.aload_n 0, 1) := by decide +kernel
theorem dX5_isWritten_1 : decode cX5_isWritten 1 = .ok (.getfield 15, 3) := by decide +kernel
theorem dX5_isWritten_4 : decode cX5_isWritten 4 = .ok (.iconst (-1), 1) := by decide +kernel
theorem dX5_isWritten_5 : decode cX5_isWritten 5 = .ok (.if_icmp .eq 7, 3) := by decide +kernel
theorem dX5_isWritten_8 : decode cX5_isWritten 8 = .ok (.iconst 1, 1) := by decide +kernel
theorem dX5_isWritten_9 : decode cX5_isWritten 9 = .ok (.goto 4, 3) := by decide +kernel
theorem dX5_isWritten_12 : decode cX5_isWritten 12 = .ok (.iconst 0, 1) := by decide +kernel
theorem dX5_isWritten_13 : decode cX5_isWritten 13 = .ok (.ireturn, 1) := by decide +kernel
theorem dX5_byteAt_0 : decode cX5_byteAt 0 = .ok (.iload_n 1, 1) := by decide +kernel
theorem dX5_byteAt_1 : decode cX5_byteAt 1 = .ok (.ifCond .lt 33, 3) := by decide +kernel
theorem dX5_byteAt_4 : decode cX5_byteAt 4 = .ok (.iload_n 1, 1) := by decide +kernel
theorem dX5_byteAt_5 : decode cX5_byteAt 5 = .ok (.aload_n 0, 1) := by decide +kernel
theorem dX5_byteAt_6 : decode cX5_byteAt 6 = .ok (.getfield 15, 3) := by decide +kernel
theorem dX5_byteAt_9 : decode cX5_byteAt 9 = .ok (.if_icmp .ge 25, 3) := by decide +kernel
theorem dX5_byteAt_12 : decode cX5_byteAt 12 = .ok (.iload_n 1, 1) := by decide +kernel
theorem dX5_byteAt_13 : decode cX5_byteAt 13 = .ok (.aload_n 0, 1) := by decide +kernel
theorem dX5_byteAt_14 : decode cX5_byteAt 14 = .ok (.getfield 9, 3) := by decide +kernel
theorem dX5_byteAt_17 : decode cX5_byteAt 17 = .ok (.arraylength, 1) := by decide +kernel
theorem dX5_byteAt_18 : decode cX5_byteAt 18 = .ok (.if_icmp .ge 16, 3) := by decide +kernel
theorem dX5_byteAt_21 : decode cX5_byteAt 21 = .ok (.aload_n 0, 1) := by decide +kernel
theorem dX5_byteAt_22 : decode cX5_byteAt 22 = .ok (.getfield 9, 3) := by decide +kernel
theorem dX5_byteAt_25 : decode cX5_byteAt 25 = .ok (.iload_n 1, 1) := by decide +kernel
theorem dX5_byteAt_26 : decode cX5_byteAt 26 = .ok (.baload, 1) := by decide +kernel
theorem dX5_byteAt_27 : decode cX5_byteAt 27 = .ok (.sipush 255, 3) := by decide +kernel
theorem dX5_byteAt_30 : decode cX5_byteAt 30 = .ok (.iand, 1) := by decide +kernel
theorem dX5_byteAt_31 : decode cX5_byteAt 31 = .ok (.goto 4, 3) := by decide +kernel
theorem dX5_byteAt_34 : decode cX5_byteAt 34 = .ok (.iconst (-1), 1) := by decide +kernel
theorem dX5_byteAt_35 : decode cX5_byteAt 35 = .ok (.ireturn, 1) := by decide +kernel
theorem dX5_write_0 : decode cX5_write 0 = .ok (.aload_n 0, 1) := by decide +kernel
theorem dX5_write_1 : decode cX5_write 1 = .ok (.iconst 0, 1) := by decide +kernel
theorem dX5_write_2 : decode cX5_write 2 = .ok (.putfield 15, 3) := by decide +kernel
theorem dX5_write_5 : decode cX5_write 5 = .ok (.iconst 0, 1) := by decide +kernel
theorem dX5_write_6 : decode cX5_write 6 = .ok (.istore_n 2, 1) := by decide +kernel
theorem dX5_write_7 : decode cX5_write 7 = .ok (.iconst 1, 1) := by decide +kernel
theorem dX5_write_8 : decode cX5_write 8 = .ok (.istore_n 3, 1) := by decide +kernel
theorem dX5_write_9 : decode cX5_write 9 = .ok (.iload_n 3, 1) := by decide +kernel
theorem dX5_write_10 : decode cX5_write 10 = .ok (.aload_n 1, 1) := by decide +kernel
theorem dX5_write_11 : decode cX5_write 11 = .ok (.getfield 19, 3) := by decide +kernel
theorem dX5_write_14 : decode cX5_write 14 = .ok (.if_icmp .ge 89, 3) := by decide +kernel
theorem dX5_write_17 : decode cX5_write 17 = .ok (.aload_n 1, 1) := by decide +kernel
theorem dX5_write_18 : decode cX5_write 18 = .ok (.iload_n 3, 1) := by decide +kernel
theorem dX5_write_19 : decode cX5_write 19 = .ok (.invokevirtual 24, 3) := by decide +kernel
theorem dX5_write_22 : decode cX5_write 22 = .ok (.astore 4, 2) := by decide +kernel
theorem dX5_write_24 : decode cX5_write 24 = .ok (.aload_n 0, 1) := by decide +kernel
theorem dX5_write_25 : decode cX5_write 25 = .ok (.aload_n 1, 1) := by decide +kernel
theorem dX5_write_26 : decode cX5_write 26 = .ok (.iload_n 2, 1) := by decide +kernel
theorem dX5_write_27 : decode cX5_write 27 = .ok (.aload 4, 2) := by decide +kernel
theorem dX5_write_29 : decode cX5_write 29 = .ok (.getfield 28, 3) := by decide +kernel
theorem dX5_write_32 : decode cX5_write 32 = .ok (.invokevirtual 33, 3) := by decide +kernel
theorem dX5_write_35 : decode cX5_write 35 = .ok (.istore_n 2, 1) := by decide +kernel
theorem dX5_write_36 : decode cX5_write 36 = .ok (.aload 4, 2) := by decide +kernel
theorem dX5_write_38 : decode cX5_write 38 = .ok (.getfield 28, 3) := by decide +kernel
theorem dX5_write_41 : decode cX5_write 41 = .ok (.iload_n 3, 1) := by decide +kernel
theorem dX5_write_42 : decode cX5_write 42 = .ok (.iconst 1, 1) := by decide +kernel
theorem dX5_write_43 : decode cX5_write 43 = .ok (.isub, 1) := by decide +kernel
theorem dX5_write_44 : decode cX5_write 44 = .ok (.if_icmp .eq 9, 3) := by decide +kernel
theorem dX5_write_47 : decode cX5_write 47 = .ok (.aload_n 0, 1) := by decide +kernel
theorem dX5_write_48 : decode cX5_write 48 = .ok (.bipush 32, 2) := by decide +kernel
theorem dX5_write_50 : decode cX5_write 50 = .ok (.invokevirtual 37, 3) := by decide +kernel
theorem dX5_write_53 : decode cX5_write 53 = .ok (.aload_n 0, 1) := by decide +kernel
theorem dX5_write_54 : decode cX5_write 54 = .ok (.aload 4, 2) := by decide +kernel
theorem dX5_write_56 : decode cX5_write 56 = .ok (.invokevirtual 41, 3) := by decide +kernel
theorem dX5_write_59 : decode cX5_write 59 = .ok (.aload 4, 2) := by decide +kernel
theorem dX5_write_61 : decode cX5_write 61 = .ok (.getfield 45, 3) := by decide +kernel
theorem dX5_write_64 : decode cX5_write 64 = .ok (.iconst 3, 1) := by decide +kernel
theorem dX5_write_65 : decode cX5_write 65 = .ok (.if_icmp .ne 14, 3) := by decide +kernel
theorem dX5_write_68 : decode cX5_write 68 = .ok (.aload_n 0, 1) := by decide +kernel
theorem dX5_write_69 : decode cX5_write 69 = .ok (.bipush 40, 2) := by decide +kernel
theorem dX5_write_71 : decode cX5_write 71 = .ok (.invokevirtual 37, 3) := by decide +kernel
theorem dX5_write_74 : decode cX5_write 74 = .ok (.iload_n 3, 1) := by decide +kernel
theorem dX5_write_75 : decode cX5_write 75 = .ok (.istore_n 2, 1) := by decide +kernel
end
section
theorem dX5_write_76 : decode cX5_write 76 = .ok (.goto 21, 3) := by decide +kernel
theorem dX5_write_79 : decode cX5_write 79 = .ok (.aload_n 0, 1) := by decide +kernel
theorem dX5_write_80 : decode cX5_write 80 = .ok (.aload 4, 2) := by decide +kernel
theorem dX5_write_82 : decode cX5_write 82 = .ok (.invokevirtual 48, 3) := by decide +kernel
theorem dX5_write_85 : decode cX5_write 85 = .ok (.aload_n 0, 1) := by decide +kernel
theorem dX5_write_86 : decode cX5_write 86 = .ok (.bipush 94, 2) := by decide +kernel
theorem dX5_write_88 : decode cX5_write 88 = .ok (.aload 4, 2) := by decide +kernel
theorem dX5_write_90 : decode cX5_write 90 = .ok (.getfield 51, 3) := by decide +kernel
theorem dX5_write_93 : decode cX5_write 93 = .ok (.iconst 1, 1) := by decide +kernel
theorem dX5_write_94 : decode cX5_write 94 = .ok (.invokevirtual 54, 3) := by decide +kernel
theorem dX5_write_97 : decode cX5_write 97 = .ok (.iinc 3 1, 3) := by decide +kernel
theorem dX5_write_100 : decode cX5_write 100 = .ok (.goto (-91), 3) := by decide +kernel
theorem dX5_write_103 : decode cX5_write 103 = .ok (.aload_n 0, 1) := by decide +kernel
theorem dX5_write_104 : decode cX5_write 104 = .ok (.aload_n 1, 1) := by decide +kernel
theorem dX5_write_105 : decode cX5_write 105 = .ok (.iload_n 2, 1) := by decide +kernel
theorem dX5_write_106 : decode cX5_write 106 = .ok (.iconst 0, 1) := by decide +kernel
theorem dX5_write_107 : decode cX5_write 107 = .ok (.invokevirtual 33, 3) := by decide +kernel
theorem dX5_write_110 : decode cX5_write 110 = .ok (.pop, 1) := by decide +kernel
theorem dX5_write_111 : decode cX5_write 111 = .ok (.aload_n 0, 1) := by decide +kernel
theorem dX5_write_112 : decode cX5_write 112 = .ok (.getfield 15, 3) := by decide +kernel
theorem dX5_write_115 : decode cX5_write 115 = .ok (.ireturn, 1) := by decide +kernel
theorem dX5_closeGroups_0 : decode cX5_closeGroups 0 = .ok (.iload_n 2, 1) := by decide +kernel
theorem dX5_closeGroups_1 : decode cX5_closeGroups 1 = .ok (.istore 4, 2) := by decide +kernel
theorem dX5_closeGroups_3 : decode cX5_closeGroups 3 = .ok (.iconst 0, 1) := by decide +kernel
theorem dX5_closeGroups_4 : decode cX5_closeGroups 4 = .ok (.istore 5, 2) := by decide +kernel
theorem dX5_closeGroups_6 : decode cX5_closeGroups 6 = .ok (.iload 5, 2) := by decide +kernel
theorem dX5_closeGroups_8 : decode cX5_closeGroups 8 = .ok (.iconst 5, 1) := by decide +kernel
theorem dX5_closeGroups_9 : decode cX5_closeGroups 9 = .ok (.if_icmp .ge 60, 3) := by decide +kernel
theorem dX5_closeGroups_12 : decode cX5_closeGroups 12 = .ok (.iload 4, 2) := by decide +kernel
theorem dX5_closeGroups_14 : decode cX5_closeGroups 14 = .ok (.iload_n 3, 1) := by decide +kernel
theorem dX5_closeGroups_15 : decode cX5_closeGroups 15 = .ok (.if_icmp .eq 54, 3) := by decide +kernel
theorem dX5_closeGroups_18 : decode cX5_closeGroups 18 = .ok (.aload_n 1, 1) := by decide +kernel
theorem dX5_closeGroups_19 : decode cX5_closeGroups 19 = .ok (.iload 4, 2) := by decide +kernel
theorem dX5_closeGroups_21 : decode cX5_closeGroups 21 = .ok (.invokevirtual 24, 3) := by decide +kernel
theorem dX5_closeGroups_24 : decode cX5_closeGroups 24 = .ok (.astore 6, 2) := by decide +kernel
theorem dX5_closeGroups_26 : decode cX5_closeGroups 26 = .ok (.aload_n 0, 1) := by decide +kernel
theorem dX5_closeGroups_27 : decode cX5_closeGroups 27 = .ok (.bipush 41, 2) := by decide +kernel
theorem dX5_closeGroups_29 : decode cX5_closeGroups 29 = .ok (.invokevirtual 37, 3) := by decide +kernel
theorem dX5_closeGroups_32 : decode cX5_closeGroups 32 = .ok (.aload_n 0, 1) := by decide +kernel
theorem dX5_closeGroups_33 : decode cX5_closeGroups 33 = .ok (.bipush 64, 2) := by decide +kernel
theorem dX5_closeGroups_35 : decode cX5_closeGroups 35 = .ok (.aload 6, 2) := by decide +kernel
theorem dX5_closeGroups_37 : decode cX5_closeGroups 37 = .ok (.getfield 58, 3) := by decide +kernel
theorem dX5_closeGroups_40 : decode cX5_closeGroups 40 = .ok (.iconst (-1), 1) := by decide +kernel
theorem dX5_closeGroups_41 : decode cX5_closeGroups 41 = .ok (.invokevirtual 54, 3) := by decide +kernel
theorem dX5_closeGroups_44 : decode cX5_closeGroups 44 = .ok (.aload_n 0, 1) := by decide +kernel
theorem dX5_closeGroups_45 : decode cX5_closeGroups 45 = .ok (.bipush 94, 2) := by decide +kernel
theorem dX5_closeGroups_47 : decode cX5_closeGroups 47 = .ok (.aload 6, 2) := by decide +kernel
theorem dX5_closeGroups_49 : decode cX5_closeGroups 49 = .ok (.getfield 51, 3) := by decide +kernel
theorem dX5_closeGroups_52 : decode cX5_closeGroups 52 = .ok (.iconst 1, 1) := by decide +kernel
theorem dX5_closeGroups_53 : decode cX5_closeGroups 53 = .ok (.invokevirtual 54, 3) := by decide +kernel
theorem dX5_closeGroups_56 : decode cX5_closeGroups 56 = .ok (.aload 6, 2) := by decide +kernel
theorem dX5_closeGroups_58 : decode cX5_closeGroups 58 = .ok (.getfield 28, 3) := by decide +kernel
theorem dX5_closeGroups_61 : decode cX5_closeGroups 61 = .ok (.istore 4, 2) := by decide +kernel
theorem dX5_closeGroups_63 : decode cX5_closeGroups 63 = .ok (.iinc 5 1, 3) := by decide +kernel
theorem dX5_closeGroups_66 : decode cX5_closeGroups 66 = .ok (.goto (-60), 3) := by decide +kernel
theorem dX5_closeGroups_69 : decode cX5_closeGroups 69 = .ok (.iload 4, 2) := by decide +kernel
theorem dX5_closeGroups_71 : decode cX5_closeGroups 71 = .ok (.ireturn, 1) := by decide +kernel
theorem dX5_put_0 : decode cX5_put 0 = .ok (.aload_n 0, 1) := by decide +kernel
theorem dX5_put_1 : decode cX5_put 1 = .ok (.getfield 15, 3) := by decide +kernel
theorem dX5_put_4 : decode cX5_put 4 = .ok (.ifCond .lt 36, 3) := by decide +kernel
theorem dX5_put_7 : decode cX5_put 7 = .ok (.aload_n 0, 1) := by decide +kernel
theorem dX5_put_8 : decode cX5_put 8 = .ok (.getfield 15, 3) := by decide +kernel
theorem dX5_put_11 : decode cX5_put 11 = .ok (.aload_n 0, 1) := by decide +kernel
theorem dX5_put_12 : decode cX5_put 12 = .ok (.getfield 9, 3) := by decide +kernel
theorem dX5_put_15 : decode cX5_put 15 = .ok (.arraylength, 1) := by decide +kernel
theorem dX5_put_16 : decode cX5_put 16 = .ok (.if_icmp .ge 24, 3) := by decide +kernel
theorem dX5_put_19 : decode cX5_put 19 = .ok (.aload_n 0, 1) := by decide +kernel
theorem dX5_put_20 : decode cX5_put 20 = .ok (.getfield 9, 3) := by decide +kernel
theorem dX5_put_23 : decode cX5_put 23 = .ok (.aload_n 0, 1) := by decide +kernel
theorem dX5_put_24 : decode cX5_put 24 = .ok (.getfield 15, 3) := by decide +kernel
theorem dX5_put_27 : decode cX5_put 27 = .ok (.iload_n 1, 1) := by decide +kernel
theorem dX5_put_28 : decode cX5_put 28 = .ok (.i2b, 1) := by decide +kernel
theorem dX5_put_29 : decode cX5_put 29 = .ok (.bastore, 1) := by decide +kernel
theorem dX5_put_30 : decode cX5_put 30 = .ok (.aload_n 0, 1) := by decide +kernel
theorem dX5_put_31 : decode cX5_put 31 = .ok (.dup, 1) := by decide +kernel
theorem dX5_put_32 : decode cX5_put 32 = .ok (.getfield 15, 3) := by decide +kernel
theorem dX5_put_35 : decode cX5_put 35 = .ok (.iconst 1, 1) := by decide +kernel
theorem dX5_put_36 : decode cX5_put 36 = .ok (.iadd, 1) := by decide +kernel
theorem dX5_put_37 : decode cX5_put 37 = .ok (.putfield 15, 3) := by decide +kernel
theorem dX5_put_40 : decode cX5_put 40 = .ok (.return_, 1) := by decide +kernel
theorem dX5_putHead_0 : decode cX5_putHead 0 = .ok (.aload_n 1, 1) := by decide +kernel
theorem dX5_putHead_1 : decode cX5_putHead 1 = .ok (.getfield 61, 3) := by decide +kernel
theorem dX5_putHead_4 : decode cX5_putHead 4 = .ok (.ifCond .eq 22, 3) := by decide +kernel
theorem dX5_putHead_7 : decode cX5_putHead 7 = .ok (.aload_n 0, 1) := by decide +kernel
theorem dX5_putHead_8 : decode cX5_putHead 8 = .ok (.aload_n 1, 1) := by decide +kernel
theorem dX5_putHead_9 : decode cX5_putHead 9 = .ok (.getfield 61, 3) := by decide +kernel
theorem dX5_putHead_12 : decode cX5_putHead 12 = .ok (.iconst 1, 1) := by decide +kernel
theorem dX5_putHead_13 : decode cX5_putHead 13 = .ok (.if_icmp .ne 8, 3) := by decide +kernel
theorem dX5_putHead_16 : decode cX5_putHead 16 = .ok (.bipush 43, 2) := by decide +kernel
theorem dX5_putHead_18 : decode cX5_putHead 18 = .ok (.goto 5, 3) := by decide +kernel
theorem dX5_putHead_21 : decode cX5_putHead 21 = .ok (.bipush 45, 2) := by decide +kernel
theorem dX5_putHead_23 : decode cX5_putHead 23 = .ok (.invokevirtual 37, 3) := by decide +kernel
theorem dX5_putHead_26 : decode cX5_putHead 26 = .ok (.aload_n 1, 1) := by decide +kernel
theorem dX5_putHead_27 : decode cX5_putHead 27 = .ok (.getfield 64, 3) := by decide +kernel
theorem dX5_putHead_30 : decode cX5_putHead 30 = .ok (.iconst (-1), 1) := by decide +kernel
theorem dX5_putHead_31 : decode cX5_putHead 31 = .ok (.if_icmp .eq 20, 3) := by decide +kernel
theorem dX5_putHead_34 : decode cX5_putHead 34 = .ok (.aload_n 0, 1) := by decide +kernel
theorem dX5_putHead_35 : decode cX5_putHead 35 = .ok (.bipush 97, 2) := by decide +kernel
theorem dX5_putHead_37 : decode cX5_putHead 37 = .ok (.aload_n 1, 1) := by decide +kernel
theorem dX5_putHead_38 : decode cX5_putHead 38 = .ok (.getfield 64, 3) := by decide +kernel
theorem dX5_putHead_41 : decode cX5_putHead 41 = .ok (.iadd, 1) := by decide +kernel
theorem dX5_putHead_42 : decode cX5_putHead 42 = .ok (.invokevirtual 37, 3) := by decide +kernel
theorem dX5_putHead_45 : decode cX5_putHead 45 = .ok (.aload_n 0, 1) := by decide +kernel
theorem dX5_putHead_46 : decode cX5_putHead 46 = .ok (.bipush 58, 2) := by decide +kernel
theorem dX5_putHead_48 : decode cX5_putHead 48 = .ok (.invokevirtual 37, 3) := by decide +kernel
theorem dX5_putHead_51 : decode cX5_putHead 51 = .ok (.return_, 1) := by decide +kernel
theorem dX5_putCore_0 : decode cX5_putCore 0 = .ok (.aload_n 1, 1) := by decide +kernel
theorem dX5_putCore_1 : decode cX5_putCore 1 = .ok (.getfield 45, 3) := by decide +kernel
theorem dX5_putCore_4 : decode cX5_putCore 4 = .ok (.iconst 1, 1) := by decide +kernel
theorem dX5_putCore_5 : decode cX5_putCore 5 = .ok (.if_icmp .ne 11, 3) := by decide +kernel
theorem dX5_putCore_8 : decode cX5_putCore 8 = .ok (.aload_n 0, 1) := by decide +kernel
theorem dX5_putCore_9 : decode cX5_putCore 9 = .ok (.aload_n 1, 1) := by decide +kernel
theorem dX5_putCore_10 : decode cX5_putCore 10 = .ok (.invokevirtual 67, 3) := by decide +kernel
theorem dX5_putCore_13 : decode cX5_putCore 13 = .ok (.goto 39, 3) := by decide +kernel
theorem dX5_putCore_16 : decode cX5_putCore 16 = .ok (.aload_n 1, 1) := by decide +kernel
theorem dX5_putCore_17 : decode cX5_putCore 17 = .ok (.getfield 45, 3) := by decide +kernel
theorem dX5_putCore_20 : decode cX5_putCore 20 = .ok (.iconst 2, 1) := by decide +kernel
theorem dX5_putCore_21 : decode cX5_putCore 21 = .ok (.if_icmp .ne 11, 3) := by decide +kernel
theorem dX5_putCore_24 : decode cX5_putCore 24 = .ok (.aload_n 0, 1) := by decide +kernel
theorem dX5_putCore_25 : decode cX5_putCore 25 = .ok (.aload_n 1, 1) := by decide +kernel
theorem dX5_putCore_26 : decode cX5_putCore 26 = .ok (.invokevirtual 70, 3) := by decide +kernel
theorem dX5_putCore_29 : decode cX5_putCore 29 = .ok (.goto 23, 3) := by decide +kernel
theorem dX5_putCore_32 : decode cX5_putCore 32 = .ok (.aload_n 0, 1) := by decide +kernel
theorem dX5_putCore_33 : decode cX5_putCore 33 = .ok (.aload_n 1, 1) := by decide +kernel
theorem dX5_putCore_34 : decode cX5_putCore 34 = .ok (.iconst 0, 1) := by decide +kernel
theorem dX5_putCore_35 : decode cX5_putCore 35 = .ok (.invokevirtual 73, 3) := by decide +kernel
theorem dX5_putCore_38 : decode cX5_putCore 38 = .ok (.invokevirtual 77, 3) := by decide +kernel
theorem dX5_putCore_41 : decode cX5_putCore 41 = .ok (.aload_n 0, 1) := by decide +kernel
theorem dX5_putCore_42 : decode cX5_putCore 42 = .ok (.bipush 126, 2) := by decide +kernel
theorem dX5_putCore_44 : decode cX5_putCore 44 = .ok (.aload_n 1, 1) := by decide +kernel
theorem dX5_putCore_45 : decode cX5_putCore 45 = .ok (.getfield 58, 3) := by decide +kernel
theorem dX5_putCore_48 : decode cX5_putCore 48 = .ok (.iconst 0, 1) := by decide +kernel
theorem dX5_putCore_49 : decode cX5_putCore 49 = .ok (.invokevirtual 54, 3) := by decide +kernel
theorem dX5_putCore_52 : decode cX5_putCore 52 = .ok (.return_, 1) := by decide +kernel
theorem dX5_putQuote_0 : decode cX5_putQuote 0 = .ok (.aload_n 0, 1) := by decide +kernel
theorem dX5_putQuote_1 : decode cX5_putQuote 1 = .ok (.bipush 34, 2) := by decide +kernel
theorem dX5_putQuote_3 : decode cX5_putQuote 3 = .ok (.invokevirtual 37, 3) := by decide +kernel
theorem dX5_putQuote_6 : decode cX5_putQuote 6 = .ok (.iconst 0, 1) := by decide +kernel
theorem dX5_putQuote_7 : decode cX5_putQuote 7 = .ok (.istore_n 2, 1) := by decide +kernel
theorem dX5_putQuote_8 : decode cX5_putQuote 8 = .ok (.iload_n 2, 1) := by decide +kernel
theorem dX5_putQuote_9 : decode cX5_putQuote 9 = .ok (.aload_n 1, 1) := by decide +kernel
theorem dX5_putQuote_10 : decode cX5_putQuote 10 = .ok (.getfield 81, 3) := by decide +kernel
theorem dX5_putQuote_13 : decode cX5_putQuote 13 = .ok (.if_icmp .ge 28, 3) := by decide +kernel
theorem dX5_putQuote_16 : decode cX5_putQuote 16 = .ok (.iload_n 2, 1) := by decide +kernel
theorem dX5_putQuote_17 : decode cX5_putQuote 17 = .ok (.ifCond .le 9, 3) := by decide +kernel
theorem dX5_putQuote_20 : decode cX5_putQuote 20 = .ok (.aload_n 0, 1) := by decide +kernel
theorem dX5_putQuote_21 : decode cX5_putQuote 21 = .ok (.bipush 32, 2) := by decide +kernel
theorem dX5_putQuote_23 : decode cX5_putQuote 23 = .ok (.invokevirtual 37, 3) := by decide +kernel
theorem dX5_putQuote_26 : decode cX5_putQuote 26 = .ok (.aload_n 0, 1) := by decide +kernel
theorem dX5_putQuote_27 : decode cX5_putQuote 27 = .ok (.aload_n 1, 1) := by decide +kernel
theorem dX5_putQuote_28 : decode cX5_putQuote 28 = .ok (.iload_n 2, 1) := by decide +kernel
theorem dX5_putQuote_29 : decode cX5_putQuote 29 = .ok (.invokevirtual 73, 3) := by decide +kernel
theorem dX5_putQuote_32 : decode cX5_putQuote 32 = .ok (.invokevirtual 77, 3) := by decide +kernel
theorem dX5_putQuote_35 : decode cX5_putQuote 35 = .ok (.iinc 2 1, 3) := by decide +kernel
theorem dX5_putQuote_38 : decode cX5_putQuote 38 = .ok (.goto (-30), 3) := by decide +kernel
theorem dX5_putQuote_41 : decode cX5_putQuote 41 = .ok (.aload_n 0, 1) := by decide +kernel
theorem dX5_putQuote_42 : decode cX5_putQuote 42 = .ok (.bipush 34, 2) := by decide +kernel
theorem dX5_putQuote_44 : decode cX5_putQuote 44 = .ok (.invokevirtual 37, 3) := by decide +kernel
theorem dX5_putQuote_47 : decode cX5_putQuote 47 = .ok (.aload_n 0, 1) := by decide +kernel
theorem dX5_putQuote_48 : decode cX5_putQuote 48 = .ok (.bipush 126, 2) := by decide +kernel
theorem dX5_putQuote_50 : decode cX5_putQuote 50 = .ok (.aload_n 1, 1) := by decide +kernel
theorem dX5_putQuote_51 : decode cX5_putQuote 51 = .ok (.getfield 58, 3) := by decide +kernel
theorem dX5_putQuote_54 : decode cX5_putQuote 54 = .ok (.iconst 0, 1) := by decide +kernel
theorem dX5_putQuote_55 : decode cX5_putQuote 55 = .ok (.invokevirtual 54, 3) := by decide +kernel
theorem dX5_putQuote_58 : decode cX5_putQuote 58 = .ok (.return_, 1) := by decide +kernel
theorem dX5_putSpan_0 : decode cX5_putSpan 0 = .ok (.aload_n 0, 1) := by decide +kernel
theorem dX5_putSpan_1 : decode cX5_putSpan 1 = .ok (.aload_n 1, 1) := by decide +kernel
theorem dX5_putSpan_2 : decode cX5_putSpan 2 = .ok (.getfield 58, 3) := by decide +kernel
theorem dX5_putSpan_5 : decode cX5_putSpan 5 = .ok (.iconst 1, 1) := by decide +kernel
theorem dX5_putSpan_6 : decode cX5_putSpan 6 = .ok (.if_icmp .ne 8, 3) := by decide +kernel
theorem dX5_putSpan_9 : decode cX5_putSpan 9 = .ok (.bipush 123, 2) := by decide +kernel
theorem dX5_putSpan_11 : decode cX5_putSpan 11 = .ok (.goto 5, 3) := by decide +kernel
theorem dX5_putSpan_14 : decode cX5_putSpan 14 = .ok (.bipush 91, 2) := by decide +kernel
theorem dX5_putSpan_16 : decode cX5_putSpan 16 = .ok (.invokevirtual 37, 3) := by decide +kernel
theorem dX5_putSpan_19 : decode cX5_putSpan 19 = .ok (.aload_n 0, 1) := by decide +kernel
theorem dX5_putSpan_20 : decode cX5_putSpan 20 = .ok (.aload_n 1, 1) := by decide +kernel
theorem dX5_putSpan_21 : decode cX5_putSpan 21 = .ok (.iconst 0, 1) := by decide +kernel
theorem dX5_putSpan_22 : decode cX5_putSpan 22 = .ok (.invokevirtual 73, 3) := by decide +kernel
theorem dX5_putSpan_25 : decode cX5_putSpan 25 = .ok (.invokevirtual 77, 3) := by decide +kernel
theorem dX5_putSpan_28 : decode cX5_putSpan 28 = .ok (.aload_n 0, 1) := by decide +kernel
theorem dX5_putSpan_29 : decode cX5_putSpan 29 = .ok (.bipush 46, 2) := by decide +kernel
theorem dX5_putSpan_31 : decode cX5_putSpan 31 = .ok (.invokevirtual 37, 3) := by decide +kernel
theorem dX5_putSpan_34 : decode cX5_putSpan 34 = .ok (.aload_n 0, 1) := by decide +kernel
theorem dX5_putSpan_35 : decode cX5_putSpan 35 = .ok (.bipush 46, 2) := by decide +kernel
theorem dX5_putSpan_37 : decode cX5_putSpan 37 = .ok (.invokevirtual 37, 3) := by decide +kernel
theorem dX5_putSpan_40 : decode cX5_putSpan 40 = .ok (.aload_n 0, 1) := by decide +kernel
theorem dX5_putSpan_41 : decode cX5_putSpan 41 = .ok (.aload_n 1, 1) := by decide +kernel
theorem dX5_putSpan_42 : decode cX5_putSpan 42 = .ok (.iconst 1, 1) := by decide +kernel
theorem dX5_putSpan_43 : decode cX5_putSpan 43 = .ok (.invokevirtual 73, 3) := by decide +kernel
theorem dX5_putSpan_46 : decode cX5_putSpan 46 = .ok (.invokevirtual 77, 3) := by decide +kernel
theorem dX5_putSpan_49 : decode cX5_putSpan 49 = .ok (.aload_n 0, 1) := by decide +kernel
theorem dX5_putSpan_50 : decode cX5_putSpan 50 = .ok (.aload_n 1, 1) := by decide +kernel
theorem dX5_putSpan_51 : decode cX5_putSpan 51 = .ok (.getfield 58, 3) := by decide +kernel
theorem dX5_putSpan_54 : decode cX5_putSpan 54 = .ok (.iconst 1, 1) := by decide +kernel
theorem dX5_putSpan_55 : decode cX5_putSpan 55 = .ok (.if_icmp .ne 8, 3) := by decide +kernel
theorem dX5_putSpan_58 : decode cX5_putSpan 58 = .ok (.bipush 125, 2) := by decide +kernel
theorem dX5_putSpan_60 : decode cX5_putSpan 60 = .ok (.goto 5, 3) := by decide +kernel
theorem dX5_putSpan_63 : decode cX5_putSpan 63 = .ok (.bipush 93, 2) := by decide +kernel
theorem dX5_putSpan_65 : decode cX5_putSpan 65 = .ok (.invokevirtual 37, 3) := by decide +kernel
theorem dX5_putSpan_68 : decode cX5_putSpan 68 = .ok (.return_, 1) := by decide +kernel
theorem dX5_putWord_0 : decode cX5_putWord 0 = .ok (.lload_n 1, 1) := by decide +kernel
theorem dX5_putWord_1 : decode cX5_putWord 1 = .ok (.invokestatic 84, 3) := by decide +kernel
theorem dX5_putWord_4 : decode cX5_putWord 4 = .ok (.istore_n 3, 1) := by decide +kernel
theorem dX5_putWord_5 : decode cX5_putWord 5 = .ok (.iconst 0, 1) := by decide +kernel
theorem dX5_putWord_6 : decode cX5_putWord 6 = .ok (.istore 4, 2) := by decide +kernel
theorem dX5_putWord_8 : decode cX5_putWord 8 = .ok (.iload 4, 2) := by decide +kernel
theorem dX5_putWord_10 : decode cX5_putWord 10 = .ok (.iload_n 3, 1) := by decide +kernel
theorem dX5_putWord_11 : decode cX5_putWord 11 = .ok (.if_icmp .ge 19, 3) := by decide +kernel
theorem dX5_putWord_14 : decode cX5_putWord 14 = .ok (.aload_n 0, 1) := by decide +kernel
theorem dX5_putWord_15 : decode cX5_putWord 15 = .ok (.lload_n 1, 1) := by decide +kernel
theorem dX5_putWord_16 : decode cX5_putWord 16 = .ok (.iload 4, 2) := by decide +kernel
theorem dX5_putWord_18 : decode cX5_putWord 18 = .ok (.invokestatic 90, 3) := by decide +kernel
theorem dX5_putWord_21 : decode cX5_putWord 21 = .ok (.invokevirtual 37, 3) := by decide +kernel
theorem dX5_putWord_24 : decode cX5_putWord 24 = .ok (.iinc 4 1, 3) := by decide +kernel
theorem dX5_putWord_27 : decode cX5_putWord 27 = .ok (.goto (-19), 3) := by decide +kernel
theorem dX5_putWord_30 : decode cX5_putWord 30 = .ok (.return_, 1) := by decide +kernel
theorem dX5_putTold_0 : decode cX5_putTold 0 = .ok (.iload_n 2, 1) := by decide +kernel
theorem dX5_putTold_1 : decode cX5_putTold 1 = .ok (.iload_n 3, 1) := by decide +kernel
theorem dX5_putTold_2 : decode cX5_putTold 2 = .ok (.if_icmp .ne 4, 3) := by decide +kernel
theorem dX5_putTold_5 : decode cX5_putTold 5 = .ok (.return_, 1) := by decide +kernel
theorem dX5_putTold_6 : decode cX5_putTold 6 = .ok (.aload_n 0, 1) := by decide +kernel
theorem dX5_putTold_7 : decode cX5_putTold 7 = .ok (.iload_n 1, 1) := by decide +kernel
theorem dX5_putTold_8 : decode cX5_putTold 8 = .ok (.invokevirtual 37, 3) := by decide +kernel
theorem dX5_putTold_11 : decode cX5_putTold 11 = .ok (.iload_n 2, 1) := by decide +kernel
theorem dX5_putTold_12 : decode cX5_putTold 12 = .ok (.bipush 9, 2) := by decide +kernel
theorem dX5_putTold_14 : decode cX5_putTold 14 = .ok (.if_icmp .le 14, 3) := by decide +kernel
theorem dX5_putTold_17 : decode cX5_putTold 17 = .ok (.aload_n 0, 1) := by decide +kernel
theorem dX5_putTold_18 : decode cX5_putTold 18 = .ok (.bipush 48, 2) := by decide +kernel
theorem dX5_putTold_20 : decode cX5_putTold 20 = .ok (.iload_n 2, 1) := by decide +kernel
theorem dX5_putTold_21 : decode cX5_putTold 21 = .ok (.bipush 10, 2) := by decide +kernel
theorem dX5_putTold_23 : decode cX5_putTold 23 = .ok (.idiv, 1) := by decide +kernel
theorem dX5_putTold_24 : decode cX5_putTold 24 = .ok (.iadd, 1) := by decide +kernel
theorem dX5_putTold_25 : decode cX5_putTold 25 = .ok (.invokevirtual 37, 3) := by decide +kernel
theorem dX5_putTold_28 : decode cX5_putTold 28 = .ok (.aload_n 0, 1) := by decide +kernel
theorem dX5_putTold_29 : decode cX5_putTold 29 = .ok (.bipush 48, 2) := by decide +kernel
theorem dX5_putTold_31 : decode cX5_putTold 31 = .ok (.iload_n 2, 1) := by decide +kernel
theorem dX5_putTold_32 : decode cX5_putTold 32 = .ok (.bipush 10, 2) := by decide +kernel
theorem dX5_putTold_34 : decode cX5_putTold 34 = .ok (.irem, 1) := by decide +kernel
theorem dX5_putTold_35 : decode cX5_putTold 35 = .ok (.iadd, 1) := by decide +kernel
theorem dX5_putTold_36 : decode cX5_putTold 36 = .ok (.invokevirtual 37, 3) := by decide +kernel
theorem dX5_putTold_39 : decode cX5_putTold 39 = .ok (.return_, 1) := by decide +kernel
theorem dX6_init_0 : decode cX6_init 0 = .ok (.aload_n 0, 1) := by decide +kernel
theorem dX6_init_1 : decode cX6_init 1 = .ok (.invokespecial 3, 3) := by decide +kernel
theorem dX6_init_4 : decode cX6_init 4 = .ok (.aload_n 0, 1) := by decide +kernel
theorem dX6_init_5 : decode cX6_init 5 = .ok (.sipush 384, 3) := by decide +kernel
theorem dX6_init_8 : decode cX6_init 8 = .ok (.newarray .long, 2) := by decide +kernel
theorem dX6_init_10 : decode cX6_init 10 = .ok (.putfield 9, 3) := by decide +kernel
theorem dX6_init_13 : decode cX6_init 13 = .ok (.aload_n 0, 1) := by decide +kernel
theorem dX6_init_14 : decode cX6_init 14 = .ok (.bipush 32, 2) := by decide +kernel
theorem dX6_init_16 : decode cX6_init 16 = .ok (.newarray .int, 2) := by decide +kernel
theorem dX6_init_18 : decode cX6_init 18 = .ok (.putfield 15, 3) := by decide +kernel
theorem dX6_init_21 : decode cX6_init 21 = .ok (.return_, 1) := by decide +kernel
theorem dX6_countOf_0 : decode cX6_countOf 0 = .ok (.iload_n 1, 1) := by decide +kernel
theorem dX6_countOf_1 : decode cX6_countOf 1 = .ok (.iconst 4, 1) := by decide +kernel
theorem dX6_countOf_2 : decode cX6_countOf 2 = .ok (.imul, 1) := by decide +kernel
theorem dX6_countOf_3 : decode cX6_countOf 3 = .ok (.iload_n 2, 1) := by decide +kernel
theorem dX6_countOf_4 : decode cX6_countOf 4 = .ok (.iadd, 1) := by decide +kernel
theorem dX6_countOf_5 : decode cX6_countOf 5 = .ok (.istore_n 3, 1) := by decide +kernel
theorem dX6_countOf_6 : decode cX6_countOf 6 = .ok (.iload_n 3, 1) := by decide +kernel
theorem dX6_countOf_7 : decode cX6_countOf 7 = .ok (.ifCond .lt 21, 3) := by decide +kernel
theorem dX6_countOf_10 : decode cX6_countOf 10 = .ok (.iload_n 3, 1) := by decide +kernel
theorem dX6_countOf_11 : decode cX6_countOf 11 = .ok (.aload_n 0, 1) := by decide +kernel
theorem dX6_countOf_12 : decode cX6_countOf 12 = .ok (.getfield 15, 3) := by decide +kernel
theorem dX6_countOf_15 : decode cX6_countOf 15 = .ok (.arraylength, 1) := by decide +kernel
theorem dX6_countOf_16 : decode cX6_countOf 16 = .ok (.if_icmp .ge 12, 3) := by decide +kernel
theorem dX6_countOf_19 : decode cX6_countOf 19 = .ok (.aload_n 0, 1) := by decide +kernel
theorem dX6_countOf_20 : decode cX6_countOf 20 = .ok (.getfield 15, 3) := by decide +kernel
theorem dX6_countOf_23 : decode cX6_countOf 23 = .ok (.iload_n 3, 1) := by decide +kernel
theorem dX6_countOf_24 : decode cX6_countOf 24 = .ok (.iaload, 1) := by decide +kernel
theorem dX6_countOf_25 : decode cX6_countOf 25 = .ok (.goto 4, 3) := by decide +kernel
theorem dX6_countOf_28 : decode cX6_countOf 28 = .ok (.iconst 0, 1) := by decide +kernel
theorem dX6_countOf_29 : decode cX6_countOf 29 = .ok (.ireturn, 1) := by decide +kernel
theorem dX6_wordAt_0 : decode cX6_wordAt 0 = .ok (.iload_n 1, 1) := by decide +kernel
theorem dX6_wordAt_1 : decode cX6_wordAt 1 = .ok (.iconst 4, 1) := by decide +kernel
theorem dX6_wordAt_2 : decode cX6_wordAt 2 = .ok (.imul, 1) := by decide +kernel
theorem dX6_wordAt_3 : decode cX6_wordAt 3 = .ok (.iload_n 2, 1) := by decide +kernel
theorem dX6_wordAt_4 : decode cX6_wordAt 4 = .ok (.iadd, 1) := by decide +kernel
theorem dX6_wordAt_5 : decode cX6_wordAt 5 = .ok (.bipush 12, 2) := by decide +kernel
theorem dX6_wordAt_7 : decode cX6_wordAt 7 = .ok (.imul, 1) := by decide +kernel
theorem dX6_wordAt_8 : decode cX6_wordAt 8 = .ok (.iload_n 3, 1) := by decide +kernel
theorem dX6_wordAt_9 : decode cX6_wordAt 9 = .ok (.iadd, 1) := by decide +kernel
theorem dX6_wordAt_10 : decode cX6_wordAt 10 = .ok (.istore 4, 2) := by decide +kernel
theorem dX6_wordAt_12 : decode cX6_wordAt 12 = .ok (.iload 4, 2) := by decide +kernel
theorem dX6_wordAt_14 : decode cX6_wordAt 14 = .ok (.ifCond .lt 23, 3) := by decide +kernel
theorem dX6_wordAt_17 : decode cX6_wordAt 17 = .ok (.iload 4, 2) := by decide +kernel
theorem dX6_wordAt_19 : decode cX6_wordAt 19 = .ok (.aload_n 0, 1) := by decide +kernel
theorem dX6_wordAt_20 : decode cX6_wordAt 20 = .ok (.getfield 9, 3) := by decide +kernel
theorem dX6_wordAt_23 : decode cX6_wordAt 23 = .ok (.arraylength, 1) := by decide +kernel
theorem dX6_wordAt_24 : decode cX6_wordAt 24 = .ok (.if_icmp .ge 13, 3) := by decide +kernel
theorem dX6_wordAt_27 : decode cX6_wordAt 27 = .ok (.aload_n 0, 1) := by decide +kernel
theorem dX6_wordAt_28 : decode cX6_wordAt 28 = .ok (.getfield 9, 3) := by decide +kernel
theorem dX6_wordAt_31 : decode cX6_wordAt 31 = .ok (.iload 4, 2) := by decide +kernel
theorem dX6_wordAt_33 : decode cX6_wordAt 33 = .ok (.laload, 1) := by decide +kernel
theorem dX6_wordAt_34 : decode cX6_wordAt 34 = .ok (.goto 4, 3) := by decide +kernel
theorem dX6_wordAt_37 : decode cX6_wordAt 37 = .ok (.lconst 0, 1) := by decide +kernel
theorem dX6_wordAt_38 : decode cX6_wordAt 38 = .ok (.lreturn, 1) := by decide +kernel
theorem dX6_add_0 : decode cX6_add 0 = .ok (.iload_n 1, 1) := by decide +kernel
theorem dX6_add_1 : decode cX6_add 1 = .ok (.iconst 4, 1) := by decide +kernel
theorem dX6_add_2 : decode cX6_add 2 = .ok (.imul, 1) := by decide +kernel
theorem dX6_add_3 : decode cX6_add 3 = .ok (.iload_n 2, 1) := by decide +kernel
theorem dX6_add_4 : decode cX6_add 4 = .ok (.iadd, 1) := by decide +kernel
theorem dX6_add_5 : decode cX6_add 5 = .ok (.istore 5, 2) := by decide +kernel
theorem dX6_add_7 : decode cX6_add 7 = .ok (.aload_n 0, 1) := by decide +kernel
theorem dX6_add_8 : decode cX6_add 8 = .ok (.iload_n 1, 1) := by decide +kernel
theorem dX6_add_9 : decode cX6_add 9 = .ok (.iload_n 2, 1) := by decide +kernel
theorem dX6_add_10 : decode cX6_add 10 = .ok (.invokevirtual 19, 3) := by decide +kernel
theorem dX6_add_13 : decode cX6_add 13 = .ok (.istore 6, 2) := by decide +kernel
theorem dX6_add_15 : decode cX6_add 15 = .ok (.iload 5, 2) := by decide +kernel
theorem dX6_add_17 : decode cX6_add 17 = .ok (.bipush 12, 2) := by decide +kernel
theorem dX6_add_19 : decode cX6_add 19 = .ok (.imul, 1) := by decide +kernel
theorem dX6_add_20 : decode cX6_add 20 = .ok (.iload 6, 2) := by decide +kernel
theorem dX6_add_22 : decode cX6_add 22 = .ok (.iadd, 1) := by decide +kernel
theorem dX6_add_23 : decode cX6_add 23 = .ok (.istore 7, 2) := by decide +kernel
theorem dX6_add_25 : decode cX6_add 25 = .ok (.iload 6, 2) := by decide +kernel
theorem dX6_add_27 : decode cX6_add 27 = .ok (.bipush 12, 2) := by decide +kernel
theorem dX6_add_29 : decode cX6_add 29 = .ok (.if_icmp .ge 33, 3) := by decide +kernel
theorem dX6_add_32 : decode cX6_add 32 = .ok (.iload 5, 2) := by decide +kernel
theorem dX6_add_34 : decode cX6_add 34 = .ok (.ifCond .lt 28, 3) := by decide +kernel
theorem dX6_add_37 : decode cX6_add 37 = .ok (.iload 5, 2) := by decide +kernel
theorem dX6_add_39 : decode cX6_add 39 = .ok (.aload_n 0, 1) := by decide +kernel
theorem dX6_add_40 : decode cX6_add 40 = .ok (.getfield 15, 3) := by decide +kernel
theorem dX6_add_43 : decode cX6_add 43 = .ok (.arraylength, 1) := by decide +kernel
theorem dX6_add_44 : decode cX6_add 44 = .ok (.if_icmp .ge 18, 3) := by decide +kernel
theorem dX6_add_47 : decode cX6_add 47 = .ok (.iload 7, 2) := by decide +kernel
theorem dX6_add_49 : decode cX6_add 49 = .ok (.ifCond .lt 13, 3) := by decide +kernel
theorem dX6_add_52 : decode cX6_add 52 = .ok (.iload 7, 2) := by decide +kernel
theorem dX6_add_54 : decode cX6_add 54 = .ok (.aload_n 0, 1) := by decide +kernel
theorem dX6_add_55 : decode cX6_add 55 = .ok (.getfield 9, 3) := by decide +kernel
theorem dX6_add_58 : decode cX6_add 58 = .ok (.arraylength, 1) := by decide +kernel
theorem dX6_add_59 : decode cX6_add 59 = .ok (.if_icmp .lt 6, 3) := by decide +kernel
theorem dX6_add_62 : decode cX6_add 62 = .ok (.bipush (-103), 2) := by decide +kernel
theorem dX6_add_64 : decode cX6_add 64 = .ok (.ireturn, 1) := by decide +kernel
theorem dX6_add_65 : decode cX6_add 65 = .ok (.aload_n 0, 1) := by decide +kernel
theorem dX6_add_66 : decode cX6_add 66 = .ok (.getfield 9, 3) := by decide +kernel
theorem dX6_add_69 : decode cX6_add 69 = .ok (.iload 7, 2) := by decide +kernel
theorem dX6_add_71 : decode cX6_add 71 = .ok (.lload_n 3, 1) := by decide +kernel
theorem dX6_add_72 : decode cX6_add 72 = .ok (.lastore, 1) := by decide +kernel
theorem dX6_add_73 : decode cX6_add 73 = .ok (.aload_n 0, 1) := by decide +kernel
theorem dX6_add_74 : decode cX6_add 74 = .ok (.getfield 15, 3) := by decide +kernel
theorem dX6_add_77 : decode cX6_add 77 = .ok (.iload 5, 2) := by decide +kernel
theorem dX6_add_79 : decode cX6_add 79 = .ok (.iload 6, 2) := by decide +kernel
theorem dX6_add_81 : decode cX6_add 81 = .ok (.iconst 1, 1) := by decide +kernel
theorem dX6_add_82 : decode cX6_add 82 = .ok (.iadd, 1) := by decide +kernel
theorem dX6_add_83 : decode cX6_add 83 = .ok (.iastore, 1) := by decide +kernel
theorem dX6_add_84 : decode cX6_add 84 = .ok (.aload_n 0, 1) := by decide +kernel
theorem dX6_add_85 : decode cX6_add 85 = .ok (.getfield 15, 3) := by decide +kernel
theorem dX6_add_88 : decode cX6_add 88 = .ok (.iload 5, 2) := by decide +kernel
theorem dX6_add_90 : decode cX6_add 90 = .ok (.iaload, 1) := by decide +kernel
theorem dX6_add_91 : decode cX6_add 91 = .ok (.ireturn, 1) := by decide +kernel
theorem dX6_empty_0 : decode cX6_empty 0 = .ok (.iconst 0, 1) := by decide +kernel
theorem dX6_empty_1 : decode cX6_empty 1 = .ok (.istore_n 2, 1) := by decide +kernel
theorem dX6_empty_2 : decode cX6_empty 2 = .ok (.iconst 0, 1) := by decide +kernel
theorem dX6_empty_3 : decode cX6_empty 3 = .ok (.istore_n 3, 1) := by decide +kernel
theorem dX6_empty_4 : decode cX6_empty 4 = .ok (.iload_n 3, 1) := by decide +kernel
theorem dX6_empty_5 : decode cX6_empty 5 = .ok (.iconst 4, 1) := by decide +kernel
theorem dX6_empty_6 : decode cX6_empty 6 = .ok (.if_icmp .ge 49, 3) := by decide +kernel
theorem dX6_empty_9 : decode cX6_empty 9 = .ok (.iload_n 1, 1) := by decide +kernel
theorem dX6_empty_10 : decode cX6_empty 10 = .ok (.iconst 4, 1) := by decide +kernel
theorem dX6_empty_11 : decode cX6_empty 11 = .ok (.imul, 1) := by decide +kernel
theorem dX6_empty_12 : decode cX6_empty 12 = .ok (.iload_n 3, 1) := by decide +kernel
theorem dX6_empty_13 : decode cX6_empty 13 = .ok (.iadd, 1) := by decide +kernel
theorem dX6_empty_14 : decode cX6_empty 14 = .ok (.istore 4, 2) := by decide +kernel
theorem dX6_empty_16 : decode cX6_empty 16 = .ok (.iload 4, 2) := by decide +kernel
theorem dX6_empty_18 : decode cX6_empty 18 = .ok (.ifCond .lt 31, 3) := by decide +kernel
theorem dX6_empty_21 : decode cX6_empty 21 = .ok (.iload 4, 2) := by decide +kernel
theorem dX6_empty_23 : decode cX6_empty 23 = .ok (.aload_n 0, 1) := by decide +kernel
theorem dX6_empty_24 : decode cX6_empty 24 = .ok (.getfield 15, 3) := by decide +kernel
theorem dX6_empty_27 : decode cX6_empty 27 = .ok (.arraylength, 1) := by decide +kernel
theorem dX6_empty_28 : decode cX6_empty 28 = .ok (.if_icmp .ge 21, 3) := by decide +kernel
theorem dX6_empty_31 : decode cX6_empty 31 = .ok (.iload_n 2, 1) := by decide +kernel
theorem dX6_empty_32 : decode cX6_empty 32 = .ok (.aload_n 0, 1) := by decide +kernel
theorem dX6_empty_33 : decode cX6_empty 33 = .ok (.getfield 15, 3) := by decide +kernel
theorem dX6_empty_36 : decode cX6_empty 36 = .ok (.iload 4, 2) := by decide +kernel
theorem dX6_empty_38 : decode cX6_empty 38 = .ok (.iaload, 1) := by decide +kernel
theorem dX6_empty_39 : decode cX6_empty 39 = .ok (.iadd, 1) := by decide +kernel
theorem dX6_empty_40 : decode cX6_empty 40 = .ok (.istore_n 2, 1) := by decide +kernel
theorem dX6_empty_41 : decode cX6_empty 41 = .ok (.aload_n 0, 1) := by decide +kernel
theorem dX6_empty_42 : decode cX6_empty 42 = .ok (.getfield 15, 3) := by decide +kernel
theorem dX6_empty_45 : decode cX6_empty 45 = .ok (.iload 4, 2) := by decide +kernel
theorem dX6_empty_47 : decode cX6_empty 47 = .ok (.iconst 0, 1) := by decide +kernel
theorem dX6_empty_48 : decode cX6_empty 48 = .ok (.iastore, 1) := by decide +kernel
theorem dX6_empty_49 : decode cX6_empty 49 = .ok (.iinc 3 1, 3) := by decide +kernel
theorem dX6_empty_52 : decode cX6_empty 52 = .ok (.goto (-48), 3) := by decide +kernel
theorem dX6_empty_55 : decode cX6_empty 55 = .ok (.iload_n 2, 1) := by decide +kernel
theorem dX6_empty_56 : decode cX6_empty 56 = .ok (.ireturn, 1) := by decide +kernel
theorem dX7_init_0 : decode cX7_init 0 = .ok (.aload_n 0, 1) := by decide +kernel
theorem dX7_init_1 : decode cX7_init 1 = .ok (.invokespecial 3, 3) := by decide +kernel
theorem dX7_init_4 : decode cX7_init 4 = .ok (.aload_n 0, 1) := by decide +kernel
theorem dX7_init_5 : decode cX7_init 5 = .ok (.bipush 25, 2) := by decide +kernel
theorem dX7_init_7 : decode cX7_init 7 = .ok (.anewarray 9, 3) := by decide +kernel
theorem dX7_init_10 : decode cX7_init 10 = .ok (.putfield 11, 3) := by decide +kernel
theorem dX7_init_13 : decode cX7_init 13 = .ok (.aload_n 0, 1) := by decide +kernel
theorem dX7_init_14 : decode cX7_init 14 = .ok (.iconst 0, 1) := by decide +kernel
theorem dX7_init_15 : decode cX7_init 15 = .ok (.putfield 17, 3) := by decide +kernel
theorem dX7_init_18 : decode cX7_init 18 = .ok (.iconst 0, 1) := by decide +kernel
theorem dX7_init_19 : decode cX7_init 19 = .ok (.istore_n 1, 1) := by decide +kernel
theorem dX7_init_20 : decode cX7_init 20 = .ok (.iload_n 1, 1) := by decide +kernel
theorem dX7_init_21 : decode cX7_init 21 = .ok (.aload_n 0, 1) := by decide +kernel
theorem dX7_init_22 : decode cX7_init 22 = .ok (.getfield 11, 3) := by decide +kernel
theorem dX7_init_25 : decode cX7_init 25 = .ok (.arraylength, 1) := by decide +kernel
theorem dX7_init_26 : decode cX7_init 26 = .ok (.if_icmp .ge 22, 3) := by decide +kernel
theorem dX7_init_29 : decode cX7_init 29 = .ok (.aload_n 0, 1) := by decide +kernel
theorem dX7_init_30 : decode cX7_init 30 = .ok (.getfield 11, 3) := by decide +kernel
theorem dX7_init_33 : decode cX7_init 33 = .ok (.iload_n 1, 1) := by decide +kernel
theorem dX7_init_34 : decode cX7_init 34 = .ok (.new 9, 3) := by decide +kernel
theorem dX7_init_37 : decode cX7_init 37 = .ok (.dup, 1) := by decide +kernel
theorem dX7_init_38 : decode cX7_init 38 = .ok (.invokespecial 21, 3) := by decide +kernel
theorem dX7_init_41 : decode cX7_init 41 = .ok (.aastore, 1) := by decide +kernel
theorem dX7_init_42 : decode cX7_init 42 = .ok (.iinc 1 1, 3) := by decide +kernel
theorem dX7_init_45 : decode cX7_init 45 = .ok (.goto (-25), 3) := by decide +kernel
theorem dX7_init_48 : decode cX7_init 48 = .ok (.return_, 1) := by decide +kernel
theorem dX7_isEmpty_0 : decode cX7_isEmpty 0 = .ok (.aload_n 0, 1) := by decide +kernel
theorem dX7_isEmpty_1 : decode cX7_isEmpty 1 = .ok (.getfield 17, 3) := by decide +kernel
theorem dX7_isEmpty_4 : decode cX7_isEmpty 4 = .ok (.ifCond .ne 7, 3) := by decide +kernel
theorem dX7_isEmpty_7 : decode cX7_isEmpty 7 = .ok (.iconst 1, 1) := by decide +kernel
theorem dX7_isEmpty_8 : decode cX7_isEmpty 8 = .ok (.goto 4, 3) := by decide +kernel
theorem dX7_isEmpty_11 : decode cX7_isEmpty 11 = .ok (.iconst 0, 1) := by decide +kernel
theorem dX7_isEmpty_12 : decode cX7_isEmpty 12 = .ok (.ireturn, 1) := by decide +kernel
theorem dX7_has_0 : decode cX7_has 0 = .ok (.iload_n 1, 1) := by decide +kernel
theorem dX7_has_1 : decode cX7_has 1 = .ok (.ifCond .lt 15, 3) := by decide +kernel
theorem dX7_has_4 : decode cX7_has 4 = .ok (.iload_n 1, 1) := by decide +kernel
theorem dX7_has_5 : decode cX7_has 5 = .ok (.aload_n 0, 1) := by decide +kernel
theorem dX7_has_6 : decode cX7_has 6 = .ok (.getfield 17, 3) := by decide +kernel
theorem dX7_has_9 : decode cX7_has 9 = .ok (.if_icmp .ge 7, 3) := by decide +kernel
theorem dX7_has_12 : decode cX7_has 12 = .ok (.iconst 1, 1) := by decide +kernel
theorem dX7_has_13 : decode cX7_has 13 = .ok (.goto 4, 3) := by decide +kernel
theorem dX7_has_16 : decode cX7_has 16 = .ok (.iconst 0, 1) := by decide +kernel
theorem dX7_has_17 : decode cX7_has 17 = .ok (.ireturn, 1) := by decide +kernel
theorem dX7_at_0 : decode cX7_at 0 = .ok (.iload_n 1, 1) := by decide +kernel
theorem dX7_at_1 : decode cX7_at 1 = .ok (.ifCond .lt 21, 3) := by decide +kernel
theorem dX7_at_4 : decode cX7_at 4 = .ok (.iload_n 1, 1) := by decide +kernel
theorem dX7_at_5 : decode cX7_at 5 = .ok (.aload_n 0, 1) := by decide +kernel
theorem dX7_at_6 : decode cX7_at 6 = .ok (.getfield 11, 3) := by decide +kernel
theorem dX7_at_9 : decode cX7_at 9 = .ok (.arraylength, 1) := by decide +kernel
theorem dX7_at_10 : decode cX7_at 10 = .ok (.if_icmp .ge 12, 3) := by decide +kernel
theorem dX7_at_13 : decode cX7_at 13 = .ok (.aload_n 0, 1) := by decide +kernel
theorem dX7_at_14 : decode cX7_at 14 = .ok (.getfield 11, 3) := by decide +kernel
theorem dX7_at_17 : decode cX7_at 17 = .ok (.iload_n 1, 1) := by decide +kernel
theorem dX7_at_18 : decode cX7_at 18 = .ok (.aaload, 1) := by decide +kernel
theorem dX7_at_19 : decode cX7_at 19 = .ok (.goto 9, 3) := by decide +kernel
theorem dX7_at_22 : decode cX7_at 22 = .ok (.aload_n 0, 1) := by decide +kernel
theorem dX7_at_23 : decode cX7_at 23 = .ok (.getfield 11, 3) := by decide +kernel
theorem dX7_at_26 : decode cX7_at 26 = .ok (.iconst 0, 1) := by decide +kernel
theorem dX7_at_27 : decode cX7_at 27 = .ok (.aaload, 1) := by decide +kernel
theorem dX7_at_28 : decode cX7_at 28 = .ok (.areturn, 1) := by decide +kernel
theorem dX7_begin_0 : decode cX7_begin 0 = .ok (.aload_n 0, 1) := by decide +kernel
theorem dX7_begin_1 : decode cX7_begin 1 = .ok (.iconst 1, 1) := by decide +kernel
theorem dX7_begin_2 : decode cX7_begin 2 = .ok (.putfield 17, 3) := by decide +kernel
theorem dX7_begin_5 : decode cX7_begin 5 = .ok (.aload_n 0, 1) := by decide +kernel
theorem dX7_begin_6 : decode cX7_begin 6 = .ok (.getfield 11, 3) := by decide +kernel
theorem dX7_begin_9 : decode cX7_begin 9 = .ok (.iconst 0, 1) := by decide +kernel
theorem dX7_begin_10 : decode cX7_begin 10 = .ok (.aaload, 1) := by decide +kernel
theorem dX7_begin_11 : decode cX7_begin 11 = .ok (.astore_n 1, 1) := by decide +kernel
theorem dX7_begin_12 : decode cX7_begin 12 = .ok (.aload_n 1, 1) := by decide +kernel
theorem dX7_begin_13 : decode cX7_begin 13 = .ok (.iconst 0, 1) := by decide +kernel
theorem dX7_begin_14 : decode cX7_begin 14 = .ok (.iconst (-1), 1) := by decide +kernel
theorem dX7_begin_15 : decode cX7_begin 15 = .ok (.invokevirtual 22, 3) := by decide +kernel
theorem dX7_begin_18 : decode cX7_begin 18 = .ok (.aload_n 1, 1) := by decide +kernel
theorem dX7_begin_19 : decode cX7_begin 19 = .ok (.iconst 3, 1) := by decide +kernel
theorem dX7_begin_20 : decode cX7_begin 20 = .ok (.putfield 26, 3) := by decide +kernel
theorem dX7_begin_23 : decode cX7_begin 23 = .ok (.aload_n 1, 1) := by decide +kernel
theorem dX7_begin_24 : decode cX7_begin 24 = .ok (.iconst (-1), 1) := by decide +kernel
theorem dX7_begin_25 : decode cX7_begin 25 = .ok (.putfield 29, 3) := by decide +kernel
theorem dX7_begin_28 : decode cX7_begin 28 = .ok (.return_, 1) := by decide +kernel
theorem dX7_hasRoom_0 : decode cX7_hasRoom 0 = .ok (.aload_n 0, 1) := by decide +kernel
theorem dX7_hasRoom_1 : decode cX7_hasRoom 1 = .ok (.getfield 17, 3) := by decide +kernel
theorem dX7_hasRoom_4 : decode cX7_hasRoom 4 = .ok (.iload_n 1, 1) := by decide +kernel
theorem dX7_hasRoom_5 : decode cX7_hasRoom 5 = .ok (.iadd, 1) := by decide +kernel
theorem dX7_hasRoom_6 : decode cX7_hasRoom 6 = .ok (.aload_n 0, 1) := by decide +kernel
theorem dX7_hasRoom_7 : decode cX7_hasRoom 7 = .ok (.getfield 11, 3) := by decide +kernel
theorem dX7_hasRoom_10 : decode cX7_hasRoom 10 = .ok (.arraylength, 1) := by decide +kernel
theorem dX7_hasRoom_11 : decode cX7_hasRoom 11 = .ok (.if_icmp .gt 7, 3) := by decide +kernel
theorem dX7_hasRoom_14 : decode cX7_hasRoom 14 = .ok (.iconst 1, 1) := by decide +kernel
theorem dX7_hasRoom_15 : decode cX7_hasRoom 15 = .ok (.goto 4, 3) := by decide +kernel
theorem dX7_hasRoom_18 : decode cX7_hasRoom 18 = .ok (.iconst 0, 1) := by decide +kernel
theorem dX7_hasRoom_19 : decode cX7_hasRoom 19 = .ok (.ireturn, 1) := by decide +kernel
theorem dX7_add_0 : decode cX7_add 0 = .ok (.aload_n 0, 1) := by decide +kernel
theorem dX7_add_1 : decode cX7_add 1 = .ok (.aload_n 0, 1) := by decide +kernel
theorem dX7_add_2 : decode cX7_add 2 = .ok (.getfield 17, 3) := by decide +kernel
theorem dX7_add_5 : decode cX7_add 5 = .ok (.invokevirtual 32, 3) := by decide +kernel
theorem dX7_add_8 : decode cX7_add 8 = .ok (.astore_n 3, 1) := by decide +kernel
theorem dX7_add_9 : decode cX7_add 9 = .ok (.aload_n 3, 1) := by decide +kernel
theorem dX7_add_10 : decode cX7_add 10 = .ok (.iload_n 1, 1) := by decide +kernel
theorem dX7_add_11 : decode cX7_add 11 = .ok (.iload_n 2, 1) := by decide +kernel
theorem dX7_add_12 : decode cX7_add 12 = .ok (.invokevirtual 22, 3) := by decide +kernel
theorem dX7_add_15 : decode cX7_add 15 = .ok (.aload_n 0, 1) := by decide +kernel
theorem dX7_add_16 : decode cX7_add 16 = .ok (.iload_n 2, 1) := by decide +kernel
theorem dX7_add_17 : decode cX7_add 17 = .ok (.invokevirtual 32, 3) := by decide +kernel
theorem dX7_add_20 : decode cX7_add 20 = .ok (.dup, 1) := by decide +kernel
theorem dX7_add_21 : decode cX7_add 21 = .ok (.getfield 36, 3) := by decide +kernel
theorem dX7_add_24 : decode cX7_add 24 = .ok (.iconst 1, 1) := by decide +kernel
theorem dX7_add_25 : decode cX7_add 25 = .ok (.iadd, 1) := by decide +kernel
theorem dX7_add_26 : decode cX7_add 26 = .ok (.putfield 36, 3) := by decide +kernel
theorem dX7_add_29 : decode cX7_add 29 = .ok (.aload_n 0, 1) := by decide +kernel
theorem dX7_add_30 : decode cX7_add 30 = .ok (.dup, 1) := by decide +kernel
theorem dX7_add_31 : decode cX7_add 31 = .ok (.getfield 17, 3) := by decide +kernel
theorem dX7_add_34 : decode cX7_add 34 = .ok (.iconst 1, 1) := by decide +kernel
theorem dX7_add_35 : decode cX7_add 35 = .ok (.iadd, 1) := by decide +kernel
theorem dX7_add_36 : decode cX7_add 36 = .ok (.putfield 17, 3) := by decide +kernel
theorem dX7_add_39 : decode cX7_add 39 = .ok (.aload_n 3, 1) := by decide +kernel
theorem dX7_add_40 : decode cX7_add 40 = .ok (.areturn, 1) := by decide +kernel
theorem dX7_fieldOf_0 : decode cX7_fieldOf 0 = .ok (.aload_n 0, 1) := by decide +kernel
theorem dX7_fieldOf_1 : decode cX7_fieldOf 1 = .ok (.iload_n 1, 1) := by decide +kernel
theorem dX7_fieldOf_2 : decode cX7_fieldOf 2 = .ok (.invokevirtual 32, 3) := by decide +kernel
theorem dX7_fieldOf_5 : decode cX7_fieldOf 5 = .ok (.astore_n 2, 1) := by decide +kernel
theorem dX7_fieldOf_6 : decode cX7_fieldOf 6 = .ok (.iconst 0, 1) := by decide +kernel
theorem dX7_fieldOf_7 : decode cX7_fieldOf 7 = .ok (.istore_n 3, 1) := by decide +kernel
theorem dX7_fieldOf_8 : decode cX7_fieldOf 8 = .ok (.iload_n 3, 1) := by decide +kernel
theorem dX7_fieldOf_9 : decode cX7_fieldOf 9 = .ok (.iconst 5, 1) := by decide +kernel
theorem dX7_fieldOf_10 : decode cX7_fieldOf 10 = .ok (.if_icmp .gt 37, 3) := by decide +kernel
theorem dX7_fieldOf_13 : decode cX7_fieldOf 13 = .ok (.aload_n 2, 1) := by decide +kernel
theorem dX7_fieldOf_14 : decode cX7_fieldOf 14 = .ok (.getfield 39, 3) := by decide +kernel
theorem dX7_fieldOf_17 : decode cX7_fieldOf 17 = .ok (.iconst (-1), 1) := by decide +kernel
theorem dX7_fieldOf_18 : decode cX7_fieldOf 18 = .ok (.if_icmp .ne 29, 3) := by decide +kernel
theorem dX7_fieldOf_21 : decode cX7_fieldOf 21 = .ok (.aload_n 0, 1) := by decide +kernel
theorem dX7_fieldOf_22 : decode cX7_fieldOf 22 = .ok (.aload_n 2, 1) := by decide +kernel
theorem dX7_fieldOf_23 : decode cX7_fieldOf 23 = .ok (.getfield 42, 3) := by decide +kernel
theorem dX7_fieldOf_26 : decode cX7_fieldOf 26 = .ok (.invokevirtual 45, 3) := by decide +kernel
theorem dX7_fieldOf_29 : decode cX7_fieldOf 29 = .ok (.ifCond .eq 18, 3) := by decide +kernel
theorem dX7_fieldOf_32 : decode cX7_fieldOf 32 = .ok (.aload_n 0, 1) := by decide +kernel
theorem dX7_fieldOf_33 : decode cX7_fieldOf 33 = .ok (.aload_n 2, 1) := by decide +kernel
theorem dX7_fieldOf_34 : decode cX7_fieldOf 34 = .ok (.getfield 42, 3) := by decide +kernel
theorem dX7_fieldOf_37 : decode cX7_fieldOf 37 = .ok (.invokevirtual 32, 3) := by decide +kernel
theorem dX7_fieldOf_40 : decode cX7_fieldOf 40 = .ok (.astore_n 2, 1) := by decide +kernel
theorem dX7_fieldOf_41 : decode cX7_fieldOf 41 = .ok (.iinc 3 1, 3) := by decide +kernel
theorem dX7_fieldOf_44 : decode cX7_fieldOf 44 = .ok (.goto (-36), 3) := by decide +kernel
theorem dX7_fieldOf_47 : decode cX7_fieldOf 47 = .ok (.aload_n 2, 1) := by decide +kernel
theorem dX7_fieldOf_48 : decode cX7_fieldOf 48 = .ok (.getfield 39, 3) := by decide +kernel
theorem dX7_fieldOf_51 : decode cX7_fieldOf 51 = .ok (.ireturn, 1) := by decide +kernel
theorem dX8_init_0 : decode cX8_init 0 = .ok (.aload_n 0, 1) := by decide +kernel
theorem dX8_init_1 : decode cX8_init 1 = .ok (.invokespecial 1, 3) := by decide +kernel
theorem dX8_init_4 : decode cX8_init 4 = .ok (.aload_n 0, 1) := by decide +kernel
theorem dX8_init_5 : decode cX8_init 5 = .ok (.sipush 240, 3) := by decide +kernel
theorem dX8_init_8 : decode cX8_init 8 = .ok (.newarray .byte, 2) := by decide +kernel
theorem dX8_init_10 : decode cX8_init 10 = .ok (.putfield 9, 3) := by decide +kernel
theorem dX8_init_13 : decode cX8_init 13 = .ok (.aload_n 0, 1) := by decide +kernel
theorem dX8_init_14 : decode cX8_init 14 = .ok (.iconst 0, 1) := by decide +kernel
theorem dX8_init_15 : decode cX8_init 15 = .ok (.putfield 13, 3) := by decide +kernel
theorem dX8_init_18 : decode cX8_init 18 = .ok (.aload_n 0, 1) := by decide +kernel
theorem dX8_init_19 : decode cX8_init 19 = .ok (.sipush 240, 3) := by decide +kernel
theorem dX8_init_22 : decode cX8_init 22 = .ok (.newarray .int, 2) := by decide +kernel
theorem dX8_init_24 : decode cX8_init 24 = .ok (.putfield 17, 3) := by decide +kernel
theorem dX8_init_27 : decode cX8_init 27 = .ok (.aload_n 0, 1) := by decide +kernel
theorem dX8_init_28 : decode cX8_init 28 = .ok (.sipush 240, 3) := by decide +kernel
theorem dX8_init_31 : decode cX8_init 31 = .ok (.newarray .int, 2) := by decide +kernel
theorem dX8_init_33 : decode cX8_init 33 = .ok (.putfield 21, 3) := by decide +kernel
theorem dX8_init_36 : decode cX8_init 36 = .ok (.aload_n 0, 1) := by decide +kernel
theorem dX8_init_37 : decode cX8_init 37 = .ok (.iconst 0, 1) := by decide +kernel
theorem dX8_init_38 : decode cX8_init 38 = .ok (.putfield 24, 3) := by decide +kernel
theorem dX8_init_41 : decode cX8_init 41 = .ok (.aload_n 0, 1) := by decide +kernel
theorem dX8_init_42 : decode cX8_init 42 = .ok (.new 27, 3) := by decide +kernel
theorem dX8_init_45 : decode cX8_init 45 = .ok (.dup, 1) := by decide +kernel
theorem dX8_init_46 : decode cX8_init 46 = .ok (.invokespecial 29, 3) := by decide +kernel
theorem dX8_init_49 : decode cX8_init 49 = .ok (.putfield 30, 3) := by decide +kernel
theorem dX8_init_52 : decode cX8_init 52 = .ok (.aload_n 0, 1) := by decide +kernel
theorem dX8_init_53 : decode cX8_init 53 = .ok (.new 34, 3) := by decide +kernel
theorem dX8_init_56 : decode cX8_init 56 = .ok (.dup, 1) := by decide +kernel
theorem dX8_init_57 : decode cX8_init 57 = .ok (.invokespecial 36, 3) := by decide +kernel
theorem dX8_init_60 : decode cX8_init 60 = .ok (.putfield 37, 3) := by decide +kernel
theorem dX8_init_63 : decode cX8_init 63 = .ok (.aload_n 0, 1) := by decide +kernel
theorem dX8_init_64 : decode cX8_init 64 = .ok (.new 41, 3) := by decide +kernel
theorem dX8_init_67 : decode cX8_init 67 = .ok (.dup, 1) := by decide +kernel
theorem dX8_init_68 : decode cX8_init 68 = .ok (.invokespecial 43, 3) := by decide +kernel
theorem dX8_init_71 : decode cX8_init 71 = .ok (.putfield 44, 3) := by decide +kernel
theorem dX8_init_74 : decode cX8_init 74 = .ok (.aload_n 0, 1) := by decide +kernel
theorem dX8_init_75 : decode cX8_init 75 = .ok (.new 48, 3) := by decide +kernel
theorem dX8_init_78 : decode cX8_init 78 = .ok (.dup, 1) := by decide +kernel
theorem dX8_init_79 : decode cX8_init 79 = .ok (.invokespecial 50, 3) := by decide +kernel
theorem dX8_init_82 : decode cX8_init 82 = .ok (.putfield 51, 3) := by decide +kernel
theorem dX8_init_85 : decode cX8_init 85 = .ok (.aload_n 0, 1) := by decide +kernel
theorem dX8_init_86 : decode cX8_init 86 = .ok (.bipush 8, 2) := by decide +kernel
theorem dX8_init_88 : decode cX8_init 88 = .ok (.newarray .long, 2) := by decide +kernel
theorem dX8_init_90 : decode cX8_init 90 = .ok (.putfield 55, 3) := by decide +kernel
theorem dX8_init_93 : decode cX8_init 93 = .ok (.return_, 1) := by decide +kernel
theorem dX8_feed_0 : decode cX8_feed 0 = .ok (.iload_n 1, 1) := by decide +kernel
theorem dX8_feed_1 : decode cX8_feed 1 = .ok (.iconst 1, 1) := by decide +kernel
theorem dX8_feed_2 : decode cX8_feed 2 = .ok (.if_icmp .lt 9, 3) := by decide +kernel
theorem dX8_feed_5 : decode cX8_feed 5 = .ok (.iload_n 1, 1) := by decide +kernel
theorem dX8_feed_6 : decode cX8_feed 6 = .ok (.bipush 8, 2) := by decide +kernel
theorem dX8_feed_8 : decode cX8_feed 8 = .ok (.if_icmp .le 6, 3) := by decide +kernel
theorem dX8_feed_11 : decode cX8_feed 11 = .ok (.bipush (-102), 2) := by decide +kernel
theorem dX8_feed_13 : decode cX8_feed 13 = .ok (.ireturn, 1) := by decide +kernel
theorem dX8_feed_14 : decode cX8_feed 14 = .ok (.aload_n 0, 1) := by decide +kernel
theorem dX8_feed_15 : decode cX8_feed 15 = .ok (.getfield 13, 3) := by decide +kernel
theorem dX8_feed_18 : decode cX8_feed 18 = .ok (.iload_n 1, 1) := by decide +kernel
theorem dX8_feed_19 : decode cX8_feed 19 = .ok (.iadd, 1) := by decide +kernel
theorem dX8_feed_20 : decode cX8_feed 20 = .ok (.sipush 240, 3) := by decide +kernel
theorem dX8_feed_23 : decode cX8_feed 23 = .ok (.if_icmp .le 6, 3) := by decide +kernel
theorem dX8_feed_26 : decode cX8_feed 26 = .ok (.bipush (-103), 2) := by decide +kernel
theorem dX8_feed_28 : decode cX8_feed 28 = .ok (.ireturn, 1) := by decide +kernel
theorem dX8_feed_29 : decode cX8_feed 29 = .ok (.bipush 8, 2) := by decide +kernel
theorem dX8_feed_31 : decode cX8_feed 31 = .ok (.iload_n 1, 1) := by decide +kernel
theorem dX8_feed_32 : decode cX8_feed 32 = .ok (.iconst 1, 1) := by decide +kernel
theorem dX8_feed_33 : decode cX8_feed 33 = .ok (.isub, 1) := by decide +kernel
theorem dX8_feed_34 : decode cX8_feed 34 = .ok (.imul, 1) := by decide +kernel
theorem dX8_feed_35 : decode cX8_feed 35 = .ok (.istore 4, 2) := by decide +kernel
theorem dX8_feed_37 : decode cX8_feed 37 = .ok (.iload 4, 2) := by decide +kernel
theorem dX8_feed_39 : decode cX8_feed 39 = .ok (.ifCond .lt 44, 3) := by decide +kernel
theorem dX8_feed_42 : decode cX8_feed 42 = .ok (.aload_n 0, 1) := by decide +kernel
theorem dX8_feed_43 : decode cX8_feed 43 = .ok (.getfield 13, 3) := by decide +kernel
theorem dX8_feed_46 : decode cX8_feed 46 = .ok (.sipush 240, 3) := by decide +kernel
theorem dX8_feed_49 : decode cX8_feed 49 = .ok (.if_icmp .ge 34, 3) := by decide +kernel
theorem dX8_feed_52 : decode cX8_feed 52 = .ok (.aload_n 0, 1) := by decide +kernel
theorem dX8_feed_53 : decode cX8_feed 53 = .ok (.getfield 9, 3) := by decide +kernel
theorem dX8_feed_56 : decode cX8_feed 56 = .ok (.aload_n 0, 1) := by decide +kernel
theorem dX8_feed_57 : decode cX8_feed 57 = .ok (.getfield 13, 3) := by decide +kernel
theorem dX8_feed_60 : decode cX8_feed 60 = .ok (.lload_n 2, 1) := by decide +kernel
theorem dX8_feed_61 : decode cX8_feed 61 = .ok (.iload 4, 2) := by decide +kernel
theorem dX8_feed_63 : decode cX8_feed 63 = .ok (.lushr, 1) := by decide +kernel
theorem dX8_feed_64 : decode cX8_feed 64 = .ok (.l2i, 1) := by decide +kernel
theorem dX8_feed_65 : decode cX8_feed 65 = .ok (.i2b, 1) := by decide +kernel
theorem dX8_feed_66 : decode cX8_feed 66 = .ok (.bastore, 1) := by decide +kernel
theorem dX8_feed_67 : decode cX8_feed 67 = .ok (.aload_n 0, 1) := by decide +kernel
theorem dX8_feed_68 : decode cX8_feed 68 = .ok (.dup, 1) := by decide +kernel
theorem dX8_feed_69 : decode cX8_feed 69 = .ok (.getfield 13, 3) := by decide +kernel
theorem dX8_feed_72 : decode cX8_feed 72 = .ok (.iconst 1, 1) := by decide +kernel
theorem dX8_feed_73 : decode cX8_feed 73 = .ok (.iadd, 1) := by decide +kernel
theorem dX8_feed_74 : decode cX8_feed 74 = .ok (.putfield 13, 3) := by decide +kernel
theorem dX8_feed_77 : decode cX8_feed 77 = .ok (.iinc 4 (-8), 3) := by decide +kernel
theorem dX8_feed_80 : decode cX8_feed 80 = .ok (.goto (-43), 3) := by decide +kernel
theorem dX8_feed_83 : decode cX8_feed 83 = .ok (.aload_n 0, 1) := by decide +kernel
theorem dX8_feed_84 : decode cX8_feed 84 = .ok (.getfield 13, 3) := by decide +kernel
theorem dX8_feed_87 : decode cX8_feed 87 = .ok (.ireturn, 1) := by decide +kernel
theorem dX8_read_0 : decode cX8_read 0 = .ok (.aload_n 0, 1) := by decide +kernel
theorem dX8_read_1 : decode cX8_read 1 = .ok (.getfield 13, 3) := by decide +kernel
theorem dX8_read_4 : decode cX8_read 4 = .ok (.istore_n 1, 1) := by decide +kernel
theorem dX8_read_5 : decode cX8_read 5 = .ok (.aload_n 0, 1) := by decide +kernel
theorem dX8_read_6 : decode cX8_read 6 = .ok (.iconst 0, 1) := by decide +kernel
theorem dX8_read_7 : decode cX8_read 7 = .ok (.putfield 13, 3) := by decide +kernel
theorem dX8_read_10 : decode cX8_read 10 = .ok (.aload_n 0, 1) := by decide +kernel
theorem dX8_read_11 : decode cX8_read 11 = .ok (.getfield 37, 3) := by decide +kernel
theorem dX8_read_14 : decode cX8_read 14 = .ok (.invokevirtual 59, 3) := by decide +kernel
theorem dX8_read_17 : decode cX8_read 17 = .ok (.iconst 0, 1) := by decide +kernel
theorem dX8_read_18 : decode cX8_read 18 = .ok (.istore_n 2, 1) := by decide +kernel
theorem dX8_read_19 : decode cX8_read 19 = .ok (.iload_n 2, 1) := by decide +kernel
theorem dX8_read_20 : decode cX8_read 20 = .ok (.iload_n 1, 1) := by decide +kernel
theorem dX8_read_21 : decode cX8_read 21 = .ok (.if_icmp .ge 42, 3) := by decide +kernel
theorem dX8_read_24 : decode cX8_read 24 = .ok (.iload_n 2, 1) := by decide +kernel
theorem dX8_read_25 : decode cX8_read 25 = .ok (.sipush 240, 3) := by decide +kernel
theorem dX8_read_28 : decode cX8_read 28 = .ok (.if_icmp .ge 35, 3) := by decide +kernel
theorem dX8_read_31 : decode cX8_read 31 = .ok (.aload_n 0, 1) := by decide +kernel
theorem dX8_read_32 : decode cX8_read 32 = .ok (.getfield 37, 3) := by decide +kernel
theorem dX8_read_35 : decode cX8_read 35 = .ok (.aload_n 0, 1) := by decide +kernel
theorem dX8_read_36 : decode cX8_read 36 = .ok (.getfield 9, 3) := by decide +kernel
theorem dX8_read_39 : decode cX8_read 39 = .ok (.iload_n 2, 1) := by decide +kernel
theorem dX8_read_40 : decode cX8_read 40 = .ok (.baload, 1) := by decide +kernel
theorem dX8_read_41 : decode cX8_read 41 = .ok (.sipush 255, 3) := by decide +kernel
theorem dX8_read_44 : decode cX8_read 44 = .ok (.iand, 1) := by decide +kernel
theorem dX8_read_45 : decode cX8_read 45 = .ok (.invokevirtual 62, 3) := by decide +kernel
theorem dX8_read_48 : decode cX8_read 48 = .ok (.ifCond .ne 9, 3) := by decide +kernel
theorem dX8_read_51 : decode cX8_read 51 = .ok (.sipush (-200), 3) := by decide +kernel
theorem dX8_read_54 : decode cX8_read 54 = .ok (.iload_n 2, 1) := by decide +kernel
theorem dX8_read_55 : decode cX8_read 55 = .ok (.isub, 1) := by decide +kernel
theorem dX8_read_56 : decode cX8_read 56 = .ok (.ireturn, 1) := by decide +kernel
theorem dX8_read_57 : decode cX8_read 57 = .ok (.iinc 2 1, 3) := by decide +kernel
theorem dX8_read_60 : decode cX8_read 60 = .ok (.goto (-41), 3) := by decide +kernel
theorem dX8_read_63 : decode cX8_read 63 = .ok (.aload_n 0, 1) := by decide +kernel
theorem dX8_read_64 : decode cX8_read 64 = .ok (.getfield 37, 3) := by decide +kernel
theorem dX8_read_67 : decode cX8_read 67 = .ok (.invokevirtual 66, 3) := by decide +kernel
theorem dX8_read_70 : decode cX8_read 70 = .ok (.ifCond .eq 10, 3) := by decide +kernel
theorem dX8_read_73 : decode cX8_read 73 = .ok (.aload_n 0, 1) := by decide +kernel
theorem dX8_read_74 : decode cX8_read 74 = .ok (.invokevirtual 70, 3) := by decide +kernel
theorem dX8_read_77 : decode cX8_read 77 = .ok (.goto 8, 3) := by decide +kernel
theorem dX8_read_80 : decode cX8_read 80 = .ok (.sipush (-200), 3) := by decide +kernel
theorem dX8_read_83 : decode cX8_read 83 = .ok (.iload_n 1, 1) := by decide +kernel
theorem dX8_read_84 : decode cX8_read 84 = .ok (.isub, 1) := by decide +kernel
theorem dX8_read_85 : decode cX8_read 85 = .ok (.ireturn, 1) := by decide +kernel
theorem dX8_lenient_0 : decode cX8_lenient 0 = .ok (.aload_n 0, 1) := by decide +kernel
theorem dX8_lenient_1 : decode cX8_lenient 1 = .ok (.getfield 13, 3) := by decide +kernel
theorem dX8_lenient_4 : decode cX8_lenient 4 = .ok (.istore_n 1, 1) := by decide +kernel
theorem dX8_lenient_5 : decode cX8_lenient 5 = .ok (.aload_n 0, 1) := by decide +kernel
theorem dX8_lenient_6 : decode cX8_lenient 6 = .ok (.iconst 0, 1) := by decide +kernel
theorem dX8_lenient_7 : decode cX8_lenient 7 = .ok (.putfield 13, 3) := by decide +kernel
theorem dX8_lenient_10 : decode cX8_lenient 10 = .ok (.aload_n 0, 1) := by decide +kernel
theorem dX8_lenient_11 : decode cX8_lenient 11 = .ok (.iconst 0, 1) := by decide +kernel
theorem dX8_lenient_12 : decode cX8_lenient 12 = .ok (.putfield 24, 3) := by decide +kernel
theorem dX8_lenient_15 : decode cX8_lenient 15 = .ok (.iconst 0, 1) := by decide +kernel
theorem dX8_lenient_16 : decode cX8_lenient 16 = .ok (.istore_n 2, 1) := by decide +kernel
theorem dX8_lenient_17 : decode cX8_lenient 17 = .ok (.iconst 0, 1) := by decide +kernel
theorem dX8_lenient_18 : decode cX8_lenient 18 = .ok (.istore_n 3, 1) := by decide +kernel
theorem dX8_lenient_19 : decode cX8_lenient 19 = .ok (.aload_n 0, 1) := by decide +kernel
theorem dX8_lenient_20 : decode cX8_lenient 20 = .ok (.getfield 37, 3) := by decide +kernel
theorem dX8_lenient_23 : decode cX8_lenient 23 = .ok (.invokevirtual 59, 3) := by decide +kernel
theorem dX8_lenient_26 : decode cX8_lenient 26 = .ok (.iconst 0, 1) := by decide +kernel
theorem dX8_lenient_27 : decode cX8_lenient 27 = .ok (.istore 4, 2) := by decide +kernel
theorem dX8_lenient_29 : decode cX8_lenient 29 = .ok (.iload 4, 2) := by decide +kernel
theorem dX8_lenient_31 : decode cX8_lenient 31 = .ok (.iload_n 1, 1) := by decide +kernel
theorem dX8_lenient_32 : decode cX8_lenient 32 = .ok (.if_icmp .ge 93, 3) := by decide +kernel
theorem dX8_lenient_35 : decode cX8_lenient 35 = .ok (.iload 4, 2) := by decide +kernel
theorem dX8_lenient_37 : decode cX8_lenient 37 = .ok (.sipush 240, 3) := by decide +kernel
theorem dX8_lenient_40 : decode cX8_lenient 40 = .ok (.if_icmp .ge 85, 3) := by decide +kernel
theorem dX8_lenient_43 : decode cX8_lenient 43 = .ok (.iload_n 2, 1) := by decide +kernel
theorem dX8_lenient_44 : decode cX8_lenient 44 = .ok (.iload 4, 2) := by decide +kernel
theorem dX8_lenient_46 : decode cX8_lenient 46 = .ok (.if_icmp .gt 79, 3) := by decide +kernel
theorem dX8_lenient_49 : decode cX8_lenient 49 = .ok (.aload_n 0, 1) := by decide +kernel
theorem dX8_lenient_50 : decode cX8_lenient 50 = .ok (.getfield 37, 3) := by decide +kernel
theorem dX8_lenient_53 : decode cX8_lenient 53 = .ok (.aload_n 0, 1) := by decide +kernel
theorem dX8_lenient_54 : decode cX8_lenient 54 = .ok (.getfield 9, 3) := by decide +kernel
theorem dX8_lenient_57 : decode cX8_lenient 57 = .ok (.iload 4, 2) := by decide +kernel
theorem dX8_lenient_59 : decode cX8_lenient 59 = .ok (.baload, 1) := by decide +kernel
theorem dX8_lenient_60 : decode cX8_lenient 60 = .ok (.sipush 255, 3) := by decide +kernel
theorem dX8_lenient_63 : decode cX8_lenient 63 = .ok (.iand, 1) := by decide +kernel
theorem dX8_lenient_64 : decode cX8_lenient 64 = .ok (.invokevirtual 62, 3) := by decide +kernel
theorem dX8_lenient_67 : decode cX8_lenient 67 = .ok (.ifCond .eq 46, 3) := by decide +kernel
theorem dX8_lenient_70 : decode cX8_lenient 70 = .ok (.aload_n 0, 1) := by decide +kernel
theorem dX8_lenient_71 : decode cX8_lenient 71 = .ok (.getfield 9, 3) := by decide +kernel
theorem dX8_lenient_74 : decode cX8_lenient 74 = .ok (.iload_n 2, 1) := by decide +kernel
theorem dX8_lenient_75 : decode cX8_lenient 75 = .ok (.aload_n 0, 1) := by decide +kernel
theorem dX8_lenient_76 : decode cX8_lenient 76 = .ok (.getfield 9, 3) := by decide +kernel
theorem dX8_lenient_79 : decode cX8_lenient 79 = .ok (.iload 4, 2) := by decide +kernel
theorem dX8_lenient_81 : decode cX8_lenient 81 = .ok (.baload, 1) := by decide +kernel
theorem dX8_lenient_82 : decode cX8_lenient 82 = .ok (.bastore, 1) := by decide +kernel
theorem dX8_lenient_83 : decode cX8_lenient 83 = .ok (.aload_n 0, 1) := by decide +kernel
theorem dX8_lenient_84 : decode cX8_lenient 84 = .ok (.getfield 17, 3) := by decide +kernel
theorem dX8_lenient_87 : decode cX8_lenient 87 = .ok (.iload_n 2, 1) := by decide +kernel
theorem dX8_lenient_88 : decode cX8_lenient 88 = .ok (.iload 4, 2) := by decide +kernel
theorem dX8_lenient_90 : decode cX8_lenient 90 = .ok (.iastore, 1) := by decide +kernel
theorem dX8_lenient_91 : decode cX8_lenient 91 = .ok (.iinc 2 1, 3) := by decide +kernel
theorem dX8_lenient_94 : decode cX8_lenient 94 = .ok (.aload_n 0, 1) := by decide +kernel
theorem dX8_lenient_95 : decode cX8_lenient 95 = .ok (.getfield 37, 3) := by decide +kernel
theorem dX8_lenient_98 : decode cX8_lenient 98 = .ok (.invokevirtual 66, 3) := by decide +kernel
theorem dX8_lenient_101 : decode cX8_lenient 101 = .ok (.ifCond .eq 7, 3) := by decide +kernel
theorem dX8_lenient_104 : decode cX8_lenient 104 = .ok (.iload_n 2, 1) := by decide +kernel
theorem dX8_lenient_105 : decode cX8_lenient 105 = .ok (.goto 4, 3) := by decide +kernel
theorem dX8_lenient_108 : decode cX8_lenient 108 = .ok (.iload_n 3, 1) := by decide +kernel
theorem dX8_lenient_109 : decode cX8_lenient 109 = .ok (.istore_n 3, 1) := by decide +kernel
theorem dX8_lenient_110 : decode cX8_lenient 110 = .ok (.goto 9, 3) := by decide +kernel
theorem dX8_lenient_113 : decode cX8_lenient 113 = .ok (.aload_n 0, 1) := by decide +kernel
theorem dX8_lenient_114 : decode cX8_lenient 114 = .ok (.iload 4, 2) := by decide +kernel
theorem dX8_lenient_116 : decode cX8_lenient 116 = .ok (.invokevirtual 74, 3) := by decide +kernel
theorem dX8_lenient_119 : decode cX8_lenient 119 = .ok (.iinc 4 1, 3) := by decide +kernel
theorem dX8_lenient_122 : decode cX8_lenient 122 = .ok (.goto (-93), 3) := by decide +kernel
theorem dX8_lenient_125 : decode cX8_lenient 125 = .ok (.iload_n 2, 1) := by decide +kernel
theorem dX8_lenient_126 : decode cX8_lenient 126 = .ok (.iconst 1, 1) := by decide +kernel
theorem dX8_lenient_127 : decode cX8_lenient 127 = .ok (.isub, 1) := by decide +kernel
theorem dX8_lenient_128 : decode cX8_lenient 128 = .ok (.istore 4, 2) := by decide +kernel
theorem dX8_lenient_130 : decode cX8_lenient 130 = .ok (.iload 4, 2) := by decide +kernel
theorem dX8_lenient_132 : decode cX8_lenient 132 = .ok (.iload_n 3, 1) := by decide +kernel
theorem dX8_lenient_133 : decode cX8_lenient 133 = .ok (.if_icmp .lt 25, 3) := by decide +kernel
theorem dX8_lenient_136 : decode cX8_lenient 136 = .ok (.iload 4, 2) := by decide +kernel
theorem dX8_lenient_138 : decode cX8_lenient 138 = .ok (.ifCond .lt 20, 3) := by decide +kernel
theorem dX8_lenient_141 : decode cX8_lenient 141 = .ok (.aload_n 0, 1) := by decide +kernel
theorem dX8_lenient_142 : decode cX8_lenient 142 = .ok (.aload_n 0, 1) := by decide +kernel
theorem dX8_lenient_143 : decode cX8_lenient 143 = .ok (.getfield 17, 3) := by decide +kernel
theorem dX8_lenient_146 : decode cX8_lenient 146 = .ok (.iload 4, 2) := by decide +kernel
theorem dX8_lenient_148 : decode cX8_lenient 148 = .ok (.iaload, 1) := by decide +kernel
theorem dX8_lenient_149 : decode cX8_lenient 149 = .ok (.invokevirtual 74, 3) := by decide +kernel
theorem dX8_lenient_152 : decode cX8_lenient 152 = .ok (.iinc 4 (-1), 3) := by decide +kernel
theorem dX8_lenient_155 : decode cX8_lenient 155 = .ok (.goto (-25), 3) := by decide +kernel
theorem dX8_lenient_158 : decode cX8_lenient 158 = .ok (.iload_n 3, 1) := by decide +kernel
theorem dX8_lenient_159 : decode cX8_lenient 159 = .ok (.ifCond .ne 5, 3) := by decide +kernel
theorem dX8_lenient_162 : decode cX8_lenient 162 = .ok (.iconst (-1), 1) := by decide +kernel
theorem dX8_lenient_163 : decode cX8_lenient 163 = .ok (.ireturn, 1) := by decide +kernel
theorem dX8_lenient_164 : decode cX8_lenient 164 = .ok (.aload_n 0, 1) := by decide +kernel
theorem dX8_lenient_165 : decode cX8_lenient 165 = .ok (.getfield 37, 3) := by decide +kernel
theorem dX8_lenient_168 : decode cX8_lenient 168 = .ok (.invokevirtual 59, 3) := by decide +kernel
theorem dX8_lenient_171 : decode cX8_lenient 171 = .ok (.iconst 0, 1) := by decide +kernel
theorem dX8_lenient_172 : decode cX8_lenient 172 = .ok (.istore 4, 2) := by decide +kernel
theorem dX8_lenient_174 : decode cX8_lenient 174 = .ok (.iload 4, 2) := by decide +kernel
theorem dX8_lenient_176 : decode cX8_lenient 176 = .ok (.iload_n 3, 1) := by decide +kernel
theorem dX8_lenient_177 : decode cX8_lenient 177 = .ok (.if_icmp .ge 36, 3) := by decide +kernel
theorem dX8_lenient_180 : decode cX8_lenient 180 = .ok (.iload 4, 2) := by decide +kernel
theorem dX8_lenient_182 : decode cX8_lenient 182 = .ok (.sipush 240, 3) := by decide +kernel
theorem dX8_lenient_185 : decode cX8_lenient 185 = .ok (.if_icmp .ge 28, 3) := by decide +kernel
theorem dX8_lenient_188 : decode cX8_lenient 188 = .ok (.aload_n 0, 1) := by decide +kernel
theorem dX8_lenient_189 : decode cX8_lenient 189 = .ok (.getfield 37, 3) := by decide +kernel
theorem dX8_lenient_192 : decode cX8_lenient 192 = .ok (.aload_n 0, 1) := by decide +kernel
theorem dX8_lenient_193 : decode cX8_lenient 193 = .ok (.getfield 9, 3) := by decide +kernel
theorem dX8_lenient_196 : decode cX8_lenient 196 = .ok (.iload 4, 2) := by decide +kernel
theorem dX8_lenient_198 : decode cX8_lenient 198 = .ok (.baload, 1) := by decide +kernel
theorem dX8_lenient_199 : decode cX8_lenient 199 = .ok (.sipush 255, 3) := by decide +kernel
theorem dX8_lenient_202 : decode cX8_lenient 202 = .ok (.iand, 1) := by decide +kernel
theorem dX8_lenient_203 : decode cX8_lenient 203 = .ok (.invokevirtual 62, 3) := by decide +kernel
theorem dX8_lenient_206 : decode cX8_lenient 206 = .ok (.pop, 1) := by decide +kernel
theorem dX8_lenient_207 : decode cX8_lenient 207 = .ok (.iinc 4 1, 3) := by decide +kernel
theorem dX8_lenient_210 : decode cX8_lenient 210 = .ok (.goto (-36), 3) := by decide +kernel
theorem dX8_lenient_213 : decode cX8_lenient 213 = .ok (.aload_n 0, 1) := by decide +kernel
theorem dX8_lenient_214 : decode cX8_lenient 214 = .ok (.invokevirtual 70, 3) := by decide +kernel
theorem dX8_lenient_217 : decode cX8_lenient 217 = .ok (.ireturn, 1) := by decide +kernel
theorem dX8_drop_0 : decode cX8_drop 0 = .ok (.aload_n 0, 1) := by decide +kernel
theorem dX8_drop_1 : decode cX8_drop 1 = .ok (.getfield 24, 3) := by decide +kernel
theorem dX8_drop_4 : decode cX8_drop 4 = .ok (.ifCond .lt 33, 3) := by decide +kernel
theorem dX8_drop_7 : decode cX8_drop 7 = .ok (.aload_n 0, 1) := by decide +kernel
theorem dX8_drop_8 : decode cX8_drop 8 = .ok (.getfield 24, 3) := by decide +kernel
theorem dX8_drop_11 : decode cX8_drop 11 = .ok (.sipush 240, 3) := by decide +kernel
theorem dX8_drop_14 : decode cX8_drop 14 = .ok (.if_icmp .ge 23, 3) := by decide +kernel
theorem dX8_drop_17 : decode cX8_drop 17 = .ok (.aload_n 0, 1) := by decide +kernel
theorem dX8_drop_18 : decode cX8_drop 18 = .ok (.getfield 21, 3) := by decide +kernel
theorem dX8_drop_21 : decode cX8_drop 21 = .ok (.aload_n 0, 1) := by decide +kernel
theorem dX8_drop_22 : decode cX8_drop 22 = .ok (.getfield 24, 3) := by decide +kernel
theorem dX8_drop_25 : decode cX8_drop 25 = .ok (.iload_n 1, 1) := by decide +kernel
theorem dX8_drop_26 : decode cX8_drop 26 = .ok (.iastore, 1) := by decide +kernel
theorem dX8_drop_27 : decode cX8_drop 27 = .ok (.aload_n 0, 1) := by decide +kernel
theorem dX8_drop_28 : decode cX8_drop 28 = .ok (.dup, 1) := by decide +kernel
theorem dX8_drop_29 : decode cX8_drop 29 = .ok (.getfield 24, 3) := by decide +kernel
theorem dX8_drop_32 : decode cX8_drop 32 = .ok (.iconst 1, 1) := by decide +kernel
theorem dX8_drop_33 : decode cX8_drop 33 = .ok (.iadd, 1) := by decide +kernel
theorem dX8_drop_34 : decode cX8_drop 34 = .ok (.putfield 24, 3) := by decide +kernel
theorem dX8_drop_37 : decode cX8_drop 37 = .ok (.return_, 1) := by decide +kernel
theorem dX8_adoptReading_0 : decode cX8_adoptReading 0 = .ok (.aload_n 0, 1) := by decide +kernel
theorem dX8_adoptReading_1 : decode cX8_adoptReading 1 = .ok (.aload_n 0, 1) := by decide +kernel
theorem dX8_adoptReading_2 : decode cX8_adoptReading 2 = .ok (.getfield 37, 3) := by decide +kernel
theorem dX8_adoptReading_5 : decode cX8_adoptReading 5 = .ok (.aload_n 0, 1) := by decide +kernel
theorem dX8_adoptReading_6 : decode cX8_adoptReading 6 = .ok (.getfield 30, 3) := by decide +kernel
theorem dX8_adoptReading_9 : decode cX8_adoptReading 9 = .ok (.invokevirtual 78, 3) := by decide +kernel
theorem dX8_adoptReading_12 : decode cX8_adoptReading 12 = .ok (.putfield 30, 3) := by decide +kernel
theorem dX8_adoptReading_15 : decode cX8_adoptReading 15 = .ok (.aload_n 0, 1) := by decide +kernel
theorem dX8_adoptReading_16 : decode cX8_adoptReading 16 = .ok (.getfield 30, 3) := by decide +kernel
theorem dX8_adoptReading_19 : decode cX8_adoptReading 19 = .ok (.getfield 82, 3) := by decide +kernel
theorem dX8_adoptReading_22 : decode cX8_adoptReading 22 = .ok (.ireturn, 1) := by decide +kernel
theorem dX8_dropped_0 : decode cX8_dropped 0 = .ok (.iload_n 1, 1) := by decide +kernel
theorem dX8_dropped_1 : decode cX8_dropped 1 = .ok (.ifCond .lt 27, 3) := by decide +kernel
theorem dX8_dropped_4 : decode cX8_dropped 4 = .ok (.iload_n 1, 1) := by decide +kernel
theorem dX8_dropped_5 : decode cX8_dropped 5 = .ok (.aload_n 0, 1) := by decide +kernel
theorem dX8_dropped_6 : decode cX8_dropped 6 = .ok (.getfield 24, 3) := by decide +kernel
theorem dX8_dropped_9 : decode cX8_dropped 9 = .ok (.if_icmp .ge 19, 3) := by decide +kernel
theorem dX8_dropped_12 : decode cX8_dropped 12 = .ok (.iload_n 1, 1) := by decide +kernel
theorem dX8_dropped_13 : decode cX8_dropped 13 = .ok (.sipush 240, 3) := by decide +kernel
theorem dX8_dropped_16 : decode cX8_dropped 16 = .ok (.if_icmp .ge 12, 3) := by decide +kernel
theorem dX8_dropped_19 : decode cX8_dropped 19 = .ok (.aload_n 0, 1) := by decide +kernel
theorem dX8_dropped_20 : decode cX8_dropped 20 = .ok (.getfield 21, 3) := by decide +kernel
theorem dX8_dropped_23 : decode cX8_dropped 23 = .ok (.iload_n 1, 1) := by decide +kernel
theorem dX8_dropped_24 : decode cX8_dropped 24 = .ok (.iaload, 1) := by decide +kernel
theorem dX8_dropped_25 : decode cX8_dropped 25 = .ok (.goto 4, 3) := by decide +kernel
theorem dX8_dropped_28 : decode cX8_dropped 28 = .ok (.iconst (-1), 1) := by decide +kernel
theorem dX8_dropped_29 : decode cX8_dropped 29 = .ok (.ireturn, 1) := by decide +kernel
theorem dX8_node_0 : decode cX8_node 0 = .ok (.aload_n 0, 1) := by decide +kernel
theorem dX8_node_1 : decode cX8_node 1 = .ok (.getfield 30, 3) := by decide +kernel
theorem dX8_node_4 : decode cX8_node 4 = .ok (.iload_n 1, 1) := by decide +kernel
theorem dX8_node_5 : decode cX8_node 5 = .ok (.invokevirtual 85, 3) := by decide +kernel
theorem dX8_node_8 : decode cX8_node 8 = .ok (.ifCond .ne 13, 3) := by decide +kernel
theorem dX8_node_11 : decode cX8_node 11 = .ok (.new 88, 3) := by decide +kernel
theorem dX8_node_14 : decode cX8_node 14 = .ok (.dup, 1) := by decide +kernel
theorem dX8_node_15 : decode cX8_node 15 = .ok (.ldc 90, 2) := by decide +kernel
theorem dX8_node_17 : decode cX8_node 17 = .ok (.invokespecial 92, 3) := by decide +kernel
theorem dX8_node_20 : decode cX8_node 20 = .ok (.athrow, 1) := by decide +kernel
theorem dX8_node_21 : decode cX8_node 21 = .ok (.aload_n 0, 1) := by decide +kernel
theorem dX8_node_22 : decode cX8_node 22 = .ok (.getfield 30, 3) := by decide +kernel
theorem dX8_node_25 : decode cX8_node 25 = .ok (.iload_n 1, 1) := by decide +kernel
theorem dX8_node_26 : decode cX8_node 26 = .ok (.invokevirtual 95, 3) := by decide +kernel
theorem dX8_node_29 : decode cX8_node 29 = .ok (.astore_n 3, 1) := by decide +kernel
theorem dX8_node_30 : decode cX8_node 30 = .ok (.iload_n 2, 1) := by decide +kernel
theorem dX8_node_31 : decode cX8_node 31 = .ok (.tableswitch 76 0 6 #[41, 46, 51, 56, 61, 66, 71], 41) := by decide +kernel
theorem dX8_node_72 : decode cX8_node 72 = .ok (.aload_n 3, 1) := by decide +kernel
theorem dX8_node_73 : decode cX8_node 73 = .ok (.getfield 99, 3) := by decide +kernel
theorem dX8_node_76 : decode cX8_node 76 = .ok (.ireturn, 1) := by decide +kernel
theorem dX8_node_77 : decode cX8_node 77 = .ok (.aload_n 3, 1) := by decide +kernel
theorem dX8_node_78 : decode cX8_node 78 = .ok (.getfield 104, 3) := by decide +kernel
theorem dX8_node_81 : decode cX8_node 81 = .ok (.ireturn, 1) := by decide +kernel
theorem dX8_node_82 : decode cX8_node 82 = .ok (.aload_n 3, 1) := by decide +kernel
theorem dX8_node_83 : decode cX8_node 83 = .ok (.getfield 107, 3) := by decide +kernel
theorem dX8_node_86 : decode cX8_node 86 = .ok (.ireturn, 1) := by decide +kernel
theorem dX8_node_87 : decode cX8_node 87 = .ok (.aload_n 3, 1) := by decide +kernel
theorem dX8_node_88 : decode cX8_node 88 = .ok (.getfield 110, 3) := by decide +kernel
theorem dX8_node_91 : decode cX8_node 91 = .ok (.ireturn, 1) := by decide +kernel
theorem dX8_node_92 : decode cX8_node 92 = .ok (.aload_n 3, 1) := by decide +kernel
theorem dX8_node_93 : decode cX8_node 93 = .ok (.getfield 113, 3) := by decide +kernel
theorem dX8_node_96 : decode cX8_node 96 = .ok (.ireturn, 1) := by decide +kernel
theorem dX8_node_97 : decode cX8_node 97 = .ok (.aload_n 3, 1) := by decide +kernel
theorem dX8_node_98 : decode cX8_node 98 = .ok (.getfield 116, 3) := by decide +kernel
theorem dX8_node_101 : decode cX8_node 101 = .ok (.ireturn, 1) := by decide +kernel
theorem dX8_node_102 : decode cX8_node 102 = .ok (.aload_n 3, 1) := by decide +kernel
theorem dX8_node_103 : decode cX8_node 103 = .ok (.getfield 119, 3) := by decide +kernel
theorem dX8_node_106 : decode cX8_node 106 = .ok (.ireturn, 1) := by decide +kernel
theorem dX8_node_107 : decode cX8_node 107 = .ok (.bipush (-102), 2) := by decide +kernel
theorem dX8_node_109 : decode cX8_node 109 = .ok (.ireturn, 1) := by decide +kernel
theorem dX8_sign_0 : decode cX8_sign 0 = .ok (.aload_n 0, 1) := by decide +kernel
theorem dX8_sign_1 : decode cX8_sign 1 = .ok (.getfield 30, 3) := by decide +kernel
theorem dX8_sign_4 : decode cX8_sign 4 = .ok (.iload_n 1, 1) := by decide +kernel
theorem dX8_sign_5 : decode cX8_sign 5 = .ok (.invokevirtual 85, 3) := by decide +kernel
theorem dX8_sign_8 : decode cX8_sign 8 = .ok (.ifCond .ne 13, 3) := by decide +kernel
theorem dX8_sign_11 : decode cX8_sign 11 = .ok (.new 88, 3) := by decide +kernel
theorem dX8_sign_14 : decode cX8_sign 14 = .ok (.dup, 1) := by decide +kernel
theorem dX8_sign_15 : decode cX8_sign 15 = .ok (.ldc 90, 2) := by decide +kernel
theorem dX8_sign_17 : decode cX8_sign 17 = .ok (.invokespecial 92, 3) := by decide +kernel
theorem dX8_sign_20 : decode cX8_sign 20 = .ok (.athrow, 1) := by decide +kernel
theorem dX8_sign_21 : decode cX8_sign 21 = .ok (.aload_n 0, 1) := by decide +kernel
theorem dX8_sign_22 : decode cX8_sign 22 = .ok (.getfield 30, 3) := by decide +kernel
theorem dX8_sign_25 : decode cX8_sign 25 = .ok (.iload_n 1, 1) := by decide +kernel
theorem dX8_sign_26 : decode cX8_sign 26 = .ok (.invokevirtual 95, 3) := by decide +kernel
theorem dX8_sign_29 : decode cX8_sign 29 = .ok (.astore 4, 2) := by decide +kernel
theorem dX8_sign_31 : decode cX8_sign 31 = .ok (.aload 4, 2) := by decide +kernel
theorem dX8_sign_33 : decode cX8_sign 33 = .ok (.getfield 99, 3) := by decide +kernel
theorem dX8_sign_36 : decode cX8_sign 36 = .ok (.iconst 3, 1) := by decide +kernel
theorem dX8_sign_37 : decode cX8_sign 37 = .ok (.if_icmp .ne 13, 3) := by decide +kernel
theorem dX8_sign_40 : decode cX8_sign 40 = .ok (.new 122, 3) := by decide +kernel
theorem dX8_sign_43 : decode cX8_sign 43 = .ok (.dup, 1) := by decide +kernel
theorem dX8_sign_44 : decode cX8_sign 44 = .ok (.ldc 124, 2) := by decide +kernel
theorem dX8_sign_46 : decode cX8_sign 46 = .ok (.invokespecial 126, 3) := by decide +kernel
theorem dX8_sign_49 : decode cX8_sign 49 = .ok (.athrow, 1) := by decide +kernel
theorem dX8_sign_50 : decode cX8_sign 50 = .ok (.aload 4, 2) := by decide +kernel
theorem dX8_sign_52 : decode cX8_sign 52 = .ok (.iload_n 2, 1) := by decide +kernel
theorem dX8_sign_53 : decode cX8_sign 53 = .ok (.invokevirtual 127, 3) := by decide +kernel
theorem dX8_sign_56 : decode cX8_sign 56 = .ok (.iload_n 3, 1) := by decide +kernel
theorem dX8_sign_57 : decode cX8_sign 57 = .ok (.invokestatic 131, 3) := by decide +kernel
theorem dX8_sign_60 : decode cX8_sign 60 = .ok (.istore 5, 2) := by decide +kernel
theorem dX8_sign_62 : decode cX8_sign 62 = .ok (.iload 5, 2) := by decide +kernel
theorem dX8_sign_64 : decode cX8_sign 64 = .ok (.ifCond .ne 13, 3) := by decide +kernel
theorem dX8_sign_67 : decode cX8_sign 67 = .ok (.new 88, 3) := by decide +kernel
theorem dX8_sign_70 : decode cX8_sign 70 = .ok (.dup, 1) := by decide +kernel
theorem dX8_sign_71 : decode cX8_sign 71 = .ok (.ldc 137, 2) := by decide +kernel
theorem dX8_sign_73 : decode cX8_sign 73 = .ok (.invokespecial 92, 3) := by decide +kernel
theorem dX8_sign_76 : decode cX8_sign 76 = .ok (.athrow, 1) := by decide +kernel
theorem dX8_sign_77 : decode cX8_sign 77 = .ok (.iload 5, 2) := by decide +kernel
theorem dX8_sign_79 : decode cX8_sign 79 = .ok (.ireturn, 1) := by decide +kernel
theorem dX8_print_0 : decode cX8_print 0 = .ok (.aload_n 0, 1) := by decide +kernel
theorem dX8_print_1 : decode cX8_print 1 = .ok (.getfield 30, 3) := by decide +kernel
theorem dX8_print_4 : decode cX8_print 4 = .ok (.invokevirtual 139, 3) := by decide +kernel
theorem dX8_print_7 : decode cX8_print 7 = .ok (.ifCond .eq 6, 3) := by decide +kernel
theorem dX8_print_10 : decode cX8_print 10 = .ok (.bipush (-104), 2) := by decide +kernel
theorem dX8_print_12 : decode cX8_print 12 = .ok (.ireturn, 1) := by decide +kernel
theorem dX8_print_13 : decode cX8_print 13 = .ok (.aload_n 0, 1) := by decide +kernel
theorem dX8_print_14 : decode cX8_print 14 = .ok (.getfield 44, 3) := by decide +kernel
theorem dX8_print_17 : decode cX8_print 17 = .ok (.aload_n 0, 1) := by decide +kernel
theorem dX8_print_18 : decode cX8_print 18 = .ok (.getfield 30, 3) := by decide +kernel
theorem dX8_print_21 : decode cX8_print 21 = .ok (.invokevirtual 142, 3) := by decide +kernel
theorem dX8_print_24 : decode cX8_print 24 = .ok (.ireturn, 1) := by decide +kernel
theorem dX8_out_0 : decode cX8_out 0 = .ok (.aload_n 0, 1) := by decide +kernel
theorem dX8_out_1 : decode cX8_out 1 = .ok (.getfield 44, 3) := by decide +kernel
theorem dX8_out_4 : decode cX8_out 4 = .ok (.invokevirtual 146, 3) := by decide +kernel
theorem dX8_out_7 : decode cX8_out 7 = .ok (.ifCond .ne 13, 3) := by decide +kernel
theorem dX8_out_10 : decode cX8_out 10 = .ok (.new 149, 3) := by decide +kernel
theorem dX8_out_13 : decode cX8_out 13 = .ok (.dup, 1) := by decide +kernel
theorem dX8_out_14 : decode cX8_out 14 = .ok (.ldc 151, 2) := by decide +kernel
theorem dX8_out_16 : decode cX8_out 16 = .ok (.invokespecial 153, 3) := by decide +kernel
theorem dX8_out_19 : decode cX8_out 19 = .ok (.athrow, 1) := by decide +kernel
theorem dX8_out_20 : decode cX8_out 20 = .ok (.aload_n 0, 1) := by decide +kernel
theorem dX8_out_21 : decode cX8_out 21 = .ok (.getfield 44, 3) := by decide +kernel
theorem dX8_out_24 : decode cX8_out 24 = .ok (.iload_n 1, 1) := by decide +kernel
theorem dX8_out_25 : decode cX8_out 25 = .ok (.invokevirtual 154, 3) := by decide +kernel
theorem dX8_out_28 : decode cX8_out 28 = .ok (.istore_n 2, 1) := by decide +kernel
theorem dX8_out_29 : decode cX8_out 29 = .ok (.iload_n 2, 1) := by decide +kernel
theorem dX8_out_30 : decode cX8_out 30 = .ok (.iconst (-1), 1) := by decide +kernel
theorem dX8_out_31 : decode cX8_out 31 = .ok (.if_icmp .ne 13, 3) := by decide +kernel
theorem dX8_out_34 : decode cX8_out 34 = .ok (.new 88, 3) := by decide +kernel
theorem dX8_out_37 : decode cX8_out 37 = .ok (.dup, 1) := by decide +kernel
theorem dX8_out_38 : decode cX8_out 38 = .ok (.ldc 158, 2) := by decide +kernel
theorem dX8_out_40 : decode cX8_out 40 = .ok (.invokespecial 92, 3) := by decide +kernel
theorem dX8_out_43 : decode cX8_out 43 = .ok (.athrow, 1) := by decide +kernel
theorem dX8_out_44 : decode cX8_out 44 = .ok (.iload_n 2, 1) := by decide +kernel
theorem dX8_out_45 : decode cX8_out 45 = .ok (.ireturn, 1) := by decide +kernel
theorem dX8_word_0 : decode cX8_word 0 = .ok (.iload_n 1, 1) := by decide +kernel
theorem dX8_word_1 : decode cX8_word 1 = .ok (.invokestatic 160, 3) := by decide +kernel
theorem dX8_word_4 : decode cX8_word 4 = .ok (.ifCond .eq 12, 3) := by decide +kernel
theorem dX8_word_7 : decode cX8_word 7 = .ok (.iload_n 2, 1) := by decide +kernel
theorem dX8_word_8 : decode cX8_word 8 = .ok (.ifCond .lt 8, 3) := by decide +kernel
theorem dX8_word_11 : decode cX8_word 11 = .ok (.iload_n 2, 1) := by decide +kernel
theorem dX8_word_12 : decode cX8_word 12 = .ok (.iconst 4, 1) := by decide +kernel
theorem dX8_word_13 : decode cX8_word 13 = .ok (.if_icmp .lt 6, 3) := by decide +kernel
theorem dX8_word_16 : decode cX8_word 16 = .ok (.bipush (-101), 2) := by decide +kernel
theorem dX8_word_18 : decode cX8_word 18 = .ok (.ireturn, 1) := by decide +kernel
theorem dX8_word_19 : decode cX8_word 19 = .ok (.lload_n 3, 1) := by decide +kernel
theorem dX8_word_20 : decode cX8_word 20 = .ok (.invokestatic 163, 3) := by decide +kernel
theorem dX8_word_23 : decode cX8_word 23 = .ok (.ifCond .ne 6, 3) := by decide +kernel
theorem dX8_word_26 : decode cX8_word 26 = .ok (.bipush (-102), 2) := by decide +kernel
theorem dX8_word_28 : decode cX8_word 28 = .ok (.ireturn, 1) := by decide +kernel
theorem dX8_word_29 : decode cX8_word 29 = .ok (.aload_n 0, 1) := by decide +kernel
theorem dX8_word_30 : decode cX8_word 30 = .ok (.getfield 51, 3) := by decide +kernel
theorem dX8_word_33 : decode cX8_word 33 = .ok (.getfield 167, 3) := by decide +kernel
theorem dX8_word_36 : decode cX8_word 36 = .ok (.iload_n 1, 1) := by decide +kernel
theorem dX8_word_37 : decode cX8_word 37 = .ok (.iload_n 2, 1) := by decide +kernel
theorem dX8_word_38 : decode cX8_word 38 = .ok (.lload_n 3, 1) := by decide +kernel
theorem dX8_word_39 : decode cX8_word 39 = .ok (.invokestatic 171, 3) := by decide +kernel
theorem dX8_word_42 : decode cX8_word 42 = .ok (.invokevirtual 175, 3) := by decide +kernel
theorem dX8_word_45 : decode cX8_word 45 = .ok (.ireturn, 1) := by decide +kernel
theorem dX8_clear_0 : decode cX8_clear 0 = .ok (.iload_n 1, 1) := by decide +kernel
theorem dX8_clear_1 : decode cX8_clear 1 = .ok (.invokestatic 160, 3) := by decide +kernel
theorem dX8_clear_4 : decode cX8_clear 4 = .ok (.ifCond .eq 17, 3) := by decide +kernel
theorem dX8_clear_7 : decode cX8_clear 7 = .ok (.aload_n 0, 1) := by decide +kernel
theorem dX8_clear_8 : decode cX8_clear 8 = .ok (.getfield 51, 3) := by decide +kernel
theorem dX8_clear_11 : decode cX8_clear 11 = .ok (.getfield 167, 3) := by decide +kernel
theorem dX8_clear_14 : decode cX8_clear 14 = .ok (.iload_n 1, 1) := by decide +kernel
theorem dX8_clear_15 : decode cX8_clear 15 = .ok (.invokevirtual 181, 3) := by decide +kernel
theorem dX8_clear_18 : decode cX8_clear 18 = .ok (.goto 5, 3) := by decide +kernel
theorem dX8_clear_21 : decode cX8_clear 21 = .ok (.bipush (-101), 2) := by decide +kernel
theorem dX8_clear_23 : decode cX8_clear 23 = .ok (.ireturn, 1) := by decide +kernel
theorem dX8_fits_0 : decode cX8_fits 0 = .ok (.aload_n 0, 1) := by decide +kernel
theorem dX8_fits_1 : decode cX8_fits 1 = .ok (.getfield 30, 3) := by decide +kernel
theorem dX8_fits_4 : decode cX8_fits 4 = .ok (.iload_n 1, 1) := by decide +kernel
theorem dX8_fits_5 : decode cX8_fits 5 = .ok (.invokevirtual 85, 3) := by decide +kernel
theorem dX8_fits_8 : decode cX8_fits 8 = .ok (.ifCond .eq 10, 3) := by decide +kernel
theorem dX8_fits_11 : decode cX8_fits 11 = .ok (.iload_n 2, 1) := by decide +kernel
theorem dX8_fits_12 : decode cX8_fits 12 = .ok (.invokestatic 160, 3) := by decide +kernel
theorem dX8_fits_15 : decode cX8_fits 15 = .ok (.ifCond .ne 6, 3) := by decide +kernel
theorem dX8_fits_18 : decode cX8_fits 18 = .ok (.bipush (-101), 2) := by decide +kernel
theorem dX8_fits_20 : decode cX8_fits 20 = .ok (.ireturn, 1) := by decide +kernel
theorem dX8_fits_21 : decode cX8_fits 21 = .ok (.aload_n 0, 1) := by decide +kernel
theorem dX8_fits_22 : decode cX8_fits 22 = .ok (.getfield 51, 3) := by decide +kernel
theorem dX8_fits_25 : decode cX8_fits 25 = .ok (.aload_n 0, 1) := by decide +kernel
theorem dX8_fits_26 : decode cX8_fits 26 = .ok (.getfield 30, 3) := by decide +kernel
theorem dX8_fits_29 : decode cX8_fits 29 = .ok (.iload_n 1, 1) := by decide +kernel
theorem dX8_fits_30 : decode cX8_fits 30 = .ok (.iload_n 2, 1) := by decide +kernel
theorem dX8_fits_31 : decode cX8_fits 31 = .ok (.invokevirtual 184, 3) := by decide +kernel
theorem dX8_fits_34 : decode cX8_fits 34 = .ok (.ldc2_w 188, 3) := by decide +kernel
theorem dX8_fits_37 : decode cX8_fits 37 = .ok (.lcmp, 1) := by decide +kernel
theorem dX8_fits_38 : decode cX8_fits 38 = .ok (.ifCond .ne 7, 3) := by decide +kernel
theorem dX8_fits_41 : decode cX8_fits 41 = .ok (.iconst 0, 1) := by decide +kernel
theorem dX8_fits_42 : decode cX8_fits 42 = .ok (.goto 4, 3) := by decide +kernel
theorem dX8_fits_45 : decode cX8_fits 45 = .ok (.iconst 1, 1) := by decide +kernel
theorem dX8_fits_46 : decode cX8_fits 46 = .ok (.ireturn, 1) := by decide +kernel
theorem dX8_worth_0 : decode cX8_worth 0 = .ok (.aload_n 0, 1) := by decide +kernel
theorem dX8_worth_1 : decode cX8_worth 1 = .ok (.getfield 30, 3) := by decide +kernel
theorem dX8_worth_4 : decode cX8_worth 4 = .ok (.iload_n 1, 1) := by decide +kernel
theorem dX8_worth_5 : decode cX8_worth 5 = .ok (.invokevirtual 85, 3) := by decide +kernel
theorem dX8_worth_8 : decode cX8_worth 8 = .ok (.ifCond .eq 10, 3) := by decide +kernel
theorem dX8_worth_11 : decode cX8_worth 11 = .ok (.iload_n 2, 1) := by decide +kernel
theorem dX8_worth_12 : decode cX8_worth 12 = .ok (.invokestatic 160, 3) := by decide +kernel
theorem dX8_worth_15 : decode cX8_worth 15 = .ok (.ifCond .ne 7, 3) := by decide +kernel
theorem dX8_worth_18 : decode cX8_worth 18 = .ok (.ldc2_w 190, 3) := by decide +kernel
theorem dX8_worth_21 : decode cX8_worth 21 = .ok (.lreturn, 1) := by decide +kernel
theorem dX8_worth_22 : decode cX8_worth 22 = .ok (.lconst 0, 1) := by decide +kernel
theorem dX8_worth_23 : decode cX8_worth 23 = .ok (.aload_n 0, 1) := by decide +kernel
theorem dX8_worth_24 : decode cX8_worth 24 = .ok (.getfield 51, 3) := by decide +kernel
theorem dX8_worth_27 : decode cX8_worth 27 = .ok (.aload_n 0, 1) := by decide +kernel
theorem dX8_worth_28 : decode cX8_worth 28 = .ok (.getfield 30, 3) := by decide +kernel
theorem dX8_worth_31 : decode cX8_worth 31 = .ok (.iload_n 1, 1) := by decide +kernel
theorem dX8_worth_32 : decode cX8_worth 32 = .ok (.iload_n 2, 1) := by decide +kernel
theorem dX8_worth_33 : decode cX8_worth 33 = .ok (.invokevirtual 184, 3) := by decide +kernel
theorem dX8_worth_36 : decode cX8_worth 36 = .ok (.invokestatic 192, 3) := by decide +kernel
theorem dX8_worth_39 : decode cX8_worth 39 = .ok (.lreturn, 1) := by decide +kernel
theorem dX8_ratio_0 : decode cX8_ratio 0 = .ok (.iload_n 1, 1) := by decide +kernel
theorem dX8_ratio_1 : decode cX8_ratio 1 = .ok (.invokestatic 160, 3) := by decide +kernel
theorem dX8_ratio_4 : decode cX8_ratio 4 = .ok (.ifCond .eq 10, 3) := by decide +kernel
theorem dX8_ratio_7 : decode cX8_ratio 7 = .ok (.iload_n 2, 1) := by decide +kernel
theorem dX8_ratio_8 : decode cX8_ratio 8 = .ok (.invokestatic 160, 3) := by decide +kernel
theorem dX8_ratio_11 : decode cX8_ratio 11 = .ok (.ifCond .ne 7, 3) := by decide +kernel
theorem dX8_ratio_14 : decode cX8_ratio 14 = .ok (.ldc2_w 190, 3) := by decide +kernel
theorem dX8_ratio_17 : decode cX8_ratio 17 = .ok (.lreturn, 1) := by decide +kernel
theorem dX8_ratio_18 : decode cX8_ratio 18 = .ok (.aload_n 0, 1) := by decide +kernel
theorem dX8_ratio_19 : decode cX8_ratio 19 = .ok (.getfield 30, 3) := by decide +kernel
theorem dX8_ratio_22 : decode cX8_ratio 22 = .ok (.invokevirtual 139, 3) := by decide +kernel
theorem dX8_ratio_25 : decode cX8_ratio 25 = .ok (.ifCond .eq 7, 3) := by decide +kernel
theorem dX8_ratio_28 : decode cX8_ratio 28 = .ok (.ldc2_w 198, 3) := by decide +kernel
theorem dX8_ratio_31 : decode cX8_ratio 31 = .ok (.lreturn, 1) := by decide +kernel
theorem dX8_ratio_32 : decode cX8_ratio 32 = .ok (.lconst 0, 1) := by decide +kernel
theorem dX8_ratio_33 : decode cX8_ratio 33 = .ok (.aload_n 0, 1) := by decide +kernel
theorem dX8_ratio_34 : decode cX8_ratio 34 = .ok (.getfield 51, 3) := by decide +kernel
theorem dX8_ratio_37 : decode cX8_ratio 37 = .ok (.aload_n 0, 1) := by decide +kernel
theorem dX8_ratio_38 : decode cX8_ratio 38 = .ok (.getfield 30, 3) := by decide +kernel
theorem dX8_ratio_41 : decode cX8_ratio 41 = .ok (.iconst 0, 1) := by decide +kernel
theorem dX8_ratio_42 : decode cX8_ratio 42 = .ok (.iload_n 2, 1) := by decide +kernel
theorem dX8_ratio_43 : decode cX8_ratio 43 = .ok (.invokevirtual 184, 3) := by decide +kernel
theorem dX8_ratio_46 : decode cX8_ratio 46 = .ok (.invokestatic 192, 3) := by decide +kernel
theorem dX8_ratio_49 : decode cX8_ratio 49 = .ok (.lstore_n 3, 1) := by decide +kernel
theorem dX8_ratio_50 : decode cX8_ratio 50 = .ok (.lload_n 3, 1) := by decide +kernel
theorem dX8_ratio_51 : decode cX8_ratio 51 = .ok (.lconst 0, 1) := by decide +kernel
theorem dX8_ratio_52 : decode cX8_ratio 52 = .ok (.lcmp, 1) := by decide +kernel
theorem dX8_ratio_53 : decode cX8_ratio 53 = .ok (.ifCond .ne 13, 3) := by decide +kernel
theorem dX8_ratio_56 : decode cX8_ratio 56 = .ok (.new 200, 3) := by decide +kernel
theorem dX8_ratio_59 : decode cX8_ratio 59 = .ok (.dup, 1) := by decide +kernel
theorem dX8_ratio_60 : decode cX8_ratio 60 = .ok (.ldc 202, 2) := by decide +kernel
theorem dX8_ratio_62 : decode cX8_ratio 62 = .ok (.invokespecial 204, 3) := by decide +kernel
theorem dX8_ratio_65 : decode cX8_ratio 65 = .ok (.athrow, 1) := by decide +kernel
theorem dX8_ratio_66 : decode cX8_ratio 66 = .ok (.lconst 0, 1) := by decide +kernel
theorem dX8_ratio_67 : decode cX8_ratio 67 = .ok (.aload_n 0, 1) := by decide +kernel
theorem dX8_ratio_68 : decode cX8_ratio 68 = .ok (.getfield 51, 3) := by decide +kernel
theorem dX8_ratio_71 : decode cX8_ratio 71 = .ok (.aload_n 0, 1) := by decide +kernel
theorem dX8_ratio_72 : decode cX8_ratio 72 = .ok (.getfield 30, 3) := by decide +kernel
theorem dX8_ratio_75 : decode cX8_ratio 75 = .ok (.iconst 0, 1) := by decide +kernel
theorem dX8_ratio_76 : decode cX8_ratio 76 = .ok (.iload_n 1, 1) := by decide +kernel
theorem dX8_ratio_77 : decode cX8_ratio 77 = .ok (.invokevirtual 184, 3) := by decide +kernel
theorem dX8_ratio_80 : decode cX8_ratio 80 = .ok (.invokestatic 192, 3) := by decide +kernel
theorem dX8_ratio_83 : decode cX8_ratio 83 = .ok (.lload_n 3, 1) := by decide +kernel
theorem dX8_ratio_84 : decode cX8_ratio 84 = .ok (.invokestatic 205, 3) := by decide +kernel
theorem dX8_ratio_87 : decode cX8_ratio 87 = .ok (.lreturn, 1) := by decide +kernel
theorem dX8_why_0 : decode cX8_why 0 = .ok (.iload_n 1, 1) := by decide +kernel
theorem dX8_why_1 : decode cX8_why 1 = .ok (.invokestatic 160, 3) := by decide +kernel
theorem dX8_why_4 : decode cX8_why 4 = .ok (.ifCond .ne 6, 3) := by decide +kernel
theorem dX8_why_7 : decode cX8_why 7 = .ok (.bipush (-101), 2) := by decide +kernel
theorem dX8_why_9 : decode cX8_why 9 = .ok (.ireturn, 1) := by decide +kernel
theorem dX8_why_10 : decode cX8_why 10 = .ok (.aload_n 0, 1) := by decide +kernel
theorem dX8_why_11 : decode cX8_why 11 = .ok (.getfield 30, 3) := by decide +kernel
theorem dX8_why_14 : decode cX8_why 14 = .ok (.invokevirtual 139, 3) := by decide +kernel
theorem dX8_why_17 : decode cX8_why 17 = .ok (.ifCond .eq 6, 3) := by decide +kernel
theorem dX8_why_20 : decode cX8_why 20 = .ok (.bipush (-104), 2) := by decide +kernel
theorem dX8_why_22 : decode cX8_why 22 = .ok (.ireturn, 1) := by decide +kernel
theorem dX8_why_23 : decode cX8_why 23 = .ok (.aload_n 0, 1) := by decide +kernel
theorem dX8_why_24 : decode cX8_why 24 = .ok (.getfield 51, 3) := by decide +kernel
theorem dX8_why_27 : decode cX8_why 27 = .ok (.aload_n 0, 1) := by decide +kernel
theorem dX8_why_28 : decode cX8_why 28 = .ok (.getfield 30, 3) := by decide +kernel
theorem dX8_why_31 : decode cX8_why 31 = .ok (.iconst 0, 1) := by decide +kernel
theorem dX8_why_32 : decode cX8_why 32 = .ok (.iload_n 1, 1) := by decide +kernel
theorem dX8_why_33 : decode cX8_why 33 = .ok (.invokevirtual 184, 3) := by decide +kernel
theorem dX8_why_36 : decode cX8_why 36 = .ok (.ldc2_w 188, 3) := by decide +kernel
theorem dX8_why_39 : decode cX8_why 39 = .ok (.lcmp, 1) := by decide +kernel
theorem dX8_why_40 : decode cX8_why 40 = .ok (.ifCond .eq 5, 3) := by decide +kernel
theorem dX8_why_43 : decode cX8_why 43 = .ok (.iconst (-1), 1) := by decide +kernel
theorem dX8_why_44 : decode cX8_why 44 = .ok (.ireturn, 1) := by decide +kernel
theorem dX8_why_45 : decode cX8_why 45 = .ok (.aload_n 0, 1) := by decide +kernel
theorem dX8_why_46 : decode cX8_why 46 = .ok (.getfield 51, 3) := by decide +kernel
theorem dX8_why_49 : decode cX8_why 49 = .ok (.aload_n 0, 1) := by decide +kernel
theorem dX8_why_50 : decode cX8_why 50 = .ok (.getfield 30, 3) := by decide +kernel
theorem dX8_why_53 : decode cX8_why 53 = .ok (.iconst 1, 1) := by decide +kernel
theorem dX8_why_54 : decode cX8_why 54 = .ok (.invokevirtual 208, 3) := by decide +kernel
theorem dX8_why_57 : decode cX8_why 57 = .ok (.istore_n 2, 1) := by decide +kernel
theorem dX8_why_58 : decode cX8_why 58 = .ok (.iload_n 2, 1) := by decide +kernel
theorem dX8_why_59 : decode cX8_why 59 = .ok (.ifCond .eq 7, 3) := by decide +kernel
theorem dX8_why_62 : decode cX8_why 62 = .ok (.iload_n 2, 1) := by decide +kernel
theorem dX8_why_63 : decode cX8_why 63 = .ok (.goto 15, 3) := by decide +kernel
theorem dX8_why_66 : decode cX8_why 66 = .ok (.aload_n 0, 1) := by decide +kernel
theorem dX8_why_67 : decode cX8_why 67 = .ok (.getfield 51, 3) := by decide +kernel
theorem dX8_why_70 : decode cX8_why 70 = .ok (.aload_n 0, 1) := by decide +kernel
theorem dX8_why_71 : decode cX8_why 71 = .ok (.getfield 30, 3) := by decide +kernel
theorem dX8_why_74 : decode cX8_why 74 = .ok (.iconst 2, 1) := by decide +kernel
theorem dX8_why_75 : decode cX8_why 75 = .ok (.invokevirtual 208, 3) := by decide +kernel
theorem dX8_why_78 : decode cX8_why 78 = .ok (.ireturn, 1) := by decide +kernel
theorem dX8_rank_0 : decode cX8_rank 0 = .ok (.aload_n 0, 1) := by decide +kernel
theorem dX8_rank_1 : decode cX8_rank 1 = .ok (.getfield 30, 3) := by decide +kernel
theorem dX8_rank_4 : decode cX8_rank 4 = .ok (.invokevirtual 139, 3) := by decide +kernel
theorem dX8_rank_7 : decode cX8_rank 7 = .ok (.ifCond .eq 6, 3) := by decide +kernel
theorem dX8_rank_10 : decode cX8_rank 10 = .ok (.bipush (-104), 2) := by decide +kernel
theorem dX8_rank_12 : decode cX8_rank 12 = .ok (.ireturn, 1) := by decide +kernel
theorem dX8_rank_13 : decode cX8_rank 13 = .ok (.iconst 0, 1) := by decide +kernel
theorem dX8_rank_14 : decode cX8_rank 14 = .ok (.istore_n 2, 1) := by decide +kernel
theorem dX8_rank_15 : decode cX8_rank 15 = .ok (.iload_n 2, 1) := by decide +kernel
theorem dX8_rank_16 : decode cX8_rank 16 = .ok (.bipush 8, 2) := by decide +kernel
theorem dX8_rank_18 : decode cX8_rank 18 = .ok (.if_icmp .ge 28, 3) := by decide +kernel
theorem dX8_rank_21 : decode cX8_rank 21 = .ok (.aload_n 0, 1) := by decide +kernel
theorem dX8_rank_22 : decode cX8_rank 22 = .ok (.getfield 55, 3) := by decide +kernel
theorem dX8_rank_25 : decode cX8_rank 25 = .ok (.iload_n 2, 1) := by decide +kernel
theorem dX8_rank_26 : decode cX8_rank 26 = .ok (.aload_n 0, 1) := by decide +kernel
theorem dX8_rank_27 : decode cX8_rank 27 = .ok (.getfield 51, 3) := by decide +kernel
theorem dX8_rank_30 : decode cX8_rank 30 = .ok (.aload_n 0, 1) := by decide +kernel
theorem dX8_rank_31 : decode cX8_rank 31 = .ok (.getfield 30, 3) := by decide +kernel
theorem dX8_rank_34 : decode cX8_rank 34 = .ok (.iconst 0, 1) := by decide +kernel
theorem dX8_rank_35 : decode cX8_rank 35 = .ok (.iload_n 2, 1) := by decide +kernel
theorem dX8_rank_36 : decode cX8_rank 36 = .ok (.invokevirtual 184, 3) := by decide +kernel
theorem dX8_rank_39 : decode cX8_rank 39 = .ok (.lastore, 1) := by decide +kernel
theorem dX8_rank_40 : decode cX8_rank 40 = .ok (.iinc 2 1, 3) := by decide +kernel
theorem dX8_rank_43 : decode cX8_rank 43 = .ok (.goto (-28), 3) := by decide +kernel
theorem dX8_rank_46 : decode cX8_rank 46 = .ok (.iconst 0, 1) := by decide +kernel
theorem dX8_rank_47 : decode cX8_rank 47 = .ok (.istore_n 2, 1) := by decide +kernel
theorem dX8_rank_48 : decode cX8_rank 48 = .ok (.iload_n 2, 1) := by decide +kernel
theorem dX8_rank_49 : decode cX8_rank 49 = .ok (.bipush 8, 2) := by decide +kernel
theorem dX8_rank_51 : decode cX8_rank 51 = .ok (.if_icmp .ge 33, 3) := by decide +kernel
theorem dX8_rank_54 : decode cX8_rank 54 = .ok (.aload_n 0, 1) := by decide +kernel
theorem dX8_rank_55 : decode cX8_rank 55 = .ok (.getfield 55, 3) := by decide +kernel
theorem dX8_rank_58 : decode cX8_rank 58 = .ok (.iload_n 2, 1) := by decide +kernel
theorem dX8_rank_59 : decode cX8_rank 59 = .ok (.laload, 1) := by decide +kernel
theorem dX8_rank_60 : decode cX8_rank 60 = .ok (.ldc2_w 188, 3) := by decide +kernel
theorem dX8_rank_63 : decode cX8_rank 63 = .ok (.lcmp, 1) := by decide +kernel
theorem dX8_rank_64 : decode cX8_rank 64 = .ok (.ifCond .eq 14, 3) := by decide +kernel
theorem dX8_rank_67 : decode cX8_rank 67 = .ok (.aload_n 0, 1) := by decide +kernel
theorem dX8_rank_68 : decode cX8_rank 68 = .ok (.iload_n 2, 1) := by decide +kernel
theorem dX8_rank_69 : decode cX8_rank 69 = .ok (.invokevirtual 212, 3) := by decide +kernel
theorem dX8_rank_72 : decode cX8_rank 72 = .ok (.iload_n 1, 1) := by decide +kernel
theorem dX8_rank_73 : decode cX8_rank 73 = .ok (.if_icmp .ne 5, 3) := by decide +kernel
theorem dX8_rank_76 : decode cX8_rank 76 = .ok (.iload_n 2, 1) := by decide +kernel
theorem dX8_rank_77 : decode cX8_rank 77 = .ok (.ireturn, 1) := by decide +kernel
theorem dX8_rank_78 : decode cX8_rank 78 = .ok (.iinc 2 1, 3) := by decide +kernel
theorem dX8_rank_81 : decode cX8_rank 81 = .ok (.goto (-33), 3) := by decide +kernel
theorem dX8_rank_84 : decode cX8_rank 84 = .ok (.iconst (-1), 1) := by decide +kernel
theorem dX8_rank_85 : decode cX8_rank 85 = .ok (.ireturn, 1) := by decide +kernel
theorem dX8_countAhead_0 : decode cX8_countAhead 0 = .ok (.iconst 0, 1) := by decide +kernel
theorem dX8_countAhead_1 : decode cX8_countAhead 1 = .ok (.istore_n 2, 1) := by decide +kernel
theorem dX8_countAhead_2 : decode cX8_countAhead 2 = .ok (.iconst 0, 1) := by decide +kernel
theorem dX8_countAhead_3 : decode cX8_countAhead 3 = .ok (.istore_n 3, 1) := by decide +kernel
theorem dX8_countAhead_4 : decode cX8_countAhead 4 = .ok (.iload_n 3, 1) := by decide +kernel
theorem dX8_countAhead_5 : decode cX8_countAhead 5 = .ok (.bipush 8, 2) := by decide +kernel
theorem dX8_countAhead_7 : decode cX8_countAhead 7 = .ok (.if_icmp .ge 80, 3) := by decide +kernel
theorem dX8_countAhead_10 : decode cX8_countAhead 10 = .ok (.iload_n 1, 1) := by decide +kernel
theorem dX8_countAhead_11 : decode cX8_countAhead 11 = .ok (.invokestatic 160, 3) := by decide +kernel
theorem dX8_countAhead_14 : decode cX8_countAhead 14 = .ok (.ifCond .eq 73, 3) := by decide +kernel
theorem dX8_countAhead_17 : decode cX8_countAhead 17 = .ok (.aload_n 0, 1) := by decide +kernel
theorem dX8_countAhead_18 : decode cX8_countAhead 18 = .ok (.getfield 55, 3) := by decide +kernel
theorem dX8_countAhead_21 : decode cX8_countAhead 21 = .ok (.iload_n 3, 1) := by decide +kernel
theorem dX8_countAhead_22 : decode cX8_countAhead 22 = .ok (.laload, 1) := by decide +kernel
theorem dX8_countAhead_23 : decode cX8_countAhead 23 = .ok (.aload_n 0, 1) := by decide +kernel
theorem dX8_countAhead_24 : decode cX8_countAhead 24 = .ok (.getfield 55, 3) := by decide +kernel
theorem dX8_countAhead_27 : decode cX8_countAhead 27 = .ok (.iload_n 1, 1) := by decide +kernel
theorem dX8_countAhead_28 : decode cX8_countAhead 28 = .ok (.laload, 1) := by decide +kernel
theorem dX8_countAhead_29 : decode cX8_countAhead 29 = .ok (.lcmp, 1) := by decide +kernel
theorem dX8_countAhead_30 : decode cX8_countAhead 30 = .ok (.ifCond .le 7, 3) := by decide +kernel
theorem dX8_countAhead_33 : decode cX8_countAhead 33 = .ok (.iconst 1, 1) := by decide +kernel
theorem dX8_countAhead_34 : decode cX8_countAhead 34 = .ok (.goto 4, 3) := by decide +kernel
theorem dX8_countAhead_37 : decode cX8_countAhead 37 = .ok (.iconst 0, 1) := by decide +kernel
theorem dX8_countAhead_38 : decode cX8_countAhead 38 = .ok (.istore 4, 2) := by decide +kernel
theorem dX8_countAhead_40 : decode cX8_countAhead 40 = .ok (.aload_n 0, 1) := by decide +kernel
theorem dX8_countAhead_41 : decode cX8_countAhead 41 = .ok (.getfield 55, 3) := by decide +kernel
theorem dX8_countAhead_44 : decode cX8_countAhead 44 = .ok (.iload_n 3, 1) := by decide +kernel
theorem dX8_countAhead_45 : decode cX8_countAhead 45 = .ok (.laload, 1) := by decide +kernel
theorem dX8_countAhead_46 : decode cX8_countAhead 46 = .ok (.aload_n 0, 1) := by decide +kernel
theorem dX8_countAhead_47 : decode cX8_countAhead 47 = .ok (.getfield 55, 3) := by decide +kernel
theorem dX8_countAhead_50 : decode cX8_countAhead 50 = .ok (.iload_n 1, 1) := by decide +kernel
theorem dX8_countAhead_51 : decode cX8_countAhead 51 = .ok (.laload, 1) := by decide +kernel
theorem dX8_countAhead_52 : decode cX8_countAhead 52 = .ok (.lcmp, 1) := by decide +kernel
theorem dX8_countAhead_53 : decode cX8_countAhead 53 = .ok (.ifCond .ne 7, 3) := by decide +kernel
theorem dX8_countAhead_56 : decode cX8_countAhead 56 = .ok (.iconst 1, 1) := by decide +kernel
theorem dX8_countAhead_57 : decode cX8_countAhead 57 = .ok (.goto 4, 3) := by decide +kernel
theorem dX8_countAhead_60 : decode cX8_countAhead 60 = .ok (.iconst 0, 1) := by decide +kernel
theorem dX8_countAhead_61 : decode cX8_countAhead 61 = .ok (.istore 5, 2) := by decide +kernel
theorem dX8_countAhead_63 : decode cX8_countAhead 63 = .ok (.iload 4, 2) := by decide +kernel
theorem dX8_countAhead_65 : decode cX8_countAhead 65 = .ok (.ifCond .ne 13, 3) := by decide +kernel
theorem dX8_countAhead_68 : decode cX8_countAhead 68 = .ok (.iload 5, 2) := by decide +kernel
theorem dX8_countAhead_70 : decode cX8_countAhead 70 = .ok (.ifCond .eq 11, 3) := by decide +kernel
theorem dX8_countAhead_73 : decode cX8_countAhead 73 = .ok (.iload_n 3, 1) := by decide +kernel
theorem dX8_countAhead_74 : decode cX8_countAhead 74 = .ok (.iload_n 1, 1) := by decide +kernel
theorem dX8_countAhead_75 : decode cX8_countAhead 75 = .ok (.if_icmp .ge 6, 3) := by decide +kernel
theorem dX8_countAhead_78 : decode cX8_countAhead 78 = .ok (.iinc 2 1, 3) := by decide +kernel
theorem dX8_countAhead_81 : decode cX8_countAhead 81 = .ok (.iinc 3 1, 3) := by decide +kernel
theorem dX8_countAhead_84 : decode cX8_countAhead 84 = .ok (.goto (-80), 3) := by decide +kernel
theorem dX8_countAhead_87 : decode cX8_countAhead 87 = .ok (.iload_n 2, 1) := by decide +kernel
theorem dX8_countAhead_88 : decode cX8_countAhead 88 = .ok (.ireturn, 1) := by decide +kernel
theorem dX8_isDocument_0 : decode cX8_isDocument 0 = .ok (.iload_n 0, 1) := by decide +kernel
theorem dX8_isDocument_1 : decode cX8_isDocument 1 = .ok (.ifCond .lt 13, 3) := by decide +kernel
theorem dX8_isDocument_4 : decode cX8_isDocument 4 = .ok (.iload_n 0, 1) := by decide +kernel
theorem dX8_isDocument_5 : decode cX8_isDocument 5 = .ok (.bipush 8, 2) := by decide +kernel
theorem dX8_isDocument_7 : decode cX8_isDocument 7 = .ok (.if_icmp .ge 7, 3) := by decide +kernel
theorem dX8_isDocument_10 : decode cX8_isDocument 10 = .ok (.iconst 1, 1) := by decide +kernel
theorem dX8_isDocument_11 : decode cX8_isDocument 11 = .ok (.goto 4, 3) := by decide +kernel
theorem dX8_isDocument_14 : decode cX8_isDocument 14 = .ok (.iconst 0, 1) := by decide +kernel
theorem dX8_isDocument_15 : decode cX8_isDocument 15 = .ok (.ireturn, 1) := by decide +kernel
theorem dX9_thrown_0 : decode cX9_thrown 0 = .ok (.aload_n 0, 1) := by decide +kernel
theorem dX9_thrown_1 : decode cX9_thrown 1 = .ok (.getfield 1, 3) := by decide +kernel
theorem dX9_thrown_4 : decode cX9_thrown 4 = .ok (.ireturn, 1) := by decide +kernel
theorem dX9_in_0 : decode cX9_in 0 = .ok (.lload_n 0, 1) := by decide +kernel
theorem dX9_in_1 : decode cX9_in 1 = .ok (.lload_n 2, 1) := by decide +kernel
theorem dX9_in_2 : decode cX9_in 2 = .ok (.lcmp, 1) := by decide +kernel
theorem dX9_in_3 : decode cX9_in 3 = .ok (.ifCond .lt 14, 3) := by decide +kernel
theorem dX9_in_6 : decode cX9_in 6 = .ok (.lload_n 0, 1) := by decide +kernel
theorem dX9_in_7 : decode cX9_in 7 = .ok (.lload 4, 2) := by decide +kernel
theorem dX9_in_9 : decode cX9_in 9 = .ok (.lcmp, 1) := by decide +kernel
theorem dX9_in_10 : decode cX9_in 10 = .ok (.ifCond .gt 7, 3) := by decide +kernel
theorem dX9_in_13 : decode cX9_in 13 = .ok (.iconst 1, 1) := by decide +kernel
theorem dX9_in_14 : decode cX9_in 14 = .ok (.goto 4, 3) := by decide +kernel
theorem dX9_in_17 : decode cX9_in 17 = .ok (.iconst 0, 1) := by decide +kernel
theorem dX9_in_18 : decode cX9_in 18 = .ok (.ireturn, 1) := by decide +kernel
theorem dX9_isLetter_0 : decode cX9_isLetter 0 = .ok (.iload_n 0, 1) := by decide +kernel
theorem dX9_isLetter_1 : decode cX9_isLetter 1 = .ok (.bipush 97, 2) := by decide +kernel
theorem dX9_isLetter_3 : decode cX9_isLetter 3 = .ok (.if_icmp .lt 13, 3) := by decide +kernel
theorem dX9_isLetter_6 : decode cX9_isLetter 6 = .ok (.iload_n 0, 1) := by decide +kernel
theorem dX9_isLetter_7 : decode cX9_isLetter 7 = .ok (.bipush 122, 2) := by decide +kernel
theorem dX9_isLetter_9 : decode cX9_isLetter 9 = .ok (.if_icmp .gt 7, 3) := by decide +kernel
theorem dX9_isLetter_12 : decode cX9_isLetter 12 = .ok (.iconst 1, 1) := by decide +kernel
theorem dX9_isLetter_13 : decode cX9_isLetter 13 = .ok (.goto 4, 3) := by decide +kernel
theorem dX9_isLetter_16 : decode cX9_isLetter 16 = .ok (.iconst 0, 1) := by decide +kernel
theorem dX9_isLetter_17 : decode cX9_isLetter 17 = .ok (.ireturn, 1) := by decide +kernel
theorem dX9_isFigure_0 : decode cX9_isFigure 0 = .ok (.iload_n 0, 1) := by decide +kernel
theorem dX9_isFigure_1 : decode cX9_isFigure 1 = .ok (.bipush 48, 2) := by decide +kernel
theorem dX9_isFigure_3 : decode cX9_isFigure 3 = .ok (.iload_n 1, 1) := by decide +kernel
theorem dX9_isFigure_4 : decode cX9_isFigure 4 = .ok (.iadd, 1) := by decide +kernel
theorem dX9_isFigure_5 : decode cX9_isFigure 5 = .ok (.if_icmp .lt 15, 3) := by decide +kernel
theorem dX9_isFigure_8 : decode cX9_isFigure 8 = .ok (.iload_n 0, 1) := by decide +kernel
theorem dX9_isFigure_9 : decode cX9_isFigure 9 = .ok (.bipush 48, 2) := by decide +kernel
theorem dX9_isFigure_11 : decode cX9_isFigure 11 = .ok (.iload_n 2, 1) := by decide +kernel
theorem dX9_isFigure_12 : decode cX9_isFigure 12 = .ok (.iadd, 1) := by decide +kernel
theorem dX9_isFigure_13 : decode cX9_isFigure 13 = .ok (.if_icmp .gt 7, 3) := by decide +kernel
theorem dX9_isFigure_16 : decode cX9_isFigure 16 = .ok (.iconst 1, 1) := by decide +kernel
theorem dX9_isFigure_17 : decode cX9_isFigure 17 = .ok (.goto 4, 3) := by decide +kernel
theorem dX9_isFigure_20 : decode cX9_isFigure 20 = .ok (.iconst 0, 1) := by decide +kernel
theorem dX9_isFigure_21 : decode cX9_isFigure 21 = .ok (.ireturn, 1) := by decide +kernel
theorem dX9_init_0 : decode cX9_init 0 = .ok (.aload_n 0, 1) := by decide +kernel
theorem dX9_init_1 : decode cX9_init 1 = .ok (.invokespecial 7, 3) := by decide +kernel
theorem dX9_init_4 : decode cX9_init 4 = .ok (.aload_n 0, 1) := by decide +kernel
theorem dX9_init_5 : decode cX9_init 5 = .ok (.sipush 240, 3) := by decide +kernel
theorem dX9_init_8 : decode cX9_init 8 = .ok (.newarray .int, 2) := by decide +kernel
theorem dX9_init_10 : decode cX9_init 10 = .ok (.putfield 13, 3) := by decide +kernel
theorem dX9_init_13 : decode cX9_init 13 = .ok (.aload_n 0, 1) := by decide +kernel
theorem dX9_init_14 : decode cX9_init 14 = .ok (.bipush 25, 2) := by decide +kernel
theorem dX9_init_16 : decode cX9_init 16 = .ok (.newarray .int, 2) := by decide +kernel
theorem dX9_init_18 : decode cX9_init 18 = .ok (.putfield 17, 3) := by decide +kernel
theorem dX9_init_21 : decode cX9_init 21 = .ok (.aload_n 0, 1) := by decide +kernel
theorem dX9_init_22 : decode cX9_init 22 = .ok (.bipush 25, 2) := by decide +kernel
theorem dX9_init_24 : decode cX9_init 24 = .ok (.newarray .int, 2) := by decide +kernel
theorem dX9_init_26 : decode cX9_init 26 = .ok (.putfield 20, 3) := by decide +kernel
theorem dX9_init_29 : decode cX9_init 29 = .ok (.aload_n 0, 1) := by decide +kernel
theorem dX9_init_30 : decode cX9_init 30 = .ok (.bipush 25, 2) := by decide +kernel
theorem dX9_init_32 : decode cX9_init 32 = .ok (.newarray .int, 2) := by decide +kernel
theorem dX9_init_34 : decode cX9_init 34 = .ok (.putfield 23, 3) := by decide +kernel
theorem dX9_init_37 : decode cX9_init 37 = .ok (.aload_n 0, 1) := by decide +kernel
theorem dX9_init_38 : decode cX9_init 38 = .ok (.bipush 25, 2) := by decide +kernel
theorem dX9_init_40 : decode cX9_init 40 = .ok (.newarray .int, 2) := by decide +kernel
theorem dX9_init_42 : decode cX9_init 42 = .ok (.putfield 26, 3) := by decide +kernel
theorem dX9_init_45 : decode cX9_init 45 = .ok (.aload_n 0, 1) := by decide +kernel
theorem dX9_init_46 : decode cX9_init 46 = .ok (.bipush 25, 2) := by decide +kernel
theorem dX9_init_48 : decode cX9_init 48 = .ok (.newarray .int, 2) := by decide +kernel
theorem dX9_init_50 : decode cX9_init 50 = .ok (.putfield 29, 3) := by decide +kernel
theorem dX9_init_53 : decode cX9_init 53 = .ok (.aload_n 0, 1) := by decide +kernel
theorem dX9_init_54 : decode cX9_init 54 = .ok (.bipush 25, 2) := by decide +kernel
theorem dX9_init_56 : decode cX9_init 56 = .ok (.newarray .int, 2) := by decide +kernel
theorem dX9_init_58 : decode cX9_init 58 = .ok (.putfield 32, 3) := by decide +kernel
theorem dX9_init_61 : decode cX9_init 61 = .ok (.aload_n 0, 1) := by decide +kernel
theorem dX9_init_62 : decode cX9_init 62 = .ok (.bipush 25, 2) := by decide +kernel
theorem dX9_init_64 : decode cX9_init 64 = .ok (.newarray .int, 2) := by decide +kernel
theorem dX9_init_66 : decode cX9_init 66 = .ok (.putfield 35, 3) := by decide +kernel
theorem dX9_init_69 : decode cX9_init 69 = .ok (.aload_n 0, 1) := by decide +kernel
theorem dX9_init_70 : decode cX9_init 70 = .ok (.bipush 125, 2) := by decide +kernel
theorem dX9_init_72 : decode cX9_init 72 = .ok (.newarray .int, 2) := by decide +kernel
theorem dX9_init_74 : decode cX9_init 74 = .ok (.putfield 38, 3) := by decide +kernel
theorem dX9_init_77 : decode cX9_init 77 = .ok (.aload_n 0, 1) := by decide +kernel
theorem dX9_init_78 : decode cX9_init 78 = .ok (.sipush 1000, 3) := by decide +kernel
theorem dX9_init_81 : decode cX9_init 81 = .ok (.newarray .int, 2) := by decide +kernel
theorem dX9_init_83 : decode cX9_init 83 = .ok (.putfield 41, 3) := by decide +kernel
theorem dX9_init_86 : decode cX9_init 86 = .ok (.aload_n 0, 1) := by decide +kernel
theorem dX9_init_87 : decode cX9_init 87 = .ok (.bipush 25, 2) := by decide +kernel
theorem dX9_init_89 : decode cX9_init 89 = .ok (.newarray .int, 2) := by decide +kernel
theorem dX9_init_91 : decode cX9_init 91 = .ok (.putfield 44, 3) := by decide +kernel
theorem dX9_init_94 : decode cX9_init 94 = .ok (.aload_n 0, 1) := by decide +kernel
theorem dX9_init_95 : decode cX9_init 95 = .ok (.bipush 25, 2) := by decide +kernel
theorem dX9_init_97 : decode cX9_init 97 = .ok (.newarray .int, 2) := by decide +kernel
theorem dX9_init_99 : decode cX9_init 99 = .ok (.putfield 47, 3) := by decide +kernel
theorem dX9_init_102 : decode cX9_init 102 = .ok (.aload_n 0, 1) := by decide +kernel
theorem dX9_init_103 : decode cX9_init 103 = .ok (.bipush 25, 2) := by decide +kernel
theorem dX9_init_105 : decode cX9_init 105 = .ok (.newarray .int, 2) := by decide +kernel
theorem dX9_init_107 : decode cX9_init 107 = .ok (.putfield 50, 3) := by decide +kernel
theorem dX9_init_110 : decode cX9_init 110 = .ok (.aload_n 0, 1) := by decide +kernel
theorem dX9_init_111 : decode cX9_init 111 = .ok (.bipush 25, 2) := by decide +kernel
theorem dX9_init_113 : decode cX9_init 113 = .ok (.newarray .int, 2) := by decide +kernel
theorem dX9_init_115 : decode cX9_init 115 = .ok (.putfield 53, 3) := by decide +kernel
theorem dX9_init_118 : decode cX9_init 118 = .ok (.aload_n 0, 1) := by decide +kernel
theorem dX9_init_119 : decode cX9_init 119 = .ok (.bipush 25, 2) := by decide +kernel
theorem dX9_init_121 : decode cX9_init 121 = .ok (.newarray .int, 2) := by decide +kernel
theorem dX9_init_123 : decode cX9_init 123 = .ok (.putfield 56, 3) := by decide +kernel
theorem dX9_init_126 : decode cX9_init 126 = .ok (.aload_n 0, 1) := by decide +kernel
theorem dX9_init_127 : decode cX9_init 127 = .ok (.bipush 25, 2) := by decide +kernel
theorem dX9_init_129 : decode cX9_init 129 = .ok (.newarray .int, 2) := by decide +kernel
theorem dX9_init_131 : decode cX9_init 131 = .ok (.putfield 59, 3) := by decide +kernel
theorem dX9_init_134 : decode cX9_init 134 = .ok (.aload_n 0, 1) := by decide +kernel
theorem dX9_init_135 : decode cX9_init 135 = .ok (.bipush 25, 2) := by decide +kernel
theorem dX9_init_137 : decode cX9_init 137 = .ok (.newarray .int, 2) := by decide +kernel
theorem dX9_init_139 : decode cX9_init 139 = .ok (.putfield 62, 3) := by decide +kernel
theorem dX9_init_142 : decode cX9_init 142 = .ok (.aload_n 0, 1) := by decide +kernel
theorem dX9_init_143 : decode cX9_init 143 = .ok (.bipush 125, 2) := by decide +kernel
theorem dX9_init_145 : decode cX9_init 145 = .ok (.newarray .int, 2) := by decide +kernel
theorem dX9_init_147 : decode cX9_init 147 = .ok (.putfield 65, 3) := by decide +kernel
theorem dX9_init_150 : decode cX9_init 150 = .ok (.aload_n 0, 1) := by decide +kernel
theorem dX9_init_151 : decode cX9_init 151 = .ok (.sipush 1000, 3) := by decide +kernel
theorem dX9_init_154 : decode cX9_init 154 = .ok (.newarray .int, 2) := by decide +kernel
theorem dX9_init_156 : decode cX9_init 156 = .ok (.putfield 68, 3) := by decide +kernel
theorem dX9_init_159 : decode cX9_init 159 = .ok (.aload_n 0, 1) := by decide +kernel
theorem dX9_init_160 : decode cX9_init 160 = .ok (.sipush 240, 3) := by decide +kernel
theorem dX9_init_163 : decode cX9_init 163 = .ok (.newarray .int, 2) := by decide +kernel
theorem dX9_init_165 : decode cX9_init 165 = .ok (.putfield 71, 3) := by decide +kernel
theorem dX9_init_168 : decode cX9_init 168 = .ok (.aload_n 0, 1) := by decide +kernel
theorem dX9_init_169 : decode cX9_init 169 = .ok (.sipush 240, 3) := by decide +kernel
theorem dX9_init_172 : decode cX9_init 172 = .ok (.newarray .int, 2) := by decide +kernel
theorem dX9_init_174 : decode cX9_init 174 = .ok (.putfield 74, 3) := by decide +kernel
theorem dX9_init_177 : decode cX9_init 177 = .ok (.aload_n 0, 1) := by decide +kernel
theorem dX9_init_178 : decode cX9_init 178 = .ok (.sipush 300, 3) := by decide +kernel
theorem dX9_init_181 : decode cX9_init 181 = .ok (.newarray .int, 2) := by decide +kernel
theorem dX9_init_183 : decode cX9_init 183 = .ok (.putfield 77, 3) := by decide +kernel
theorem dX9_init_186 : decode cX9_init 186 = .ok (.aload_n 0, 1) := by decide +kernel
theorem dX9_init_187 : decode cX9_init 187 = .ok (.iconst (-1), 1) := by decide +kernel
theorem dX9_init_188 : decode cX9_init 188 = .ok (.putfield 80, 3) := by decide +kernel
theorem dX9_init_191 : decode cX9_init 191 = .ok (.aload_n 0, 1) := by decide +kernel
theorem dX9_init_192 : decode cX9_init 192 = .ok (.bipush 32, 2) := by decide +kernel
theorem dX9_init_194 : decode cX9_init 194 = .ok (.newarray .int, 2) := by decide +kernel
theorem dX9_init_196 : decode cX9_init 196 = .ok (.putfield 83, 3) := by decide +kernel
theorem dX9_init_199 : decode cX9_init 199 = .ok (.aload_n 0, 1) := by decide +kernel
theorem dX9_init_200 : decode cX9_init 200 = .ok (.sipush 384, 3) := by decide +kernel
theorem dX9_init_203 : decode cX9_init 203 = .ok (.newarray .int, 2) := by decide +kernel
theorem dX9_init_205 : decode cX9_init 205 = .ok (.putfield 86, 3) := by decide +kernel
theorem dX9_init_208 : decode cX9_init 208 = .ok (.aload_n 0, 1) := by decide +kernel
theorem dX9_init_209 : decode cX9_init 209 = .ok (.sipush 3072, 3) := by decide +kernel
theorem dX9_init_212 : decode cX9_init 212 = .ok (.newarray .int, 2) := by decide +kernel
theorem dX9_init_214 : decode cX9_init 214 = .ok (.putfield 89, 3) := by decide +kernel
theorem dX9_init_217 : decode cX9_init 217 = .ok (.aload_n 0, 1) := by decide +kernel
theorem dX9_init_218 : decode cX9_init 218 = .ok (.bipush 81, 2) := by decide +kernel
theorem dX9_init_220 : decode cX9_init 220 = .ok (.newarray .int, 2) := by decide +kernel
theorem dX9_init_222 : decode cX9_init 222 = .ok (.putfield 92, 3) := by decide +kernel
theorem dX9_init_225 : decode cX9_init 225 = .ok (.aload_n 0, 1) := by decide +kernel
theorem dX9_init_226 : decode cX9_init 226 = .ok (.bipush 25, 2) := by decide +kernel
theorem dX9_init_228 : decode cX9_init 228 = .ok (.newarray .boolean, 2) := by decide +kernel
theorem dX9_init_230 : decode cX9_init 230 = .ok (.putfield 95, 3) := by decide +kernel
theorem dX9_init_233 : decode cX9_init 233 = .ok (.aload_n 0, 1) := by decide +kernel
theorem dX9_init_234 : decode cX9_init 234 = .ok (.bipush 25, 2) := by decide +kernel
theorem dX9_init_236 : decode cX9_init 236 = .ok (.newarray .long, 2) := by decide +kernel
theorem dX9_init_238 : decode cX9_init 238 = .ok (.putfield 99, 3) := by decide +kernel
theorem dX9_init_241 : decode cX9_init 241 = .ok (.aload_n 0, 1) := by decide +kernel
theorem dX9_init_242 : decode cX9_init 242 = .ok (.bipush 25, 2) := by decide +kernel
theorem dX9_init_244 : decode cX9_init 244 = .ok (.newarray .int, 2) := by decide +kernel
theorem dX9_init_246 : decode cX9_init 246 = .ok (.putfield 103, 3) := by decide +kernel
theorem dX9_init_249 : decode cX9_init 249 = .ok (.aload_n 0, 1) := by decide +kernel
theorem dX9_init_250 : decode cX9_init 250 = .ok (.bipush 8, 2) := by decide +kernel
theorem dX9_init_252 : decode cX9_init 252 = .ok (.newarray .boolean, 2) := by decide +kernel
theorem dX9_init_254 : decode cX9_init 254 = .ok (.putfield 106, 3) := by decide +kernel
theorem dX9_init_257 : decode cX9_init 257 = .ok (.aload_n 0, 1) := by decide +kernel
theorem dX9_init_258 : decode cX9_init 258 = .ok (.bipush 8, 2) := by decide +kernel
theorem dX9_init_260 : decode cX9_init 260 = .ok (.newarray .long, 2) := by decide +kernel
theorem dX9_init_262 : decode cX9_init 262 = .ok (.putfield 109, 3) := by decide +kernel
theorem dX9_init_265 : decode cX9_init 265 = .ok (.aload_n 0, 1) := by decide +kernel
theorem dX9_init_266 : decode cX9_init 266 = .ok (.iconst 0, 1) := by decide +kernel
theorem dX9_init_267 : decode cX9_init 267 = .ok (.putfield 112, 3) := by decide +kernel
theorem dX9_init_270 : decode cX9_init 270 = .ok (.return_, 1) := by decide +kernel
theorem dX9_feed_0 : decode cX9_feed 0 = .ok (.aload_n 0, 1) := by decide +kernel
theorem dX9_feed_1 : decode cX9_feed 1 = .ok (.iconst 0, 1) := by decide +kernel
theorem dX9_feed_2 : decode cX9_feed 2 = .ok (.putfield 1, 3) := by decide +kernel
theorem dX9_feed_5 : decode cX9_feed 5 = .ok (.iload_n 1, 1) := by decide +kernel
theorem dX9_feed_6 : decode cX9_feed 6 = .ok (.i2l, 1) := by decide +kernel
theorem dX9_feed_7 : decode cX9_feed 7 = .ok (.lconst 1, 1) := by decide +kernel
theorem dX9_feed_8 : decode cX9_feed 8 = .ok (.ldc2_w 115, 3) := by decide +kernel
theorem dX9_feed_11 : decode cX9_feed 11 = .ok (.invokestatic 117, 3) := by decide +kernel
theorem dX9_feed_14 : decode cX9_feed 14 = .ok (.ifCond .ne 6, 3) := by decide +kernel
theorem dX9_feed_17 : decode cX9_feed 17 = .ok (.bipush (-102), 2) := by decide +kernel
theorem dX9_feed_19 : decode cX9_feed 19 = .ok (.ireturn, 1) := by decide +kernel
theorem dX9_feed_20 : decode cX9_feed 20 = .ok (.aload_n 0, 1) := by decide +kernel
theorem dX9_feed_21 : decode cX9_feed 21 = .ok (.getfield 121, 3) := by decide +kernel
theorem dX9_feed_24 : decode cX9_feed 24 = .ok (.iload_n 1, 1) := by decide +kernel
theorem dX9_feed_25 : decode cX9_feed 25 = .ok (.iadd, 1) := by decide +kernel
theorem dX9_feed_26 : decode cX9_feed 26 = .ok (.sipush 240, 3) := by decide +kernel
theorem dX9_feed_29 : decode cX9_feed 29 = .ok (.if_icmp .le 6, 3) := by decide +kernel
theorem dX9_feed_32 : decode cX9_feed 32 = .ok (.bipush (-103), 2) := by decide +kernel
theorem dX9_feed_34 : decode cX9_feed 34 = .ok (.ireturn, 1) := by decide +kernel
theorem dX9_feed_35 : decode cX9_feed 35 = .ok (.iload_n 1, 1) := by decide +kernel
theorem dX9_feed_36 : decode cX9_feed 36 = .ok (.iconst 1, 1) := by decide +kernel
theorem dX9_feed_37 : decode cX9_feed 37 = .ok (.isub, 1) := by decide +kernel
theorem dX9_feed_38 : decode cX9_feed 38 = .ok (.istore 4, 2) := by decide +kernel
theorem dX9_feed_40 : decode cX9_feed 40 = .ok (.iload 4, 2) := by decide +kernel
theorem dX9_feed_42 : decode cX9_feed 42 = .ok (.ifCond .lt 40, 3) := by decide +kernel
theorem dX9_feed_45 : decode cX9_feed 45 = .ok (.aload_n 0, 1) := by decide +kernel
theorem dX9_feed_46 : decode cX9_feed 46 = .ok (.getfield 13, 3) := by decide +kernel
theorem dX9_feed_49 : decode cX9_feed 49 = .ok (.aload_n 0, 1) := by decide +kernel
theorem dX9_feed_50 : decode cX9_feed 50 = .ok (.getfield 121, 3) := by decide +kernel
theorem dX9_feed_53 : decode cX9_feed 53 = .ok (.lload_n 2, 1) := by decide +kernel
theorem dX9_feed_54 : decode cX9_feed 54 = .ok (.bipush 8, 2) := by decide +kernel
theorem dX9_feed_56 : decode cX9_feed 56 = .ok (.iload 4, 2) := by decide +kernel
theorem dX9_feed_58 : decode cX9_feed 58 = .ok (.imul, 1) := by decide +kernel
theorem dX9_feed_59 : decode cX9_feed 59 = .ok (.lshr, 1) := by decide +kernel
theorem dX9_feed_60 : decode cX9_feed 60 = .ok (.l2i, 1) := by decide +kernel
theorem dX9_feed_61 : decode cX9_feed 61 = .ok (.sipush 255, 3) := by decide +kernel
theorem dX9_feed_64 : decode cX9_feed 64 = .ok (.iand, 1) := by decide +kernel
theorem dX9_feed_65 : decode cX9_feed 65 = .ok (.iastore, 1) := by decide +kernel
theorem dX9_feed_66 : decode cX9_feed 66 = .ok (.aload_n 0, 1) := by decide +kernel
theorem dX9_feed_67 : decode cX9_feed 67 = .ok (.dup, 1) := by decide +kernel
theorem dX9_feed_68 : decode cX9_feed 68 = .ok (.getfield 121, 3) := by decide +kernel
theorem dX9_feed_71 : decode cX9_feed 71 = .ok (.iconst 1, 1) := by decide +kernel
theorem dX9_feed_72 : decode cX9_feed 72 = .ok (.iadd, 1) := by decide +kernel
theorem dX9_feed_73 : decode cX9_feed 73 = .ok (.putfield 121, 3) := by decide +kernel
theorem dX9_feed_76 : decode cX9_feed 76 = .ok (.iinc 4 (-1), 3) := by decide +kernel
theorem dX9_feed_79 : decode cX9_feed 79 = .ok (.goto (-39), 3) := by decide +kernel
theorem dX9_feed_82 : decode cX9_feed 82 = .ok (.aload_n 0, 1) := by decide +kernel
theorem dX9_feed_83 : decode cX9_feed 83 = .ok (.getfield 121, 3) := by decide +kernel
theorem dX9_feed_86 : decode cX9_feed 86 = .ok (.ireturn, 1) := by decide +kernel
theorem dX9_here_0 : decode cX9_here 0 = .ok (.aload_n 0, 1) := by decide +kernel
theorem dX9_here_1 : decode cX9_here 1 = .ok (.getfield 124, 3) := by decide +kernel
theorem dX9_here_4 : decode cX9_here 4 = .ok (.aload_n 0, 1) := by decide +kernel
theorem dX9_here_5 : decode cX9_here 5 = .ok (.getfield 121, 3) := by decide +kernel
theorem dX9_here_8 : decode cX9_here 8 = .ok (.if_icmp .ge 15, 3) := by decide +kernel
theorem dX9_here_11 : decode cX9_here 11 = .ok (.aload_n 0, 1) := by decide +kernel
theorem dX9_here_12 : decode cX9_here 12 = .ok (.getfield 13, 3) := by decide +kernel
theorem dX9_here_15 : decode cX9_here 15 = .ok (.aload_n 0, 1) := by decide +kernel
theorem dX9_here_16 : decode cX9_here 16 = .ok (.getfield 124, 3) := by decide +kernel
theorem dX9_here_19 : decode cX9_here 19 = .ok (.iaload, 1) := by decide +kernel
theorem dX9_here_20 : decode cX9_here 20 = .ok (.goto 4, 3) := by decide +kernel
theorem dX9_here_23 : decode cX9_here 23 = .ok (.iconst (-1), 1) := by decide +kernel
theorem dX9_here_24 : decode cX9_here 24 = .ok (.ireturn, 1) := by decide +kernel
theorem dX9_fails_0 : decode cX9_fails 0 = .ok (.aload_n 0, 1) := by decide +kernel
theorem dX9_fails_1 : decode cX9_fails 1 = .ok (.iconst 1, 1) := by decide +kernel
theorem dX9_fails_2 : decode cX9_fails 2 = .ok (.putfield 127, 3) := by decide +kernel
theorem dX9_fails_5 : decode cX9_fails 5 = .ok (.iconst 0, 1) := by decide +kernel
theorem dX9_fails_6 : decode cX9_fails 6 = .ok (.ireturn, 1) := by decide +kernel
theorem dX9_newNode_0 : decode cX9_newNode 0 = .ok (.aload_n 0, 1) := by decide +kernel
theorem dX9_newNode_1 : decode cX9_newNode 1 = .ok (.getfield 131, 3) := by decide +kernel
theorem dX9_newNode_4 : decode cX9_newNode 4 = .ok (.istore_n 2, 1) := by decide +kernel
theorem dX9_newNode_5 : decode cX9_newNode 5 = .ok (.aload_n 0, 1) := by decide +kernel
theorem dX9_newNode_6 : decode cX9_newNode 6 = .ok (.dup, 1) := by decide +kernel
theorem dX9_newNode_7 : decode cX9_newNode 7 = .ok (.getfield 131, 3) := by decide +kernel
theorem dX9_newNode_10 : decode cX9_newNode 10 = .ok (.iconst 1, 1) := by decide +kernel
theorem dX9_newNode_11 : decode cX9_newNode 11 = .ok (.iadd, 1) := by decide +kernel
theorem dX9_newNode_12 : decode cX9_newNode 12 = .ok (.putfield 131, 3) := by decide +kernel
theorem dX9_newNode_15 : decode cX9_newNode 15 = .ok (.aload_n 0, 1) := by decide +kernel
theorem dX9_newNode_16 : decode cX9_newNode 16 = .ok (.getfield 17, 3) := by decide +kernel
theorem dX9_newNode_19 : decode cX9_newNode 19 = .ok (.iload_n 2, 1) := by decide +kernel
theorem dX9_newNode_20 : decode cX9_newNode 20 = .ok (.iconst 3, 1) := by decide +kernel
theorem dX9_newNode_21 : decode cX9_newNode 21 = .ok (.iastore, 1) := by decide +kernel
theorem dX9_newNode_22 : decode cX9_newNode 22 = .ok (.aload_n 0, 1) := by decide +kernel
theorem dX9_newNode_23 : decode cX9_newNode 23 = .ok (.getfield 20, 3) := by decide +kernel
theorem dX9_newNode_26 : decode cX9_newNode 26 = .ok (.iload_n 2, 1) := by decide +kernel
theorem dX9_newNode_27 : decode cX9_newNode 27 = .ok (.iconst 0, 1) := by decide +kernel
theorem dX9_newNode_28 : decode cX9_newNode 28 = .ok (.iastore, 1) := by decide +kernel
theorem dX9_newNode_29 : decode cX9_newNode 29 = .ok (.aload_n 0, 1) := by decide +kernel
theorem dX9_newNode_30 : decode cX9_newNode 30 = .ok (.getfield 23, 3) := by decide +kernel
theorem dX9_newNode_33 : decode cX9_newNode 33 = .ok (.iload_n 2, 1) := by decide +kernel
theorem dX9_newNode_34 : decode cX9_newNode 34 = .ok (.iconst 1, 1) := by decide +kernel
theorem dX9_newNode_35 : decode cX9_newNode 35 = .ok (.iastore, 1) := by decide +kernel
theorem dX9_newNode_36 : decode cX9_newNode 36 = .ok (.aload_n 0, 1) := by decide +kernel
theorem dX9_newNode_37 : decode cX9_newNode 37 = .ok (.getfield 26, 3) := by decide +kernel
theorem dX9_newNode_40 : decode cX9_newNode 40 = .ok (.iload_n 2, 1) := by decide +kernel
theorem dX9_newNode_41 : decode cX9_newNode 41 = .ok (.iconst (-1), 1) := by decide +kernel
theorem dX9_newNode_42 : decode cX9_newNode 42 = .ok (.iastore, 1) := by decide +kernel
theorem dX9_newNode_43 : decode cX9_newNode 43 = .ok (.aload_n 0, 1) := by decide +kernel
theorem dX9_newNode_44 : decode cX9_newNode 44 = .ok (.getfield 29, 3) := by decide +kernel
theorem dX9_newNode_47 : decode cX9_newNode 47 = .ok (.iload_n 2, 1) := by decide +kernel
theorem dX9_newNode_48 : decode cX9_newNode 48 = .ok (.iconst (-1), 1) := by decide +kernel
theorem dX9_newNode_49 : decode cX9_newNode 49 = .ok (.iastore, 1) := by decide +kernel
theorem dX9_newNode_50 : decode cX9_newNode 50 = .ok (.aload_n 0, 1) := by decide +kernel
theorem dX9_newNode_51 : decode cX9_newNode 51 = .ok (.getfield 32, 3) := by decide +kernel
theorem dX9_newNode_54 : decode cX9_newNode 54 = .ok (.iload_n 2, 1) := by decide +kernel
theorem dX9_newNode_55 : decode cX9_newNode 55 = .ok (.iload_n 1, 1) := by decide +kernel
theorem dX9_newNode_56 : decode cX9_newNode 56 = .ok (.iastore, 1) := by decide +kernel
theorem dX9_newNode_57 : decode cX9_newNode 57 = .ok (.aload_n 0, 1) := by decide +kernel
theorem dX9_newNode_58 : decode cX9_newNode 58 = .ok (.getfield 35, 3) := by decide +kernel
theorem dX9_newNode_61 : decode cX9_newNode 61 = .ok (.iload_n 2, 1) := by decide +kernel
theorem dX9_newNode_62 : decode cX9_newNode 62 = .ok (.iconst 0, 1) := by decide +kernel
theorem dX9_newNode_63 : decode cX9_newNode 63 = .ok (.iastore, 1) := by decide +kernel
theorem dX9_newNode_64 : decode cX9_newNode 64 = .ok (.iload_n 2, 1) := by decide +kernel
theorem dX9_newNode_65 : decode cX9_newNode 65 = .ok (.ireturn, 1) := by decide +kernel
theorem dX9_letters_0 : decode cX9_letters 0 = .ok (.aload_n 0, 1) := by decide +kernel
theorem dX9_letters_1 : decode cX9_letters 1 = .ok (.getfield 35, 3) := by decide +kernel
theorem dX9_letters_4 : decode cX9_letters 4 = .ok (.iload_n 1, 1) := by decide +kernel
theorem dX9_letters_5 : decode cX9_letters 5 = .ok (.iaload, 1) := by decide +kernel
theorem dX9_letters_6 : decode cX9_letters 6 = .ok (.istore_n 2, 1) := by decide +kernel
theorem dX9_letters_7 : decode cX9_letters 7 = .ok (.iconst 0, 1) := by decide +kernel
theorem dX9_letters_8 : decode cX9_letters 8 = .ok (.istore_n 3, 1) := by decide +kernel
theorem dX9_letters_9 : decode cX9_letters 9 = .ok (.aload_n 0, 1) := by decide +kernel
theorem dX9_letters_10 : decode cX9_letters 10 = .ok (.invokevirtual 134, 3) := by decide +kernel
theorem dX9_letters_13 : decode cX9_letters 13 = .ok (.invokestatic 138, 3) := by decide +kernel
theorem dX9_letters_16 : decode cX9_letters 16 = .ok (.ifCond .eq 45, 3) := by decide +kernel
theorem dX9_letters_19 : decode cX9_letters 19 = .ok (.iload_n 3, 1) := by decide +kernel
theorem dX9_letters_20 : decode cX9_letters 20 = .ok (.bipush 8, 2) := by decide +kernel
theorem dX9_letters_22 : decode cX9_letters 22 = .ok (.if_icmp .ge 39, 3) := by decide +kernel
theorem dX9_letters_25 : decode cX9_letters 25 = .ok (.aload_n 0, 1) := by decide +kernel
theorem dX9_letters_26 : decode cX9_letters 26 = .ok (.getfield 41, 3) := by decide +kernel
theorem dX9_letters_29 : decode cX9_letters 29 = .ok (.bipush 40, 2) := by decide +kernel
theorem dX9_letters_31 : decode cX9_letters 31 = .ok (.iload_n 1, 1) := by decide +kernel
theorem dX9_letters_32 : decode cX9_letters 32 = .ok (.imul, 1) := by decide +kernel
theorem dX9_letters_33 : decode cX9_letters 33 = .ok (.bipush 8, 2) := by decide +kernel
theorem dX9_letters_35 : decode cX9_letters 35 = .ok (.iload_n 2, 1) := by decide +kernel
theorem dX9_letters_36 : decode cX9_letters 36 = .ok (.imul, 1) := by decide +kernel
theorem dX9_letters_37 : decode cX9_letters 37 = .ok (.iadd, 1) := by decide +kernel
theorem dX9_letters_38 : decode cX9_letters 38 = .ok (.iload_n 3, 1) := by decide +kernel
theorem dX9_letters_39 : decode cX9_letters 39 = .ok (.iadd, 1) := by decide +kernel
theorem dX9_letters_40 : decode cX9_letters 40 = .ok (.aload_n 0, 1) := by decide +kernel
theorem dX9_letters_41 : decode cX9_letters 41 = .ok (.invokevirtual 134, 3) := by decide +kernel
theorem dX9_letters_44 : decode cX9_letters 44 = .ok (.iastore, 1) := by decide +kernel
theorem dX9_letters_45 : decode cX9_letters 45 = .ok (.iinc 3 1, 3) := by decide +kernel
theorem dX9_letters_48 : decode cX9_letters 48 = .ok (.aload_n 0, 1) := by decide +kernel
theorem dX9_letters_49 : decode cX9_letters 49 = .ok (.dup, 1) := by decide +kernel
theorem dX9_letters_50 : decode cX9_letters 50 = .ok (.getfield 124, 3) := by decide +kernel
theorem dX9_letters_53 : decode cX9_letters 53 = .ok (.iconst 1, 1) := by decide +kernel
theorem dX9_letters_54 : decode cX9_letters 54 = .ok (.iadd, 1) := by decide +kernel
theorem dX9_letters_55 : decode cX9_letters 55 = .ok (.putfield 124, 3) := by decide +kernel
theorem dX9_letters_58 : decode cX9_letters 58 = .ok (.goto (-49), 3) := by decide +kernel
theorem dX9_letters_61 : decode cX9_letters 61 = .ok (.iload_n 3, 1) := by decide +kernel
theorem dX9_letters_62 : decode cX9_letters 62 = .ok (.ifCond .eq 13, 3) := by decide +kernel
theorem dX9_letters_65 : decode cX9_letters 65 = .ok (.aload_n 0, 1) := by decide +kernel
theorem dX9_letters_66 : decode cX9_letters 66 = .ok (.invokevirtual 134, 3) := by decide +kernel
theorem dX9_letters_69 : decode cX9_letters 69 = .ok (.invokestatic 138, 3) := by decide +kernel
theorem dX9_letters_72 : decode cX9_letters 72 = .ok (.ifCond .eq 8, 3) := by decide +kernel
theorem dX9_letters_75 : decode cX9_letters 75 = .ok (.aload_n 0, 1) := by decide +kernel
theorem dX9_letters_76 : decode cX9_letters 76 = .ok (.invokevirtual 142, 3) := by decide +kernel
theorem dX9_letters_79 : decode cX9_letters 79 = .ok (.ireturn, 1) := by decide +kernel
theorem dX9_letters_80 : decode cX9_letters 80 = .ok (.aload_n 0, 1) := by decide +kernel
theorem dX9_letters_81 : decode cX9_letters 81 = .ok (.getfield 38, 3) := by decide +kernel
theorem dX9_letters_84 : decode cX9_letters 84 = .ok (.iconst 5, 1) := by decide +kernel
theorem dX9_letters_85 : decode cX9_letters 85 = .ok (.iload_n 1, 1) := by decide +kernel
theorem dX9_letters_86 : decode cX9_letters 86 = .ok (.imul, 1) := by decide +kernel
theorem dX9_letters_87 : decode cX9_letters 87 = .ok (.iload_n 2, 1) := by decide +kernel
theorem dX9_letters_88 : decode cX9_letters 88 = .ok (.iadd, 1) := by decide +kernel
theorem dX9_letters_89 : decode cX9_letters 89 = .ok (.iload_n 3, 1) := by decide +kernel
theorem dX9_letters_90 : decode cX9_letters 90 = .ok (.iastore, 1) := by decide +kernel
theorem dX9_letters_91 : decode cX9_letters 91 = .ok (.aload_n 0, 1) := by decide +kernel
theorem dX9_letters_92 : decode cX9_letters 92 = .ok (.getfield 35, 3) := by decide +kernel
theorem dX9_letters_95 : decode cX9_letters 95 = .ok (.iload_n 1, 1) := by decide +kernel
theorem dX9_letters_96 : decode cX9_letters 96 = .ok (.dup2, 1) := by decide +kernel
theorem dX9_letters_97 : decode cX9_letters 97 = .ok (.iaload, 1) := by decide +kernel
theorem dX9_letters_98 : decode cX9_letters 98 = .ok (.iconst 1, 1) := by decide +kernel
theorem dX9_letters_99 : decode cX9_letters 99 = .ok (.iadd, 1) := by decide +kernel
theorem dX9_letters_100 : decode cX9_letters 100 = .ok (.iastore, 1) := by decide +kernel
theorem dX9_letters_101 : decode cX9_letters 101 = .ok (.iconst 1, 1) := by decide +kernel
theorem dX9_letters_102 : decode cX9_letters 102 = .ok (.ireturn, 1) := by decide +kernel
theorem dX9_figure_0 : decode cX9_figure 0 = .ok (.aload_n 0, 1) := by decide +kernel
theorem dX9_figure_1 : decode cX9_figure 1 = .ok (.invokevirtual 134, 3) := by decide +kernel
theorem dX9_figure_4 : decode cX9_figure 4 = .ok (.iload_n 2, 1) := by decide +kernel
theorem dX9_figure_5 : decode cX9_figure 5 = .ok (.if_icmp .eq 5, 3) := by decide +kernel
theorem dX9_figure_8 : decode cX9_figure 8 = .ok (.iconst 1, 1) := by decide +kernel
theorem dX9_figure_9 : decode cX9_figure 9 = .ok (.ireturn, 1) := by decide +kernel
theorem dX9_figure_10 : decode cX9_figure 10 = .ok (.aload_n 0, 1) := by decide +kernel
theorem dX9_figure_11 : decode cX9_figure 11 = .ok (.dup, 1) := by decide +kernel
theorem dX9_figure_12 : decode cX9_figure 12 = .ok (.getfield 124, 3) := by decide +kernel
theorem dX9_figure_15 : decode cX9_figure 15 = .ok (.iconst 1, 1) := by decide +kernel
theorem dX9_figure_16 : decode cX9_figure 16 = .ok (.iadd, 1) := by decide +kernel
theorem dX9_figure_17 : decode cX9_figure 17 = .ok (.putfield 124, 3) := by decide +kernel
theorem dX9_figure_20 : decode cX9_figure 20 = .ok (.aload_n 0, 1) := by decide +kernel
theorem dX9_figure_21 : decode cX9_figure 21 = .ok (.invokevirtual 134, 3) := by decide +kernel
theorem dX9_figure_24 : decode cX9_figure 24 = .ok (.iload_n 3, 1) := by decide +kernel
theorem dX9_figure_25 : decode cX9_figure 25 = .ok (.iload 4, 2) := by decide +kernel
theorem dX9_figure_27 : decode cX9_figure 27 = .ok (.invokestatic 146, 3) := by decide +kernel
theorem dX9_figure_30 : decode cX9_figure 30 = .ok (.ifCond .ne 8, 3) := by decide +kernel
theorem dX9_figure_33 : decode cX9_figure 33 = .ok (.aload_n 0, 1) := by decide +kernel
theorem dX9_figure_34 : decode cX9_figure 34 = .ok (.invokevirtual 142, 3) := by decide +kernel
theorem dX9_figure_37 : decode cX9_figure 37 = .ok (.ireturn, 1) := by decide +kernel
theorem dX9_figure_38 : decode cX9_figure 38 = .ok (.aload_n 0, 1) := by decide +kernel
theorem dX9_figure_39 : decode cX9_figure 39 = .ok (.getfield 29, 3) := by decide +kernel
theorem dX9_figure_42 : decode cX9_figure 42 = .ok (.iload_n 1, 1) := by decide +kernel
theorem dX9_figure_43 : decode cX9_figure 43 = .ok (.aload_n 0, 1) := by decide +kernel
theorem dX9_figure_44 : decode cX9_figure 44 = .ok (.invokevirtual 134, 3) := by decide +kernel
theorem dX9_figure_47 : decode cX9_figure 47 = .ok (.bipush 48, 2) := by decide +kernel
theorem dX9_figure_49 : decode cX9_figure 49 = .ok (.isub, 1) := by decide +kernel
theorem dX9_figure_50 : decode cX9_figure 50 = .ok (.iastore, 1) := by decide +kernel
theorem dX9_figure_51 : decode cX9_figure 51 = .ok (.aload_n 0, 1) := by decide +kernel
theorem dX9_figure_52 : decode cX9_figure 52 = .ok (.dup, 1) := by decide +kernel
theorem dX9_figure_53 : decode cX9_figure 53 = .ok (.getfield 124, 3) := by decide +kernel
theorem dX9_figure_56 : decode cX9_figure 56 = .ok (.iconst 1, 1) := by decide +kernel
theorem dX9_figure_57 : decode cX9_figure 57 = .ok (.iadd, 1) := by decide +kernel
theorem dX9_figure_58 : decode cX9_figure 58 = .ok (.putfield 124, 3) := by decide +kernel
theorem dX9_figure_61 : decode cX9_figure 61 = .ok (.iconst 1, 1) := by decide +kernel
theorem dX9_figure_62 : decode cX9_figure 62 = .ok (.ireturn, 1) := by decide +kernel
theorem dX9_word_0 : decode cX9_word 0 = .ok (.aload_n 0, 1) := by decide +kernel
theorem dX9_word_1 : decode cX9_word 1 = .ok (.getfield 17, 3) := by decide +kernel
theorem dX9_word_4 : decode cX9_word 4 = .ok (.iload_n 1, 1) := by decide +kernel
theorem dX9_word_5 : decode cX9_word 5 = .ok (.iconst 0, 1) := by decide +kernel
theorem dX9_word_6 : decode cX9_word 6 = .ok (.iastore, 1) := by decide +kernel
theorem dX9_word_7 : decode cX9_word 7 = .ok (.aload_n 0, 1) := by decide +kernel
theorem dX9_word_8 : decode cX9_word 8 = .ok (.getfield 29, 3) := by decide +kernel
theorem dX9_word_11 : decode cX9_word 11 = .ok (.iload_n 1, 1) := by decide +kernel
theorem dX9_word_12 : decode cX9_word 12 = .ok (.iconst 0, 1) := by decide +kernel
theorem dX9_word_13 : decode cX9_word 13 = .ok (.iastore, 1) := by decide +kernel
theorem dX9_word_14 : decode cX9_word 14 = .ok (.iconst 1, 1) := by decide +kernel
theorem dX9_word_15 : decode cX9_word 15 = .ok (.istore_n 2, 1) := by decide +kernel
theorem dX9_word_16 : decode cX9_word 16 = .ok (.iconst 0, 1) := by decide +kernel
theorem dX9_word_17 : decode cX9_word 17 = .ok (.istore_n 3, 1) := by decide +kernel
theorem dX9_word_18 : decode cX9_word 18 = .ok (.iload_n 3, 1) := by decide +kernel
theorem dX9_word_19 : decode cX9_word 19 = .ok (.bipush 8, 2) := by decide +kernel
theorem dX9_word_21 : decode cX9_word 21 = .ok (.if_icmp .ge 82, 3) := by decide +kernel
theorem dX9_word_24 : decode cX9_word 24 = .ok (.aload_n 0, 1) := by decide +kernel
theorem dX9_word_25 : decode cX9_word 25 = .ok (.invokevirtual 134, 3) := by decide +kernel
theorem dX9_word_28 : decode cX9_word 28 = .ok (.invokestatic 138, 3) := by decide +kernel
theorem dX9_word_31 : decode cX9_word 31 = .ok (.ifCond .ne 21, 3) := by decide +kernel
theorem dX9_word_34 : decode cX9_word 34 = .ok (.aload_n 0, 1) := by decide +kernel
theorem dX9_word_35 : decode cX9_word 35 = .ok (.invokevirtual 134, 3) := by decide +kernel
theorem dX9_word_38 : decode cX9_word 38 = .ok (.bipush 63, 2) := by decide +kernel
theorem dX9_word_40 : decode cX9_word 40 = .ok (.if_icmp .eq 12, 3) := by decide +kernel
theorem dX9_word_43 : decode cX9_word 43 = .ok (.aload_n 0, 1) := by decide +kernel
theorem dX9_word_44 : decode cX9_word 44 = .ok (.invokevirtual 134, 3) := by decide +kernel
theorem dX9_word_47 : decode cX9_word 47 = .ok (.bipush 42, 2) := by decide +kernel
theorem dX9_word_49 : decode cX9_word 49 = .ok (.if_icmp .ne 54, 3) := by decide +kernel
theorem dX9_word_52 : decode cX9_word 52 = .ok (.iload_n 2, 1) := by decide +kernel
theorem dX9_word_53 : decode cX9_word 53 = .ok (.ifCond .eq 17, 3) := by decide +kernel
theorem dX9_word_56 : decode cX9_word 56 = .ok (.aload_n 0, 1) := by decide +kernel
theorem dX9_word_57 : decode cX9_word 57 = .ok (.invokevirtual 134, 3) := by decide +kernel
theorem dX9_word_60 : decode cX9_word 60 = .ok (.invokestatic 138, 3) := by decide +kernel
theorem dX9_word_63 : decode cX9_word 63 = .ok (.ifCond .eq 7, 3) := by decide +kernel
theorem dX9_word_66 : decode cX9_word 66 = .ok (.iconst 1, 1) := by decide +kernel
theorem dX9_word_67 : decode cX9_word 67 = .ok (.goto 4, 3) := by decide +kernel
theorem dX9_word_70 : decode cX9_word 70 = .ok (.iconst 0, 1) := by decide +kernel
theorem dX9_word_71 : decode cX9_word 71 = .ok (.istore_n 2, 1) := by decide +kernel
theorem dX9_word_72 : decode cX9_word 72 = .ok (.aload_n 0, 1) := by decide +kernel
theorem dX9_word_73 : decode cX9_word 73 = .ok (.getfield 41, 3) := by decide +kernel
theorem dX9_word_76 : decode cX9_word 76 = .ok (.bipush 40, 2) := by decide +kernel
theorem dX9_word_78 : decode cX9_word 78 = .ok (.iload_n 1, 1) := by decide +kernel
theorem dX9_word_79 : decode cX9_word 79 = .ok (.imul, 1) := by decide +kernel
theorem dX9_word_80 : decode cX9_word 80 = .ok (.iload_n 3, 1) := by decide +kernel
theorem dX9_word_81 : decode cX9_word 81 = .ok (.iadd, 1) := by decide +kernel
theorem dX9_word_82 : decode cX9_word 82 = .ok (.aload_n 0, 1) := by decide +kernel
theorem dX9_word_83 : decode cX9_word 83 = .ok (.invokevirtual 134, 3) := by decide +kernel
theorem dX9_word_86 : decode cX9_word 86 = .ok (.iastore, 1) := by decide +kernel
theorem dX9_word_87 : decode cX9_word 87 = .ok (.iinc 3 1, 3) := by decide +kernel
theorem dX9_word_90 : decode cX9_word 90 = .ok (.aload_n 0, 1) := by decide +kernel
theorem dX9_word_91 : decode cX9_word 91 = .ok (.dup, 1) := by decide +kernel
theorem dX9_word_92 : decode cX9_word 92 = .ok (.getfield 124, 3) := by decide +kernel
theorem dX9_word_95 : decode cX9_word 95 = .ok (.iconst 1, 1) := by decide +kernel
theorem dX9_word_96 : decode cX9_word 96 = .ok (.iadd, 1) := by decide +kernel
theorem dX9_word_97 : decode cX9_word 97 = .ok (.putfield 124, 3) := by decide +kernel
theorem dX9_word_100 : decode cX9_word 100 = .ok (.goto (-82), 3) := by decide +kernel
theorem dX9_word_103 : decode cX9_word 103 = .ok (.aload_n 0, 1) := by decide +kernel
theorem dX9_word_104 : decode cX9_word 104 = .ok (.getfield 38, 3) := by decide +kernel
theorem dX9_word_107 : decode cX9_word 107 = .ok (.iconst 5, 1) := by decide +kernel
theorem dX9_word_108 : decode cX9_word 108 = .ok (.iload_n 1, 1) := by decide +kernel
theorem dX9_word_109 : decode cX9_word 109 = .ok (.imul, 1) := by decide +kernel
theorem dX9_word_110 : decode cX9_word 110 = .ok (.iload_n 3, 1) := by decide +kernel
theorem dX9_word_111 : decode cX9_word 111 = .ok (.iastore, 1) := by decide +kernel
theorem dX9_word_112 : decode cX9_word 112 = .ok (.aload_n 0, 1) := by decide +kernel
theorem dX9_word_113 : decode cX9_word 113 = .ok (.getfield 35, 3) := by decide +kernel
theorem dX9_word_116 : decode cX9_word 116 = .ok (.iload_n 1, 1) := by decide +kernel
theorem dX9_word_117 : decode cX9_word 117 = .ok (.iconst 1, 1) := by decide +kernel
theorem dX9_word_118 : decode cX9_word 118 = .ok (.iastore, 1) := by decide +kernel
theorem dX9_word_119 : decode cX9_word 119 = .ok (.aload_n 0, 1) := by decide +kernel
theorem dX9_word_120 : decode cX9_word 120 = .ok (.invokevirtual 134, 3) := by decide +kernel
theorem dX9_word_123 : decode cX9_word 123 = .ok (.invokestatic 138, 3) := by decide +kernel
theorem dX9_word_126 : decode cX9_word 126 = .ok (.ifCond .ne 34, 3) := by decide +kernel
theorem dX9_word_129 : decode cX9_word 129 = .ok (.aload_n 0, 1) := by decide +kernel
theorem dX9_word_130 : decode cX9_word 130 = .ok (.invokevirtual 134, 3) := by decide +kernel
theorem dX9_word_133 : decode cX9_word 133 = .ok (.bipush 63, 2) := by decide +kernel
theorem dX9_word_135 : decode cX9_word 135 = .ok (.if_icmp .eq 25, 3) := by decide +kernel
theorem dX9_word_138 : decode cX9_word 138 = .ok (.aload_n 0, 1) := by decide +kernel
theorem dX9_word_139 : decode cX9_word 139 = .ok (.invokevirtual 134, 3) := by decide +kernel
theorem dX9_word_142 : decode cX9_word 142 = .ok (.bipush 42, 2) := by decide +kernel
theorem dX9_word_144 : decode cX9_word 144 = .ok (.if_icmp .eq 16, 3) := by decide +kernel
theorem dX9_word_147 : decode cX9_word 147 = .ok (.iload_n 2, 1) := by decide +kernel
theorem dX9_word_148 : decode cX9_word 148 = .ok (.ifCond .ne 17, 3) := by decide +kernel
theorem dX9_word_151 : decode cX9_word 151 = .ok (.aload_n 0, 1) := by decide +kernel
theorem dX9_word_152 : decode cX9_word 152 = .ok (.invokevirtual 134, 3) := by decide +kernel
theorem dX9_word_155 : decode cX9_word 155 = .ok (.bipush 126, 2) := by decide +kernel
theorem dX9_word_157 : decode cX9_word 157 = .ok (.if_icmp .ne 8, 3) := by decide +kernel
theorem dX9_word_160 : decode cX9_word 160 = .ok (.aload_n 0, 1) := by decide +kernel
theorem dX9_word_161 : decode cX9_word 161 = .ok (.invokevirtual 142, 3) := by decide +kernel
theorem dX9_word_164 : decode cX9_word 164 = .ok (.ireturn, 1) := by decide +kernel
theorem dX9_word_165 : decode cX9_word 165 = .ok (.aload_n 0, 1) := by decide +kernel
theorem dX9_word_166 : decode cX9_word 166 = .ok (.iload_n 1, 1) := by decide +kernel
theorem dX9_word_167 : decode cX9_word 167 = .ok (.bipush 126, 2) := by decide +kernel
theorem dX9_word_169 : decode cX9_word 169 = .ok (.iconst 0, 1) := by decide +kernel
theorem dX9_word_170 : decode cX9_word 170 = .ok (.iconst 2, 1) := by decide +kernel
theorem dX9_word_171 : decode cX9_word 171 = .ok (.invokevirtual 150, 3) := by decide +kernel
theorem dX9_word_174 : decode cX9_word 174 = .ok (.ireturn, 1) := by decide +kernel
theorem dX9_quote_0 : decode cX9_quote 0 = .ok (.aload_n 0, 1) := by decide +kernel
theorem dX9_quote_1 : decode cX9_quote 1 = .ok (.getfield 17, 3) := by decide +kernel
theorem dX9_quote_4 : decode cX9_quote 4 = .ok (.iload_n 1, 1) := by decide +kernel
theorem dX9_quote_5 : decode cX9_quote 5 = .ok (.iconst 1, 1) := by decide +kernel
theorem dX9_quote_6 : decode cX9_quote 6 = .ok (.iastore, 1) := by decide +kernel
end
section
theorem dX9_quote_7 : decode cX9_quote 7 = .ok (.aload_n 0, 1) := by decide +kernel
theorem dX9_quote_8 : decode cX9_quote 8 = .ok (.getfield 29, 3) := by decide +kernel
theorem dX9_quote_11 : decode cX9_quote 11 = .ok (.iload_n 1, 1) := by decide +kernel
theorem dX9_quote_12 : decode cX9_quote 12 = .ok (.iconst 0, 1) := by decide +kernel
theorem dX9_quote_13 : decode cX9_quote 13 = .ok (.iastore, 1) := by decide +kernel
theorem dX9_quote_14 : decode cX9_quote 14 = .ok (.aload_n 0, 1) := by decide +kernel
theorem dX9_quote_15 : decode cX9_quote 15 = .ok (.dup, 1) := by decide +kernel
theorem dX9_quote_16 : decode cX9_quote 16 = .ok (.getfield 124, 3) := by decide +kernel
theorem dX9_quote_19 : decode cX9_quote 19 = .ok (.iconst 1, 1) := by decide +kernel
theorem dX9_quote_20 : decode cX9_quote 20 = .ok (.iadd, 1) := by decide +kernel
theorem dX9_quote_21 : decode cX9_quote 21 = .ok (.putfield 124, 3) := by decide +kernel
theorem dX9_quote_24 : decode cX9_quote 24 = .ok (.iconst 1, 1) := by decide +kernel
theorem dX9_quote_25 : decode cX9_quote 25 = .ok (.istore_n 2, 1) := by decide +kernel
theorem dX9_quote_26 : decode cX9_quote 26 = .ok (.iload_n 2, 1) := by decide +kernel
theorem dX9_quote_27 : decode cX9_quote 27 = .ok (.ifCond .eq 64, 3) := by decide +kernel
theorem dX9_quote_30 : decode cX9_quote 30 = .ok (.aload_n 0, 1) := by decide +kernel
theorem dX9_quote_31 : decode cX9_quote 31 = .ok (.iload_n 1, 1) := by decide +kernel
theorem dX9_quote_32 : decode cX9_quote 32 = .ok (.invokevirtual 154, 3) := by decide +kernel
theorem dX9_quote_35 : decode cX9_quote 35 = .ok (.ifCond .ne 5, 3) := by decide +kernel
theorem dX9_quote_38 : decode cX9_quote 38 = .ok (.iconst 0, 1) := by decide +kernel
theorem dX9_quote_39 : decode cX9_quote 39 = .ok (.ireturn, 1) := by decide +kernel
theorem dX9_quote_40 : decode cX9_quote 40 = .ok (.aload_n 0, 1) := by decide +kernel
theorem dX9_quote_41 : decode cX9_quote 41 = .ok (.invokevirtual 134, 3) := by decide +kernel
theorem dX9_quote_44 : decode cX9_quote 44 = .ok (.bipush 32, 2) := by decide +kernel
theorem dX9_quote_46 : decode cX9_quote 46 = .ok (.if_icmp .ne 17, 3) := by decide +kernel
theorem dX9_quote_49 : decode cX9_quote 49 = .ok (.aload_n 0, 1) := by decide +kernel
theorem dX9_quote_50 : decode cX9_quote 50 = .ok (.getfield 35, 3) := by decide +kernel
theorem dX9_quote_53 : decode cX9_quote 53 = .ok (.iload_n 1, 1) := by decide +kernel
theorem dX9_quote_54 : decode cX9_quote 54 = .ok (.iaload, 1) := by decide +kernel
theorem dX9_quote_55 : decode cX9_quote 55 = .ok (.iconst 5, 1) := by decide +kernel
theorem dX9_quote_56 : decode cX9_quote 56 = .ok (.if_icmp .ge 7, 3) := by decide +kernel
theorem dX9_quote_59 : decode cX9_quote 59 = .ok (.iconst 1, 1) := by decide +kernel
theorem dX9_quote_60 : decode cX9_quote 60 = .ok (.goto 4, 3) := by decide +kernel
theorem dX9_quote_63 : decode cX9_quote 63 = .ok (.iconst 0, 1) := by decide +kernel
theorem dX9_quote_64 : decode cX9_quote 64 = .ok (.istore_n 2, 1) := by decide +kernel
theorem dX9_quote_65 : decode cX9_quote 65 = .ok (.iload_n 2, 1) := by decide +kernel
theorem dX9_quote_66 : decode cX9_quote 66 = .ok (.ifCond .eq (-40), 3) := by decide +kernel
theorem dX9_quote_69 : decode cX9_quote 69 = .ok (.aload_n 0, 1) := by decide +kernel
theorem dX9_quote_70 : decode cX9_quote 70 = .ok (.invokevirtual 134, 3) := by decide +kernel
theorem dX9_quote_73 : decode cX9_quote 73 = .ok (.bipush 32, 2) := by decide +kernel
theorem dX9_quote_75 : decode cX9_quote 75 = .ok (.if_icmp .ne (-49), 3) := by decide +kernel
theorem dX9_quote_78 : decode cX9_quote 78 = .ok (.aload_n 0, 1) := by decide +kernel
theorem dX9_quote_79 : decode cX9_quote 79 = .ok (.dup, 1) := by decide +kernel
theorem dX9_quote_80 : decode cX9_quote 80 = .ok (.getfield 124, 3) := by decide +kernel
theorem dX9_quote_83 : decode cX9_quote 83 = .ok (.iconst 1, 1) := by decide +kernel
theorem dX9_quote_84 : decode cX9_quote 84 = .ok (.iadd, 1) := by decide +kernel
theorem dX9_quote_85 : decode cX9_quote 85 = .ok (.putfield 124, 3) := by decide +kernel
theorem dX9_quote_88 : decode cX9_quote 88 = .ok (.goto (-23), 3) := by decide +kernel
theorem dX9_quote_91 : decode cX9_quote 91 = .ok (.aload_n 0, 1) := by decide +kernel
theorem dX9_quote_92 : decode cX9_quote 92 = .ok (.invokevirtual 134, 3) := by decide +kernel
theorem dX9_quote_95 : decode cX9_quote 95 = .ok (.bipush 34, 2) := by decide +kernel
theorem dX9_quote_97 : decode cX9_quote 97 = .ok (.if_icmp .eq 8, 3) := by decide +kernel
theorem dX9_quote_100 : decode cX9_quote 100 = .ok (.aload_n 0, 1) := by decide +kernel
theorem dX9_quote_101 : decode cX9_quote 101 = .ok (.invokevirtual 142, 3) := by decide +kernel
theorem dX9_quote_104 : decode cX9_quote 104 = .ok (.ireturn, 1) := by decide +kernel
theorem dX9_quote_105 : decode cX9_quote 105 = .ok (.aload_n 0, 1) := by decide +kernel
theorem dX9_quote_106 : decode cX9_quote 106 = .ok (.dup, 1) := by decide +kernel
theorem dX9_quote_107 : decode cX9_quote 107 = .ok (.getfield 124, 3) := by decide +kernel
theorem dX9_quote_110 : decode cX9_quote 110 = .ok (.iconst 1, 1) := by decide +kernel
theorem dX9_quote_111 : decode cX9_quote 111 = .ok (.iadd, 1) := by decide +kernel
theorem dX9_quote_112 : decode cX9_quote 112 = .ok (.putfield 124, 3) := by decide +kernel
theorem dX9_quote_115 : decode cX9_quote 115 = .ok (.aload_n 0, 1) := by decide +kernel
theorem dX9_quote_116 : decode cX9_quote 116 = .ok (.iload_n 1, 1) := by decide +kernel
theorem dX9_quote_117 : decode cX9_quote 117 = .ok (.bipush 126, 2) := by decide +kernel
theorem dX9_quote_119 : decode cX9_quote 119 = .ok (.iconst 0, 1) := by decide +kernel
theorem dX9_quote_120 : decode cX9_quote 120 = .ok (.bipush 9, 2) := by decide +kernel
theorem dX9_quote_122 : decode cX9_quote 122 = .ok (.invokevirtual 150, 3) := by decide +kernel
theorem dX9_quote_125 : decode cX9_quote 125 = .ok (.ireturn, 1) := by decide +kernel
theorem dX9_span_0 : decode cX9_span 0 = .ok (.aload_n 0, 1) := by decide +kernel
theorem dX9_span_1 : decode cX9_span 1 = .ok (.getfield 17, 3) := by decide +kernel
theorem dX9_span_4 : decode cX9_span 4 = .ok (.iload_n 1, 1) := by decide +kernel
theorem dX9_span_5 : decode cX9_span 5 = .ok (.iconst 2, 1) := by decide +kernel
theorem dX9_span_6 : decode cX9_span 6 = .ok (.iastore, 1) := by decide +kernel
theorem dX9_span_7 : decode cX9_span 7 = .ok (.aload_n 0, 1) := by decide +kernel
theorem dX9_span_8 : decode cX9_span 8 = .ok (.invokevirtual 134, 3) := by decide +kernel
theorem dX9_span_11 : decode cX9_span 11 = .ok (.bipush 123, 2) := by decide +kernel
theorem dX9_span_13 : decode cX9_span 13 = .ok (.if_icmp .ne 7, 3) := by decide +kernel
theorem dX9_span_16 : decode cX9_span 16 = .ok (.iconst 1, 1) := by decide +kernel
theorem dX9_span_17 : decode cX9_span 17 = .ok (.goto 4, 3) := by decide +kernel
theorem dX9_span_20 : decode cX9_span 20 = .ok (.iconst 0, 1) := by decide +kernel
theorem dX9_span_21 : decode cX9_span 21 = .ok (.istore_n 2, 1) := by decide +kernel
theorem dX9_span_22 : decode cX9_span 22 = .ok (.aload_n 0, 1) := by decide +kernel
theorem dX9_span_23 : decode cX9_span 23 = .ok (.getfield 29, 3) := by decide +kernel
theorem dX9_span_26 : decode cX9_span 26 = .ok (.iload_n 1, 1) := by decide +kernel
theorem dX9_span_27 : decode cX9_span 27 = .ok (.iload_n 2, 1) := by decide +kernel
theorem dX9_span_28 : decode cX9_span 28 = .ok (.ifCond .eq 7, 3) := by decide +kernel
theorem dX9_span_31 : decode cX9_span 31 = .ok (.iconst 1, 1) := by decide +kernel
theorem dX9_span_32 : decode cX9_span 32 = .ok (.goto 4, 3) := by decide +kernel
theorem dX9_span_35 : decode cX9_span 35 = .ok (.iconst 0, 1) := by decide +kernel
theorem dX9_span_36 : decode cX9_span 36 = .ok (.iastore, 1) := by decide +kernel
theorem dX9_span_37 : decode cX9_span 37 = .ok (.aload_n 0, 1) := by decide +kernel
theorem dX9_span_38 : decode cX9_span 38 = .ok (.dup, 1) := by decide +kernel
theorem dX9_span_39 : decode cX9_span 39 = .ok (.getfield 124, 3) := by decide +kernel
theorem dX9_span_42 : decode cX9_span 42 = .ok (.iconst 1, 1) := by decide +kernel
theorem dX9_span_43 : decode cX9_span 43 = .ok (.iadd, 1) := by decide +kernel
theorem dX9_span_44 : decode cX9_span 44 = .ok (.putfield 124, 3) := by decide +kernel
theorem dX9_span_47 : decode cX9_span 47 = .ok (.aload_n 0, 1) := by decide +kernel
theorem dX9_span_48 : decode cX9_span 48 = .ok (.iload_n 1, 1) := by decide +kernel
theorem dX9_span_49 : decode cX9_span 49 = .ok (.invokevirtual 154, 3) := by decide +kernel
theorem dX9_span_52 : decode cX9_span 52 = .ok (.ifCond .ne 5, 3) := by decide +kernel
theorem dX9_span_55 : decode cX9_span 55 = .ok (.iconst 0, 1) := by decide +kernel
theorem dX9_span_56 : decode cX9_span 56 = .ok (.ireturn, 1) := by decide +kernel
theorem dX9_span_57 : decode cX9_span 57 = .ok (.iconst 0, 1) := by decide +kernel
theorem dX9_span_58 : decode cX9_span 58 = .ok (.istore_n 3, 1) := by decide +kernel
theorem dX9_span_59 : decode cX9_span 59 = .ok (.iload_n 3, 1) := by decide +kernel
theorem dX9_span_60 : decode cX9_span 60 = .ok (.iconst 2, 1) := by decide +kernel
theorem dX9_span_61 : decode cX9_span 61 = .ok (.if_icmp .ge 33, 3) := by decide +kernel
theorem dX9_span_64 : decode cX9_span 64 = .ok (.aload_n 0, 1) := by decide +kernel
theorem dX9_span_65 : decode cX9_span 65 = .ok (.invokevirtual 134, 3) := by decide +kernel
theorem dX9_span_68 : decode cX9_span 68 = .ok (.bipush 46, 2) := by decide +kernel
theorem dX9_span_70 : decode cX9_span 70 = .ok (.if_icmp .eq 8, 3) := by decide +kernel
theorem dX9_span_73 : decode cX9_span 73 = .ok (.aload_n 0, 1) := by decide +kernel
theorem dX9_span_74 : decode cX9_span 74 = .ok (.invokevirtual 142, 3) := by decide +kernel
theorem dX9_span_77 : decode cX9_span 77 = .ok (.ireturn, 1) := by decide +kernel
theorem dX9_span_78 : decode cX9_span 78 = .ok (.aload_n 0, 1) := by decide +kernel
theorem dX9_span_79 : decode cX9_span 79 = .ok (.dup, 1) := by decide +kernel
theorem dX9_span_80 : decode cX9_span 80 = .ok (.getfield 124, 3) := by decide +kernel
theorem dX9_span_83 : decode cX9_span 83 = .ok (.iconst 1, 1) := by decide +kernel
theorem dX9_span_84 : decode cX9_span 84 = .ok (.iadd, 1) := by decide +kernel
theorem dX9_span_85 : decode cX9_span 85 = .ok (.putfield 124, 3) := by decide +kernel
theorem dX9_span_88 : decode cX9_span 88 = .ok (.iinc 3 1, 3) := by decide +kernel
theorem dX9_span_91 : decode cX9_span 91 = .ok (.goto (-32), 3) := by decide +kernel
theorem dX9_span_94 : decode cX9_span 94 = .ok (.aload_n 0, 1) := by decide +kernel
theorem dX9_span_95 : decode cX9_span 95 = .ok (.iload_n 1, 1) := by decide +kernel
theorem dX9_span_96 : decode cX9_span 96 = .ok (.invokevirtual 154, 3) := by decide +kernel
theorem dX9_span_99 : decode cX9_span 99 = .ok (.ifCond .ne 5, 3) := by decide +kernel
theorem dX9_span_102 : decode cX9_span 102 = .ok (.iconst 0, 1) := by decide +kernel
theorem dX9_span_103 : decode cX9_span 103 = .ok (.ireturn, 1) := by decide +kernel
theorem dX9_span_104 : decode cX9_span 104 = .ok (.aload_n 0, 1) := by decide +kernel
theorem dX9_span_105 : decode cX9_span 105 = .ok (.invokevirtual 134, 3) := by decide +kernel
theorem dX9_span_108 : decode cX9_span 108 = .ok (.iload_n 2, 1) := by decide +kernel
theorem dX9_span_109 : decode cX9_span 109 = .ok (.ifCond .eq 8, 3) := by decide +kernel
theorem dX9_span_112 : decode cX9_span 112 = .ok (.bipush 125, 2) := by decide +kernel
theorem dX9_span_114 : decode cX9_span 114 = .ok (.goto 5, 3) := by decide +kernel
theorem dX9_span_117 : decode cX9_span 117 = .ok (.bipush 93, 2) := by decide +kernel
theorem dX9_span_119 : decode cX9_span 119 = .ok (.if_icmp .eq 8, 3) := by decide +kernel
theorem dX9_span_122 : decode cX9_span 122 = .ok (.aload_n 0, 1) := by decide +kernel
theorem dX9_span_123 : decode cX9_span 123 = .ok (.invokevirtual 142, 3) := by decide +kernel
theorem dX9_span_126 : decode cX9_span 126 = .ok (.ireturn, 1) := by decide +kernel
theorem dX9_span_127 : decode cX9_span 127 = .ok (.aload_n 0, 1) := by decide +kernel
theorem dX9_span_128 : decode cX9_span 128 = .ok (.dup, 1) := by decide +kernel
theorem dX9_span_129 : decode cX9_span 129 = .ok (.getfield 124, 3) := by decide +kernel
theorem dX9_span_132 : decode cX9_span 132 = .ok (.iconst 1, 1) := by decide +kernel
theorem dX9_span_133 : decode cX9_span 133 = .ok (.iadd, 1) := by decide +kernel
theorem dX9_span_134 : decode cX9_span 134 = .ok (.putfield 124, 3) := by decide +kernel
theorem dX9_span_137 : decode cX9_span 137 = .ok (.iconst 1, 1) := by decide +kernel
theorem dX9_span_138 : decode cX9_span 138 = .ok (.ireturn, 1) := by decide +kernel
theorem dX9_ends_0 : decode cX9_ends 0 = .ok (.aload_n 0, 1) := by decide +kernel
theorem dX9_ends_1 : decode cX9_ends 1 = .ok (.invokevirtual 134, 3) := by decide +kernel
theorem dX9_ends_4 : decode cX9_ends 4 = .ok (.bipush 94, 2) := by decide +kernel
theorem dX9_ends_6 : decode cX9_ends 6 = .ok (.if_icmp .ne 100, 3) := by decide +kernel
theorem dX9_ends_9 : decode cX9_ends 9 = .ok (.aload_n 0, 1) := by decide +kernel
theorem dX9_ends_10 : decode cX9_ends 10 = .ok (.dup, 1) := by decide +kernel
theorem dX9_ends_11 : decode cX9_ends 11 = .ok (.getfield 124, 3) := by decide +kernel
theorem dX9_ends_14 : decode cX9_ends 14 = .ok (.iconst 1, 1) := by decide +kernel
theorem dX9_ends_15 : decode cX9_ends 15 = .ok (.iadd, 1) := by decide +kernel
theorem dX9_ends_16 : decode cX9_ends 16 = .ok (.putfield 124, 3) := by decide +kernel
theorem dX9_ends_19 : decode cX9_ends 19 = .ok (.aload_n 0, 1) := by decide +kernel
theorem dX9_ends_20 : decode cX9_ends 20 = .ok (.invokevirtual 134, 3) := by decide +kernel
theorem dX9_ends_23 : decode cX9_ends 23 = .ok (.iconst 0, 1) := by decide +kernel
theorem dX9_ends_24 : decode cX9_ends 24 = .ok (.bipush 9, 2) := by decide +kernel
theorem dX9_ends_26 : decode cX9_ends 26 = .ok (.invokestatic 146, 3) := by decide +kernel
theorem dX9_ends_29 : decode cX9_ends 29 = .ok (.ifCond .ne 8, 3) := by decide +kernel
theorem dX9_ends_32 : decode cX9_ends 32 = .ok (.aload_n 0, 1) := by decide +kernel
theorem dX9_ends_33 : decode cX9_ends 33 = .ok (.invokevirtual 142, 3) := by decide +kernel
theorem dX9_ends_36 : decode cX9_ends 36 = .ok (.ireturn, 1) := by decide +kernel
theorem dX9_ends_37 : decode cX9_ends 37 = .ok (.aload_n 0, 1) := by decide +kernel
theorem dX9_ends_38 : decode cX9_ends 38 = .ok (.getfield 23, 3) := by decide +kernel
theorem dX9_ends_41 : decode cX9_ends 41 = .ok (.iload_n 1, 1) := by decide +kernel
theorem dX9_ends_42 : decode cX9_ends 42 = .ok (.aload_n 0, 1) := by decide +kernel
theorem dX9_ends_43 : decode cX9_ends 43 = .ok (.invokevirtual 134, 3) := by decide +kernel
theorem dX9_ends_46 : decode cX9_ends 46 = .ok (.bipush 48, 2) := by decide +kernel
theorem dX9_ends_48 : decode cX9_ends 48 = .ok (.isub, 1) := by decide +kernel
theorem dX9_ends_49 : decode cX9_ends 49 = .ok (.iastore, 1) := by decide +kernel
theorem dX9_ends_50 : decode cX9_ends 50 = .ok (.aload_n 0, 1) := by decide +kernel
theorem dX9_ends_51 : decode cX9_ends 51 = .ok (.dup, 1) := by decide +kernel
theorem dX9_ends_52 : decode cX9_ends 52 = .ok (.getfield 124, 3) := by decide +kernel
theorem dX9_ends_55 : decode cX9_ends 55 = .ok (.iconst 1, 1) := by decide +kernel
theorem dX9_ends_56 : decode cX9_ends 56 = .ok (.iadd, 1) := by decide +kernel
theorem dX9_ends_57 : decode cX9_ends 57 = .ok (.putfield 124, 3) := by decide +kernel
theorem dX9_ends_60 : decode cX9_ends 60 = .ok (.aload_n 0, 1) := by decide +kernel
theorem dX9_ends_61 : decode cX9_ends 61 = .ok (.invokevirtual 134, 3) := by decide +kernel
theorem dX9_ends_64 : decode cX9_ends 64 = .ok (.iconst 0, 1) := by decide +kernel
theorem dX9_ends_65 : decode cX9_ends 65 = .ok (.bipush 9, 2) := by decide +kernel
theorem dX9_ends_67 : decode cX9_ends 67 = .ok (.invokestatic 146, 3) := by decide +kernel
theorem dX9_ends_70 : decode cX9_ends 70 = .ok (.ifCond .eq 36, 3) := by decide +kernel
theorem dX9_ends_73 : decode cX9_ends 73 = .ok (.aload_n 0, 1) := by decide +kernel
theorem dX9_ends_74 : decode cX9_ends 74 = .ok (.getfield 23, 3) := by decide +kernel
theorem dX9_ends_77 : decode cX9_ends 77 = .ok (.iload_n 1, 1) := by decide +kernel
theorem dX9_ends_78 : decode cX9_ends 78 = .ok (.bipush 10, 2) := by decide +kernel
theorem dX9_ends_80 : decode cX9_ends 80 = .ok (.aload_n 0, 1) := by decide +kernel
theorem dX9_ends_81 : decode cX9_ends 81 = .ok (.getfield 23, 3) := by decide +kernel
theorem dX9_ends_84 : decode cX9_ends 84 = .ok (.iload_n 1, 1) := by decide +kernel
theorem dX9_ends_85 : decode cX9_ends 85 = .ok (.iaload, 1) := by decide +kernel
theorem dX9_ends_86 : decode cX9_ends 86 = .ok (.imul, 1) := by decide +kernel
theorem dX9_ends_87 : decode cX9_ends 87 = .ok (.aload_n 0, 1) := by decide +kernel
theorem dX9_ends_88 : decode cX9_ends 88 = .ok (.invokevirtual 134, 3) := by decide +kernel
theorem dX9_ends_91 : decode cX9_ends 91 = .ok (.iadd, 1) := by decide +kernel
theorem dX9_ends_92 : decode cX9_ends 92 = .ok (.bipush 48, 2) := by decide +kernel
theorem dX9_ends_94 : decode cX9_ends 94 = .ok (.isub, 1) := by decide +kernel
theorem dX9_ends_95 : decode cX9_ends 95 = .ok (.iastore, 1) := by decide +kernel
theorem dX9_ends_96 : decode cX9_ends 96 = .ok (.aload_n 0, 1) := by decide +kernel
theorem dX9_ends_97 : decode cX9_ends 97 = .ok (.dup, 1) := by decide +kernel
theorem dX9_ends_98 : decode cX9_ends 98 = .ok (.getfield 124, 3) := by decide +kernel
theorem dX9_ends_101 : decode cX9_ends 101 = .ok (.iconst 1, 1) := by decide +kernel
theorem dX9_ends_102 : decode cX9_ends 102 = .ok (.iadd, 1) := by decide +kernel
theorem dX9_ends_103 : decode cX9_ends 103 = .ok (.putfield 124, 3) := by decide +kernel
theorem dX9_ends_106 : decode cX9_ends 106 = .ok (.aload_n 0, 1) := by decide +kernel
theorem dX9_ends_107 : decode cX9_ends 107 = .ok (.invokevirtual 134, 3) := by decide +kernel
theorem dX9_ends_110 : decode cX9_ends 110 = .ok (.bipush 32, 2) := by decide +kernel
theorem dX9_ends_112 : decode cX9_ends 112 = .ok (.if_icmp .eq 27, 3) := by decide +kernel
theorem dX9_ends_115 : decode cX9_ends 115 = .ok (.aload_n 0, 1) := by decide +kernel
theorem dX9_ends_116 : decode cX9_ends 116 = .ok (.invokevirtual 134, 3) := by decide +kernel
theorem dX9_ends_119 : decode cX9_ends 119 = .ok (.bipush 41, 2) := by decide +kernel
theorem dX9_ends_121 : decode cX9_ends 121 = .ok (.if_icmp .eq 18, 3) := by decide +kernel
theorem dX9_ends_124 : decode cX9_ends 124 = .ok (.aload_n 0, 1) := by decide +kernel
theorem dX9_ends_125 : decode cX9_ends 125 = .ok (.invokevirtual 134, 3) := by decide +kernel
theorem dX9_ends_128 : decode cX9_ends 128 = .ok (.iconst (-1), 1) := by decide +kernel
theorem dX9_ends_129 : decode cX9_ends 129 = .ok (.if_icmp .eq 10, 3) := by decide +kernel
theorem dX9_ends_132 : decode cX9_ends 132 = .ok (.aload_n 0, 1) := by decide +kernel
theorem dX9_ends_133 : decode cX9_ends 133 = .ok (.invokevirtual 142, 3) := by decide +kernel
theorem dX9_ends_136 : decode cX9_ends 136 = .ok (.ifCond .eq 7, 3) := by decide +kernel
theorem dX9_ends_139 : decode cX9_ends 139 = .ok (.iconst 1, 1) := by decide +kernel
theorem dX9_ends_140 : decode cX9_ends 140 = .ok (.goto 4, 3) := by decide +kernel
theorem dX9_ends_143 : decode cX9_ends 143 = .ok (.iconst 0, 1) := by decide +kernel
theorem dX9_ends_144 : decode cX9_ends 144 = .ok (.ireturn, 1) := by decide +kernel
theorem dX9_marks_0 : decode cX9_marks 0 = .ok (.aload_n 0, 1) := by decide +kernel
theorem dX9_marks_1 : decode cX9_marks 1 = .ok (.invokevirtual 134, 3) := by decide +kernel
theorem dX9_marks_4 : decode cX9_marks 4 = .ok (.bipush 43, 2) := by decide +kernel
theorem dX9_marks_6 : decode cX9_marks 6 = .ok (.if_icmp .eq 12, 3) := by decide +kernel
theorem dX9_marks_9 : decode cX9_marks 9 = .ok (.aload_n 0, 1) := by decide +kernel
theorem dX9_marks_10 : decode cX9_marks 10 = .ok (.invokevirtual 134, 3) := by decide +kernel
theorem dX9_marks_13 : decode cX9_marks 13 = .ok (.bipush 45, 2) := by decide +kernel
theorem dX9_marks_15 : decode cX9_marks 15 = .ok (.if_icmp .ne 33, 3) := by decide +kernel
theorem dX9_marks_18 : decode cX9_marks 18 = .ok (.aload_n 0, 1) := by decide +kernel
theorem dX9_marks_19 : decode cX9_marks 19 = .ok (.getfield 20, 3) := by decide +kernel
theorem dX9_marks_22 : decode cX9_marks 22 = .ok (.iload_n 1, 1) := by decide +kernel
theorem dX9_marks_23 : decode cX9_marks 23 = .ok (.aload_n 0, 1) := by decide +kernel
theorem dX9_marks_24 : decode cX9_marks 24 = .ok (.invokevirtual 134, 3) := by decide +kernel
theorem dX9_marks_27 : decode cX9_marks 27 = .ok (.bipush 43, 2) := by decide +kernel
theorem dX9_marks_29 : decode cX9_marks 29 = .ok (.if_icmp .ne 7, 3) := by decide +kernel
theorem dX9_marks_32 : decode cX9_marks 32 = .ok (.iconst 1, 1) := by decide +kernel
theorem dX9_marks_33 : decode cX9_marks 33 = .ok (.goto 4, 3) := by decide +kernel
theorem dX9_marks_36 : decode cX9_marks 36 = .ok (.iconst 2, 1) := by decide +kernel
theorem dX9_marks_37 : decode cX9_marks 37 = .ok (.iastore, 1) := by decide +kernel
theorem dX9_marks_38 : decode cX9_marks 38 = .ok (.aload_n 0, 1) := by decide +kernel
theorem dX9_marks_39 : decode cX9_marks 39 = .ok (.dup, 1) := by decide +kernel
theorem dX9_marks_40 : decode cX9_marks 40 = .ok (.getfield 124, 3) := by decide +kernel
theorem dX9_marks_43 : decode cX9_marks 43 = .ok (.iconst 1, 1) := by decide +kernel
theorem dX9_marks_44 : decode cX9_marks 44 = .ok (.iadd, 1) := by decide +kernel
theorem dX9_marks_45 : decode cX9_marks 45 = .ok (.putfield 124, 3) := by decide +kernel
theorem dX9_marks_48 : decode cX9_marks 48 = .ok (.aload_n 0, 1) := by decide +kernel
theorem dX9_marks_49 : decode cX9_marks 49 = .ok (.invokevirtual 134, 3) := by decide +kernel
theorem dX9_marks_52 : decode cX9_marks 52 = .ok (.i2l, 1) := by decide +kernel
theorem dX9_marks_53 : decode cX9_marks 53 = .ok (.ldc2_w 157, 3) := by decide +kernel
theorem dX9_marks_56 : decode cX9_marks 56 = .ok (.ldc2_w 159, 3) := by decide +kernel
theorem dX9_marks_59 : decode cX9_marks 59 = .ok (.invokestatic 117, 3) := by decide +kernel
theorem dX9_marks_62 : decode cX9_marks 62 = .ok (.ifCond .eq 36, 3) := by decide +kernel
theorem dX9_marks_65 : decode cX9_marks 65 = .ok (.aload_n 0, 1) := by decide +kernel
theorem dX9_marks_66 : decode cX9_marks 66 = .ok (.getfield 124, 3) := by decide +kernel
theorem dX9_marks_69 : decode cX9_marks 69 = .ok (.iconst 1, 1) := by decide +kernel
theorem dX9_marks_70 : decode cX9_marks 70 = .ok (.iadd, 1) := by decide +kernel
theorem dX9_marks_71 : decode cX9_marks 71 = .ok (.aload_n 0, 1) := by decide +kernel
theorem dX9_marks_72 : decode cX9_marks 72 = .ok (.getfield 121, 3) := by decide +kernel
theorem dX9_marks_75 : decode cX9_marks 75 = .ok (.if_icmp .ge 23, 3) := by decide +kernel
theorem dX9_marks_78 : decode cX9_marks 78 = .ok (.aload_n 0, 1) := by decide +kernel
theorem dX9_marks_79 : decode cX9_marks 79 = .ok (.getfield 13, 3) := by decide +kernel
theorem dX9_marks_82 : decode cX9_marks 82 = .ok (.aload_n 0, 1) := by decide +kernel
theorem dX9_marks_83 : decode cX9_marks 83 = .ok (.getfield 124, 3) := by decide +kernel
theorem dX9_marks_86 : decode cX9_marks 86 = .ok (.iconst 1, 1) := by decide +kernel
theorem dX9_marks_87 : decode cX9_marks 87 = .ok (.iadd, 1) := by decide +kernel
theorem dX9_marks_88 : decode cX9_marks 88 = .ok (.iaload, 1) := by decide +kernel
theorem dX9_marks_89 : decode cX9_marks 89 = .ok (.bipush 58, 2) := by decide +kernel
theorem dX9_marks_91 : decode cX9_marks 91 = .ok (.if_icmp .ne 7, 3) := by decide +kernel
theorem dX9_marks_94 : decode cX9_marks 94 = .ok (.iconst 1, 1) := by decide +kernel
theorem dX9_marks_95 : decode cX9_marks 95 = .ok (.goto 4, 3) := by decide +kernel
theorem dX9_marks_98 : decode cX9_marks 98 = .ok (.iconst 0, 1) := by decide +kernel
theorem dX9_marks_99 : decode cX9_marks 99 = .ok (.istore_n 2, 1) := by decide +kernel
theorem dX9_marks_100 : decode cX9_marks 100 = .ok (.iload_n 2, 1) := by decide +kernel
theorem dX9_marks_101 : decode cX9_marks 101 = .ok (.ifCond .eq 26, 3) := by decide +kernel
theorem dX9_marks_104 : decode cX9_marks 104 = .ok (.aload_n 0, 1) := by decide +kernel
theorem dX9_marks_105 : decode cX9_marks 105 = .ok (.getfield 26, 3) := by decide +kernel
theorem dX9_marks_108 : decode cX9_marks 108 = .ok (.iload_n 1, 1) := by decide +kernel
theorem dX9_marks_109 : decode cX9_marks 109 = .ok (.aload_n 0, 1) := by decide +kernel
theorem dX9_marks_110 : decode cX9_marks 110 = .ok (.invokevirtual 134, 3) := by decide +kernel
theorem dX9_marks_113 : decode cX9_marks 113 = .ok (.bipush 97, 2) := by decide +kernel
theorem dX9_marks_115 : decode cX9_marks 115 = .ok (.isub, 1) := by decide +kernel
theorem dX9_marks_116 : decode cX9_marks 116 = .ok (.iastore, 1) := by decide +kernel
theorem dX9_marks_117 : decode cX9_marks 117 = .ok (.aload_n 0, 1) := by decide +kernel
theorem dX9_marks_118 : decode cX9_marks 118 = .ok (.dup, 1) := by decide +kernel
theorem dX9_marks_119 : decode cX9_marks 119 = .ok (.getfield 124, 3) := by decide +kernel
theorem dX9_marks_122 : decode cX9_marks 122 = .ok (.iconst 2, 1) := by decide +kernel
theorem dX9_marks_123 : decode cX9_marks 123 = .ok (.iadd, 1) := by decide +kernel
theorem dX9_marks_124 : decode cX9_marks 124 = .ok (.putfield 124, 3) := by decide +kernel
theorem dX9_marks_127 : decode cX9_marks 127 = .ok (.return_, 1) := by decide +kernel
theorem dX9_core_0 : decode cX9_core 0 = .ok (.aload_n 0, 1) := by decide +kernel
theorem dX9_core_1 : decode cX9_core 1 = .ok (.invokevirtual 134, 3) := by decide +kernel
theorem dX9_core_4 : decode cX9_core 4 = .ok (.istore_n 3, 1) := by decide +kernel
theorem dX9_core_5 : decode cX9_core 5 = .ok (.iload_n 3, 1) := by decide +kernel
theorem dX9_core_6 : decode cX9_core 6 = .ok (.bipush 40, 2) := by decide +kernel
theorem dX9_core_8 : decode cX9_core 8 = .ok (.if_icmp .ne 61, 3) := by decide +kernel
theorem dX9_core_11 : decode cX9_core 11 = .ok (.iload_n 2, 1) := by decide +kernel
theorem dX9_core_12 : decode cX9_core 12 = .ok (.iconst 5, 1) := by decide +kernel
theorem dX9_core_13 : decode cX9_core 13 = .ok (.if_icmp .ge 16, 3) := by decide +kernel
theorem dX9_core_16 : decode cX9_core 16 = .ok (.aload_n 0, 1) := by decide +kernel
theorem dX9_core_17 : decode cX9_core 17 = .ok (.getfield 131, 3) := by decide +kernel
theorem dX9_core_20 : decode cX9_core 20 = .ok (.bipush 25, 2) := by decide +kernel
theorem dX9_core_22 : decode cX9_core 22 = .ok (.if_icmp .ge 7, 3) := by decide +kernel
theorem dX9_core_25 : decode cX9_core 25 = .ok (.iconst 1, 1) := by decide +kernel
theorem dX9_core_26 : decode cX9_core 26 = .ok (.goto 4, 3) := by decide +kernel
theorem dX9_core_29 : decode cX9_core 29 = .ok (.iconst 0, 1) := by decide +kernel
theorem dX9_core_30 : decode cX9_core 30 = .ok (.istore 4, 2) := by decide +kernel
theorem dX9_core_32 : decode cX9_core 32 = .ok (.aload_n 0, 1) := by decide +kernel
theorem dX9_core_33 : decode cX9_core 33 = .ok (.dup, 1) := by decide +kernel
theorem dX9_core_34 : decode cX9_core 34 = .ok (.getfield 124, 3) := by decide +kernel
theorem dX9_core_37 : decode cX9_core 37 = .ok (.iload 4, 2) := by decide +kernel
theorem dX9_core_39 : decode cX9_core 39 = .ok (.ifCond .eq 7, 3) := by decide +kernel
theorem dX9_core_42 : decode cX9_core 42 = .ok (.iconst 1, 1) := by decide +kernel
theorem dX9_core_43 : decode cX9_core 43 = .ok (.goto 4, 3) := by decide +kernel
theorem dX9_core_46 : decode cX9_core 46 = .ok (.iconst 0, 1) := by decide +kernel
theorem dX9_core_47 : decode cX9_core 47 = .ok (.iadd, 1) := by decide +kernel
theorem dX9_core_48 : decode cX9_core 48 = .ok (.putfield 124, 3) := by decide +kernel
theorem dX9_core_51 : decode cX9_core 51 = .ok (.iload 4, 2) := by decide +kernel
theorem dX9_core_53 : decode cX9_core 53 = .ok (.ifCond .ne 10, 3) := by decide +kernel
theorem dX9_core_56 : decode cX9_core 56 = .ok (.aload_n 0, 1) := by decide +kernel
theorem dX9_core_57 : decode cX9_core 57 = .ok (.invokevirtual 142, 3) := by decide +kernel
theorem dX9_core_60 : decode cX9_core 60 = .ok (.ifCond .eq 7, 3) := by decide +kernel
theorem dX9_core_63 : decode cX9_core 63 = .ok (.iconst 1, 1) := by decide +kernel
theorem dX9_core_64 : decode cX9_core 64 = .ok (.goto 4, 3) := by decide +kernel
theorem dX9_core_67 : decode cX9_core 67 = .ok (.iconst 0, 1) := by decide +kernel
theorem dX9_core_68 : decode cX9_core 68 = .ok (.ireturn, 1) := by decide +kernel
theorem dX9_core_69 : decode cX9_core 69 = .ok (.iload_n 3, 1) := by decide +kernel
theorem dX9_core_70 : decode cX9_core 70 = .ok (.invokestatic 138, 3) := by decide +kernel
theorem dX9_core_73 : decode cX9_core 73 = .ok (.ifCond .ne 15, 3) := by decide +kernel
theorem dX9_core_76 : decode cX9_core 76 = .ok (.iload_n 3, 1) := by decide +kernel
theorem dX9_core_77 : decode cX9_core 77 = .ok (.bipush 63, 2) := by decide +kernel
theorem dX9_core_79 : decode cX9_core 79 = .ok (.if_icmp .eq 9, 3) := by decide +kernel
theorem dX9_core_82 : decode cX9_core 82 = .ok (.iload_n 3, 1) := by decide +kernel
theorem dX9_core_83 : decode cX9_core 83 = .ok (.bipush 42, 2) := by decide +kernel
theorem dX9_core_85 : decode cX9_core 85 = .ok (.if_icmp .ne 11, 3) := by decide +kernel
theorem dX9_core_88 : decode cX9_core 88 = .ok (.aload_n 0, 1) := by decide +kernel
theorem dX9_core_89 : decode cX9_core 89 = .ok (.iload_n 1, 1) := by decide +kernel
theorem dX9_core_90 : decode cX9_core 90 = .ok (.invokevirtual 161, 3) := by decide +kernel
theorem dX9_core_93 : decode cX9_core 93 = .ok (.goto 41, 3) := by decide +kernel
theorem dX9_core_96 : decode cX9_core 96 = .ok (.iload_n 3, 1) := by decide +kernel
theorem dX9_core_97 : decode cX9_core 97 = .ok (.bipush 34, 2) := by decide +kernel
theorem dX9_core_99 : decode cX9_core 99 = .ok (.if_icmp .ne 11, 3) := by decide +kernel
theorem dX9_core_102 : decode cX9_core 102 = .ok (.aload_n 0, 1) := by decide +kernel
theorem dX9_core_103 : decode cX9_core 103 = .ok (.iload_n 1, 1) := by decide +kernel
theorem dX9_core_104 : decode cX9_core 104 = .ok (.invokevirtual 164, 3) := by decide +kernel
theorem dX9_core_107 : decode cX9_core 107 = .ok (.goto 27, 3) := by decide +kernel
theorem dX9_core_110 : decode cX9_core 110 = .ok (.iload_n 3, 1) := by decide +kernel
theorem dX9_core_111 : decode cX9_core 111 = .ok (.bipush 91, 2) := by decide +kernel
theorem dX9_core_113 : decode cX9_core 113 = .ok (.if_icmp .eq 9, 3) := by decide +kernel
theorem dX9_core_116 : decode cX9_core 116 = .ok (.iload_n 3, 1) := by decide +kernel
theorem dX9_core_117 : decode cX9_core 117 = .ok (.bipush 123, 2) := by decide +kernel
theorem dX9_core_119 : decode cX9_core 119 = .ok (.if_icmp .ne 11, 3) := by decide +kernel
theorem dX9_core_122 : decode cX9_core 122 = .ok (.aload_n 0, 1) := by decide +kernel
theorem dX9_core_123 : decode cX9_core 123 = .ok (.iload_n 1, 1) := by decide +kernel
theorem dX9_core_124 : decode cX9_core 124 = .ok (.invokevirtual 167, 3) := by decide +kernel
theorem dX9_core_127 : decode cX9_core 127 = .ok (.goto 7, 3) := by decide +kernel
theorem dX9_core_130 : decode cX9_core 130 = .ok (.aload_n 0, 1) := by decide +kernel
theorem dX9_core_131 : decode cX9_core 131 = .ok (.invokevirtual 142, 3) := by decide +kernel
theorem dX9_core_134 : decode cX9_core 134 = .ok (.istore 4, 2) := by decide +kernel
theorem dX9_core_136 : decode cX9_core 136 = .ok (.iload 4, 2) := by decide +kernel
theorem dX9_core_138 : decode cX9_core 138 = .ok (.ifCond .eq 15, 3) := by decide +kernel
theorem dX9_core_141 : decode cX9_core 141 = .ok (.aload_n 0, 1) := by decide +kernel
theorem dX9_core_142 : decode cX9_core 142 = .ok (.iload_n 1, 1) := by decide +kernel
theorem dX9_core_143 : decode cX9_core 143 = .ok (.invokevirtual 170, 3) := by decide +kernel
theorem dX9_core_146 : decode cX9_core 146 = .ok (.ifCond .eq 7, 3) := by decide +kernel
theorem dX9_core_149 : decode cX9_core 149 = .ok (.iconst 1, 1) := by decide +kernel
theorem dX9_core_150 : decode cX9_core 150 = .ok (.goto 4, 3) := by decide +kernel
theorem dX9_core_153 : decode cX9_core 153 = .ok (.iconst 0, 1) := by decide +kernel
theorem dX9_core_154 : decode cX9_core 154 = .ok (.ireturn, 1) := by decide +kernel
theorem dX9_goAlong_0 : decode cX9_goAlong 0 = .ok (.aload_n 0, 1) := by decide +kernel
theorem dX9_goAlong_1 : decode cX9_goAlong 1 = .ok (.iconst 0, 1) := by decide +kernel
theorem dX9_goAlong_2 : decode cX9_goAlong 2 = .ok (.putfield 124, 3) := by decide +kernel
theorem dX9_goAlong_5 : decode cX9_goAlong 5 = .ok (.aload_n 0, 1) := by decide +kernel
theorem dX9_goAlong_6 : decode cX9_goAlong 6 = .ok (.iconst 0, 1) := by decide +kernel
theorem dX9_goAlong_7 : decode cX9_goAlong 7 = .ok (.putfield 127, 3) := by decide +kernel
theorem dX9_goAlong_10 : decode cX9_goAlong 10 = .ok (.aload_n 0, 1) := by decide +kernel
theorem dX9_goAlong_11 : decode cX9_goAlong 11 = .ok (.iconst 0, 1) := by decide +kernel
theorem dX9_goAlong_12 : decode cX9_goAlong 12 = .ok (.putfield 131, 3) := by decide +kernel
theorem dX9_goAlong_15 : decode cX9_goAlong 15 = .ok (.aload_n 0, 1) := by decide +kernel
theorem dX9_goAlong_16 : decode cX9_goAlong 16 = .ok (.iconst (-1), 1) := by decide +kernel
theorem dX9_goAlong_17 : decode cX9_goAlong 17 = .ok (.invokevirtual 173, 3) := by decide +kernel
theorem dX9_goAlong_20 : decode cX9_goAlong 20 = .ok (.istore_n 1, 1) := by decide +kernel
theorem dX9_goAlong_21 : decode cX9_goAlong 21 = .ok (.iconst 0, 1) := by decide +kernel
theorem dX9_goAlong_22 : decode cX9_goAlong 22 = .ok (.istore_n 2, 1) := by decide +kernel
theorem dX9_goAlong_23 : decode cX9_goAlong 23 = .ok (.aload_n 0, 1) := by decide +kernel
theorem dX9_goAlong_24 : decode cX9_goAlong 24 = .ok (.getfield 127, 3) := by decide +kernel
theorem dX9_goAlong_27 : decode cX9_goAlong 27 = .ok (.ifCond .ne 308, 3) := by decide +kernel
theorem dX9_goAlong_30 : decode cX9_goAlong 30 = .ok (.aload_n 0, 1) := by decide +kernel
theorem dX9_goAlong_31 : decode cX9_goAlong 31 = .ok (.invokevirtual 134, 3) := by decide +kernel
theorem dX9_goAlong_34 : decode cX9_goAlong 34 = .ok (.bipush 32, 2) := by decide +kernel
theorem dX9_goAlong_36 : decode cX9_goAlong 36 = .ok (.if_icmp .ne 16, 3) := by decide +kernel
theorem dX9_goAlong_39 : decode cX9_goAlong 39 = .ok (.aload_n 0, 1) := by decide +kernel
theorem dX9_goAlong_40 : decode cX9_goAlong 40 = .ok (.dup, 1) := by decide +kernel
theorem dX9_goAlong_41 : decode cX9_goAlong 41 = .ok (.getfield 124, 3) := by decide +kernel
theorem dX9_goAlong_44 : decode cX9_goAlong 44 = .ok (.iconst 1, 1) := by decide +kernel
theorem dX9_goAlong_45 : decode cX9_goAlong 45 = .ok (.iadd, 1) := by decide +kernel
theorem dX9_goAlong_46 : decode cX9_goAlong 46 = .ok (.putfield 124, 3) := by decide +kernel
theorem dX9_goAlong_49 : decode cX9_goAlong 49 = .ok (.goto (-19), 3) := by decide +kernel
theorem dX9_goAlong_52 : decode cX9_goAlong 52 = .ok (.aload_n 0, 1) := by decide +kernel
theorem dX9_goAlong_53 : decode cX9_goAlong 53 = .ok (.invokevirtual 134, 3) := by decide +kernel
theorem dX9_goAlong_56 : decode cX9_goAlong 56 = .ok (.iconst (-1), 1) := by decide +kernel
theorem dX9_goAlong_57 : decode cX9_goAlong 57 = .ok (.if_icmp .ne 25, 3) := by decide +kernel
theorem dX9_goAlong_60 : decode cX9_goAlong 60 = .ok (.iload_n 2, 1) := by decide +kernel
theorem dX9_goAlong_61 : decode cX9_goAlong 61 = .ok (.ifCond .gt 12, 3) := by decide +kernel
theorem dX9_goAlong_64 : decode cX9_goAlong 64 = .ok (.aload_n 0, 1) := by decide +kernel
theorem dX9_goAlong_65 : decode cX9_goAlong 65 = .ok (.getfield 35, 3) := by decide +kernel
theorem dX9_goAlong_68 : decode cX9_goAlong 68 = .ok (.iconst 0, 1) := by decide +kernel
theorem dX9_goAlong_69 : decode cX9_goAlong 69 = .ok (.iaload, 1) := by decide +kernel
theorem dX9_goAlong_70 : decode cX9_goAlong 70 = .ok (.ifCond .ne 10, 3) := by decide +kernel
theorem dX9_goAlong_73 : decode cX9_goAlong 73 = .ok (.aload_n 0, 1) := by decide +kernel
theorem dX9_goAlong_74 : decode cX9_goAlong 74 = .ok (.getfield 121, 3) := by decide +kernel
theorem dX9_goAlong_77 : decode cX9_goAlong 77 = .ok (.goto 4, 3) := by decide +kernel
theorem dX9_goAlong_80 : decode cX9_goAlong 80 = .ok (.iconst (-1), 1) := by decide +kernel
theorem dX9_goAlong_81 : decode cX9_goAlong 81 = .ok (.ireturn, 1) := by decide +kernel
theorem dX9_goAlong_82 : decode cX9_goAlong 82 = .ok (.aload_n 0, 1) := by decide +kernel
theorem dX9_goAlong_83 : decode cX9_goAlong 83 = .ok (.invokevirtual 134, 3) := by decide +kernel
theorem dX9_goAlong_86 : decode cX9_goAlong 86 = .ok (.bipush 41, 2) := by decide +kernel
theorem dX9_goAlong_88 : decode cX9_goAlong 88 = .ok (.if_icmp .ne 74, 3) := by decide +kernel
theorem dX9_goAlong_91 : decode cX9_goAlong 91 = .ok (.iload_n 2, 1) := by decide +kernel
theorem dX9_goAlong_92 : decode cX9_goAlong 92 = .ok (.ifCond .eq 12, 3) := by decide +kernel
theorem dX9_goAlong_95 : decode cX9_goAlong 95 = .ok (.aload_n 0, 1) := by decide +kernel
theorem dX9_goAlong_96 : decode cX9_goAlong 96 = .ok (.getfield 35, 3) := by decide +kernel
theorem dX9_goAlong_99 : decode cX9_goAlong 99 = .ok (.iload_n 1, 1) := by decide +kernel
theorem dX9_goAlong_100 : decode cX9_goAlong 100 = .ok (.iaload, 1) := by decide +kernel
theorem dX9_goAlong_101 : decode cX9_goAlong 101 = .ok (.ifCond .ne 8, 3) := by decide +kernel
theorem dX9_goAlong_104 : decode cX9_goAlong 104 = .ok (.aload_n 0, 1) := by decide +kernel
theorem dX9_goAlong_105 : decode cX9_goAlong 105 = .ok (.getfield 124, 3) := by decide +kernel
theorem dX9_goAlong_108 : decode cX9_goAlong 108 = .ok (.ireturn, 1) := by decide +kernel
theorem dX9_goAlong_109 : decode cX9_goAlong 109 = .ok (.aload_n 0, 1) := by decide +kernel
theorem dX9_goAlong_110 : decode cX9_goAlong 110 = .ok (.dup, 1) := by decide +kernel
theorem dX9_goAlong_111 : decode cX9_goAlong 111 = .ok (.getfield 124, 3) := by decide +kernel
theorem dX9_goAlong_114 : decode cX9_goAlong 114 = .ok (.iconst 1, 1) := by decide +kernel
theorem dX9_goAlong_115 : decode cX9_goAlong 115 = .ok (.iadd, 1) := by decide +kernel
theorem dX9_goAlong_116 : decode cX9_goAlong 116 = .ok (.putfield 124, 3) := by decide +kernel
theorem dX9_goAlong_119 : decode cX9_goAlong 119 = .ok (.iinc 2 (-1), 3) := by decide +kernel
theorem dX9_goAlong_122 : decode cX9_goAlong 122 = .ok (.iload_n 1, 1) := by decide +kernel
theorem dX9_goAlong_123 : decode cX9_goAlong 123 = .ok (.istore_n 3, 1) := by decide +kernel
theorem dX9_goAlong_124 : decode cX9_goAlong 124 = .ok (.aload_n 0, 1) := by decide +kernel
theorem dX9_goAlong_125 : decode cX9_goAlong 125 = .ok (.getfield 32, 3) := by decide +kernel
theorem dX9_goAlong_128 : decode cX9_goAlong 128 = .ok (.iload_n 3, 1) := by decide +kernel
theorem dX9_goAlong_129 : decode cX9_goAlong 129 = .ok (.iaload, 1) := by decide +kernel
theorem dX9_goAlong_130 : decode cX9_goAlong 130 = .ok (.istore_n 1, 1) := by decide +kernel
theorem dX9_goAlong_131 : decode cX9_goAlong 131 = .ok (.aload_n 0, 1) := by decide +kernel
theorem dX9_goAlong_132 : decode cX9_goAlong 132 = .ok (.iload_n 3, 1) := by decide +kernel
theorem dX9_goAlong_133 : decode cX9_goAlong 133 = .ok (.bipush 64, 2) := by decide +kernel
theorem dX9_goAlong_135 : decode cX9_goAlong 135 = .ok (.iconst 1, 1) := by decide +kernel
theorem dX9_goAlong_136 : decode cX9_goAlong 136 = .ok (.bipush 9, 2) := by decide +kernel
theorem dX9_goAlong_138 : decode cX9_goAlong 138 = .ok (.invokevirtual 150, 3) := by decide +kernel
theorem dX9_goAlong_141 : decode cX9_goAlong 141 = .ok (.ifCond .eq 15, 3) := by decide +kernel
theorem dX9_goAlong_144 : decode cX9_goAlong 144 = .ok (.aload_n 0, 1) := by decide +kernel
theorem dX9_goAlong_145 : decode cX9_goAlong 145 = .ok (.iload_n 3, 1) := by decide +kernel
theorem dX9_goAlong_146 : decode cX9_goAlong 146 = .ok (.invokevirtual 170, 3) := by decide +kernel
theorem dX9_goAlong_149 : decode cX9_goAlong 149 = .ok (.ifCond .eq 7, 3) := by decide +kernel
theorem dX9_goAlong_152 : decode cX9_goAlong 152 = .ok (.iconst 1, 1) := by decide +kernel
theorem dX9_goAlong_153 : decode cX9_goAlong 153 = .ok (.goto 4, 3) := by decide +kernel
theorem dX9_goAlong_156 : decode cX9_goAlong 156 = .ok (.iconst 0, 1) := by decide +kernel
theorem dX9_goAlong_157 : decode cX9_goAlong 157 = .ok (.istore 4, 2) := by decide +kernel
theorem dX9_goAlong_159 : decode cX9_goAlong 159 = .ok (.goto (-136), 3) := by decide +kernel
theorem dX9_goAlong_162 : decode cX9_goAlong 162 = .ok (.aload_n 0, 1) := by decide +kernel
theorem dX9_goAlong_163 : decode cX9_goAlong 163 = .ok (.invokevirtual 134, 3) := by decide +kernel
theorem dX9_goAlong_166 : decode cX9_goAlong 166 = .ok (.bipush 43, 2) := by decide +kernel
theorem dX9_goAlong_168 : decode cX9_goAlong 168 = .ok (.if_icmp .eq 76, 3) := by decide +kernel
theorem dX9_goAlong_171 : decode cX9_goAlong 171 = .ok (.aload_n 0, 1) := by decide +kernel
theorem dX9_goAlong_172 : decode cX9_goAlong 172 = .ok (.invokevirtual 134, 3) := by decide +kernel
theorem dX9_goAlong_175 : decode cX9_goAlong 175 = .ok (.bipush 45, 2) := by decide +kernel
theorem dX9_goAlong_177 : decode cX9_goAlong 177 = .ok (.if_icmp .eq 67, 3) := by decide +kernel
theorem dX9_goAlong_180 : decode cX9_goAlong 180 = .ok (.aload_n 0, 1) := by decide +kernel
theorem dX9_goAlong_181 : decode cX9_goAlong 181 = .ok (.invokevirtual 134, 3) := by decide +kernel
theorem dX9_goAlong_184 : decode cX9_goAlong 184 = .ok (.bipush 34, 2) := by decide +kernel
theorem dX9_goAlong_186 : decode cX9_goAlong 186 = .ok (.if_icmp .eq 58, 3) := by decide +kernel
theorem dX9_goAlong_189 : decode cX9_goAlong 189 = .ok (.aload_n 0, 1) := by decide +kernel
theorem dX9_goAlong_190 : decode cX9_goAlong 190 = .ok (.invokevirtual 134, 3) := by decide +kernel
theorem dX9_goAlong_193 : decode cX9_goAlong 193 = .ok (.bipush 91, 2) := by decide +kernel
theorem dX9_goAlong_195 : decode cX9_goAlong 195 = .ok (.if_icmp .eq 49, 3) := by decide +kernel
theorem dX9_goAlong_198 : decode cX9_goAlong 198 = .ok (.aload_n 0, 1) := by decide +kernel
theorem dX9_goAlong_199 : decode cX9_goAlong 199 = .ok (.invokevirtual 134, 3) := by decide +kernel
theorem dX9_goAlong_202 : decode cX9_goAlong 202 = .ok (.bipush 123, 2) := by decide +kernel
theorem dX9_goAlong_204 : decode cX9_goAlong 204 = .ok (.if_icmp .eq 40, 3) := by decide +kernel
theorem dX9_goAlong_207 : decode cX9_goAlong 207 = .ok (.aload_n 0, 1) := by decide +kernel
theorem dX9_goAlong_208 : decode cX9_goAlong 208 = .ok (.invokevirtual 134, 3) := by decide +kernel
theorem dX9_goAlong_211 : decode cX9_goAlong 211 = .ok (.bipush 40, 2) := by decide +kernel
theorem dX9_goAlong_213 : decode cX9_goAlong 213 = .ok (.if_icmp .eq 31, 3) := by decide +kernel
theorem dX9_goAlong_216 : decode cX9_goAlong 216 = .ok (.aload_n 0, 1) := by decide +kernel
theorem dX9_goAlong_217 : decode cX9_goAlong 217 = .ok (.invokevirtual 134, 3) := by decide +kernel
theorem dX9_goAlong_220 : decode cX9_goAlong 220 = .ok (.bipush 63, 2) := by decide +kernel
theorem dX9_goAlong_222 : decode cX9_goAlong 222 = .ok (.if_icmp .eq 22, 3) := by decide +kernel
theorem dX9_goAlong_225 : decode cX9_goAlong 225 = .ok (.aload_n 0, 1) := by decide +kernel
theorem dX9_goAlong_226 : decode cX9_goAlong 226 = .ok (.invokevirtual 134, 3) := by decide +kernel
theorem dX9_goAlong_229 : decode cX9_goAlong 229 = .ok (.bipush 42, 2) := by decide +kernel
theorem dX9_goAlong_231 : decode cX9_goAlong 231 = .ok (.if_icmp .eq 13, 3) := by decide +kernel
theorem dX9_goAlong_234 : decode cX9_goAlong 234 = .ok (.aload_n 0, 1) := by decide +kernel
theorem dX9_goAlong_235 : decode cX9_goAlong 235 = .ok (.invokevirtual 134, 3) := by decide +kernel
theorem dX9_goAlong_238 : decode cX9_goAlong 238 = .ok (.invokestatic 138, 3) := by decide +kernel
theorem dX9_goAlong_241 : decode cX9_goAlong 241 = .ok (.ifCond .eq 7, 3) := by decide +kernel
theorem dX9_goAlong_244 : decode cX9_goAlong 244 = .ok (.iconst 1, 1) := by decide +kernel
theorem dX9_goAlong_245 : decode cX9_goAlong 245 = .ok (.goto 4, 3) := by decide +kernel
theorem dX9_goAlong_248 : decode cX9_goAlong 248 = .ok (.iconst 0, 1) := by decide +kernel
theorem dX9_goAlong_249 : decode cX9_goAlong 249 = .ok (.istore_n 3, 1) := by decide +kernel
theorem dX9_goAlong_250 : decode cX9_goAlong 250 = .ok (.aload_n 0, 1) := by decide +kernel
theorem dX9_goAlong_251 : decode cX9_goAlong 251 = .ok (.getfield 131, 3) := by decide +kernel
theorem dX9_goAlong_254 : decode cX9_goAlong 254 = .ok (.bipush 25, 2) := by decide +kernel
theorem dX9_goAlong_256 : decode cX9_goAlong 256 = .ok (.if_icmp .eq 7, 3) := by decide +kernel
theorem dX9_goAlong_259 : decode cX9_goAlong 259 = .ok (.iload_n 3, 1) := by decide +kernel
theorem dX9_goAlong_260 : decode cX9_goAlong 260 = .ok (.ifCond .ne 8, 3) := by decide +kernel
theorem dX9_goAlong_263 : decode cX9_goAlong 263 = .ok (.aload_n 0, 1) := by decide +kernel
theorem dX9_goAlong_264 : decode cX9_goAlong 264 = .ok (.getfield 124, 3) := by decide +kernel
theorem dX9_goAlong_267 : decode cX9_goAlong 267 = .ok (.ireturn, 1) := by decide +kernel
theorem dX9_goAlong_268 : decode cX9_goAlong 268 = .ok (.aload_n 0, 1) := by decide +kernel
theorem dX9_goAlong_269 : decode cX9_goAlong 269 = .ok (.iload_n 1, 1) := by decide +kernel
theorem dX9_goAlong_270 : decode cX9_goAlong 270 = .ok (.invokevirtual 173, 3) := by decide +kernel
theorem dX9_goAlong_273 : decode cX9_goAlong 273 = .ok (.istore 4, 2) := by decide +kernel
theorem dX9_goAlong_275 : decode cX9_goAlong 275 = .ok (.aload_n 0, 1) := by decide +kernel
theorem dX9_goAlong_276 : decode cX9_goAlong 276 = .ok (.getfield 35, 3) := by decide +kernel
theorem dX9_goAlong_279 : decode cX9_goAlong 279 = .ok (.iload_n 1, 1) := by decide +kernel
theorem dX9_goAlong_280 : decode cX9_goAlong 280 = .ok (.dup2, 1) := by decide +kernel
theorem dX9_goAlong_281 : decode cX9_goAlong 281 = .ok (.iaload, 1) := by decide +kernel
theorem dX9_goAlong_282 : decode cX9_goAlong 282 = .ok (.iconst 1, 1) := by decide +kernel
theorem dX9_goAlong_283 : decode cX9_goAlong 283 = .ok (.iadd, 1) := by decide +kernel
theorem dX9_goAlong_284 : decode cX9_goAlong 284 = .ok (.iastore, 1) := by decide +kernel
theorem dX9_goAlong_285 : decode cX9_goAlong 285 = .ok (.aload_n 0, 1) := by decide +kernel
theorem dX9_goAlong_286 : decode cX9_goAlong 286 = .ok (.iload 4, 2) := by decide +kernel
theorem dX9_goAlong_288 : decode cX9_goAlong 288 = .ok (.invokevirtual 177, 3) := by decide +kernel
theorem dX9_goAlong_291 : decode cX9_goAlong 291 = .ok (.aload_n 0, 1) := by decide +kernel
theorem dX9_goAlong_292 : decode cX9_goAlong 292 = .ok (.invokevirtual 134, 3) := by decide +kernel
theorem dX9_goAlong_295 : decode cX9_goAlong 295 = .ok (.bipush 40, 2) := by decide +kernel
theorem dX9_goAlong_297 : decode cX9_goAlong 297 = .ok (.if_icmp .ne 7, 3) := by decide +kernel
theorem dX9_goAlong_300 : decode cX9_goAlong 300 = .ok (.iconst 1, 1) := by decide +kernel
theorem dX9_goAlong_301 : decode cX9_goAlong 301 = .ok (.goto 4, 3) := by decide +kernel
theorem dX9_goAlong_304 : decode cX9_goAlong 304 = .ok (.iconst 0, 1) := by decide +kernel
theorem dX9_goAlong_305 : decode cX9_goAlong 305 = .ok (.istore 5, 2) := by decide +kernel
theorem dX9_goAlong_307 : decode cX9_goAlong 307 = .ok (.aload_n 0, 1) := by decide +kernel
theorem dX9_goAlong_308 : decode cX9_goAlong 308 = .ok (.iload 4, 2) := by decide +kernel
theorem dX9_goAlong_310 : decode cX9_goAlong 310 = .ok (.iload_n 2, 1) := by decide +kernel
theorem dX9_goAlong_311 : decode cX9_goAlong 311 = .ok (.invokevirtual 181, 3) := by decide +kernel
theorem dX9_goAlong_314 : decode cX9_goAlong 314 = .ok (.istore 6, 2) := by decide +kernel
theorem dX9_goAlong_316 : decode cX9_goAlong 316 = .ok (.iload 6, 2) := by decide +kernel
theorem dX9_goAlong_318 : decode cX9_goAlong 318 = .ok (.ifCond .eq 14, 3) := by decide +kernel
theorem dX9_goAlong_321 : decode cX9_goAlong 321 = .ok (.iload 5, 2) := by decide +kernel
theorem dX9_goAlong_323 : decode cX9_goAlong 323 = .ok (.ifCond .eq 9, 3) := by decide +kernel
theorem dX9_goAlong_326 : decode cX9_goAlong 326 = .ok (.iload 4, 2) := by decide +kernel
theorem dX9_goAlong_328 : decode cX9_goAlong 328 = .ok (.istore_n 1, 1) := by decide +kernel
theorem dX9_goAlong_329 : decode cX9_goAlong 329 = .ok (.iinc 2 1, 3) := by decide +kernel
theorem dX9_goAlong_332 : decode cX9_goAlong 332 = .ok (.goto (-309), 3) := by decide +kernel
theorem dX9_goAlong_335 : decode cX9_goAlong 335 = .ok (.aload_n 0, 1) := by decide +kernel
theorem dX9_goAlong_336 : decode cX9_goAlong 336 = .ok (.getfield 124, 3) := by decide +kernel
theorem dX9_goAlong_339 : decode cX9_goAlong 339 = .ok (.ireturn, 1) := by decide +kernel
theorem dX9_become_0 : decode cX9_become 0 = .ok (.aload_n 0, 1) := by decide +kernel
theorem dX9_become_1 : decode cX9_become 1 = .ok (.aload_n 0, 1) := by decide +kernel
theorem dX9_become_2 : decode cX9_become 2 = .ok (.getfield 131, 3) := by decide +kernel
theorem dX9_become_5 : decode cX9_become 5 = .ok (.putfield 112, 3) := by decide +kernel
theorem dX9_become_8 : decode cX9_become 8 = .ok (.iconst 0, 1) := by decide +kernel
theorem dX9_become_9 : decode cX9_become 9 = .ok (.istore_n 1, 1) := by decide +kernel
theorem dX9_become_10 : decode cX9_become 10 = .ok (.iload_n 1, 1) := by decide +kernel
theorem dX9_become_11 : decode cX9_become 11 = .ok (.aload_n 0, 1) := by decide +kernel
theorem dX9_become_12 : decode cX9_become 12 = .ok (.getfield 131, 3) := by decide +kernel
theorem dX9_become_15 : decode cX9_become 15 = .ok (.if_icmp .ge 93, 3) := by decide +kernel
theorem dX9_become_18 : decode cX9_become 18 = .ok (.aload_n 0, 1) := by decide +kernel
theorem dX9_become_19 : decode cX9_become 19 = .ok (.getfield 44, 3) := by decide +kernel
theorem dX9_become_22 : decode cX9_become 22 = .ok (.iload_n 1, 1) := by decide +kernel
theorem dX9_become_23 : decode cX9_become 23 = .ok (.aload_n 0, 1) := by decide +kernel
theorem dX9_become_24 : decode cX9_become 24 = .ok (.getfield 17, 3) := by decide +kernel
theorem dX9_become_27 : decode cX9_become 27 = .ok (.iload_n 1, 1) := by decide +kernel
theorem dX9_become_28 : decode cX9_become 28 = .ok (.iaload, 1) := by decide +kernel
theorem dX9_become_29 : decode cX9_become 29 = .ok (.iastore, 1) := by decide +kernel
theorem dX9_become_30 : decode cX9_become 30 = .ok (.aload_n 0, 1) := by decide +kernel
theorem dX9_become_31 : decode cX9_become 31 = .ok (.getfield 47, 3) := by decide +kernel
theorem dX9_become_34 : decode cX9_become 34 = .ok (.iload_n 1, 1) := by decide +kernel
theorem dX9_become_35 : decode cX9_become 35 = .ok (.aload_n 0, 1) := by decide +kernel
theorem dX9_become_36 : decode cX9_become 36 = .ok (.getfield 20, 3) := by decide +kernel
theorem dX9_become_39 : decode cX9_become 39 = .ok (.iload_n 1, 1) := by decide +kernel
theorem dX9_become_40 : decode cX9_become 40 = .ok (.iaload, 1) := by decide +kernel
theorem dX9_become_41 : decode cX9_become 41 = .ok (.iastore, 1) := by decide +kernel
theorem dX9_become_42 : decode cX9_become 42 = .ok (.aload_n 0, 1) := by decide +kernel
theorem dX9_become_43 : decode cX9_become 43 = .ok (.getfield 50, 3) := by decide +kernel
theorem dX9_become_46 : decode cX9_become 46 = .ok (.iload_n 1, 1) := by decide +kernel
theorem dX9_become_47 : decode cX9_become 47 = .ok (.aload_n 0, 1) := by decide +kernel
theorem dX9_become_48 : decode cX9_become 48 = .ok (.getfield 23, 3) := by decide +kernel
theorem dX9_become_51 : decode cX9_become 51 = .ok (.iload_n 1, 1) := by decide +kernel
theorem dX9_become_52 : decode cX9_become 52 = .ok (.iaload, 1) := by decide +kernel
theorem dX9_become_53 : decode cX9_become 53 = .ok (.iastore, 1) := by decide +kernel
theorem dX9_become_54 : decode cX9_become 54 = .ok (.aload_n 0, 1) := by decide +kernel
theorem dX9_become_55 : decode cX9_become 55 = .ok (.getfield 53, 3) := by decide +kernel
theorem dX9_become_58 : decode cX9_become 58 = .ok (.iload_n 1, 1) := by decide +kernel
theorem dX9_become_59 : decode cX9_become 59 = .ok (.aload_n 0, 1) := by decide +kernel
theorem dX9_become_60 : decode cX9_become 60 = .ok (.getfield 26, 3) := by decide +kernel
theorem dX9_become_63 : decode cX9_become 63 = .ok (.iload_n 1, 1) := by decide +kernel
theorem dX9_become_64 : decode cX9_become 64 = .ok (.iaload, 1) := by decide +kernel
theorem dX9_become_65 : decode cX9_become 65 = .ok (.iastore, 1) := by decide +kernel
theorem dX9_become_66 : decode cX9_become 66 = .ok (.aload_n 0, 1) := by decide +kernel
theorem dX9_become_67 : decode cX9_become 67 = .ok (.getfield 56, 3) := by decide +kernel
theorem dX9_become_70 : decode cX9_become 70 = .ok (.iload_n 1, 1) := by decide +kernel
theorem dX9_become_71 : decode cX9_become 71 = .ok (.aload_n 0, 1) := by decide +kernel
theorem dX9_become_72 : decode cX9_become 72 = .ok (.getfield 29, 3) := by decide +kernel
theorem dX9_become_75 : decode cX9_become 75 = .ok (.iload_n 1, 1) := by decide +kernel
theorem dX9_become_76 : decode cX9_become 76 = .ok (.iaload, 1) := by decide +kernel
theorem dX9_become_77 : decode cX9_become 77 = .ok (.iastore, 1) := by decide +kernel
theorem dX9_become_78 : decode cX9_become 78 = .ok (.aload_n 0, 1) := by decide +kernel
theorem dX9_become_79 : decode cX9_become 79 = .ok (.getfield 59, 3) := by decide +kernel
theorem dX9_become_82 : decode cX9_become 82 = .ok (.iload_n 1, 1) := by decide +kernel
theorem dX9_become_83 : decode cX9_become 83 = .ok (.aload_n 0, 1) := by decide +kernel
theorem dX9_become_84 : decode cX9_become 84 = .ok (.getfield 32, 3) := by decide +kernel
theorem dX9_become_87 : decode cX9_become 87 = .ok (.iload_n 1, 1) := by decide +kernel
theorem dX9_become_88 : decode cX9_become 88 = .ok (.iaload, 1) := by decide +kernel
theorem dX9_become_89 : decode cX9_become 89 = .ok (.iastore, 1) := by decide +kernel
theorem dX9_become_90 : decode cX9_become 90 = .ok (.aload_n 0, 1) := by decide +kernel
theorem dX9_become_91 : decode cX9_become 91 = .ok (.getfield 62, 3) := by decide +kernel
theorem dX9_become_94 : decode cX9_become 94 = .ok (.iload_n 1, 1) := by decide +kernel
theorem dX9_become_95 : decode cX9_become 95 = .ok (.aload_n 0, 1) := by decide +kernel
theorem dX9_become_96 : decode cX9_become 96 = .ok (.getfield 35, 3) := by decide +kernel
theorem dX9_become_99 : decode cX9_become 99 = .ok (.iload_n 1, 1) := by decide +kernel
theorem dX9_become_100 : decode cX9_become 100 = .ok (.iaload, 1) := by decide +kernel
theorem dX9_become_101 : decode cX9_become 101 = .ok (.iastore, 1) := by decide +kernel
theorem dX9_become_102 : decode cX9_become 102 = .ok (.iinc 1 1, 3) := by decide +kernel
theorem dX9_become_105 : decode cX9_become 105 = .ok (.goto (-95), 3) := by decide +kernel
theorem dX9_become_108 : decode cX9_become 108 = .ok (.iconst 0, 1) := by decide +kernel
theorem dX9_become_109 : decode cX9_become 109 = .ok (.istore_n 1, 1) := by decide +kernel
theorem dX9_become_110 : decode cX9_become 110 = .ok (.iload_n 1, 1) := by decide +kernel
theorem dX9_become_111 : decode cX9_become 111 = .ok (.bipush 125, 2) := by decide +kernel
theorem dX9_become_113 : decode cX9_become 113 = .ok (.if_icmp .ge 21, 3) := by decide +kernel
theorem dX9_become_116 : decode cX9_become 116 = .ok (.aload_n 0, 1) := by decide +kernel
theorem dX9_become_117 : decode cX9_become 117 = .ok (.getfield 65, 3) := by decide +kernel
theorem dX9_become_120 : decode cX9_become 120 = .ok (.iload_n 1, 1) := by decide +kernel
theorem dX9_become_121 : decode cX9_become 121 = .ok (.aload_n 0, 1) := by decide +kernel
theorem dX9_become_122 : decode cX9_become 122 = .ok (.getfield 38, 3) := by decide +kernel
theorem dX9_become_125 : decode cX9_become 125 = .ok (.iload_n 1, 1) := by decide +kernel
theorem dX9_become_126 : decode cX9_become 126 = .ok (.iaload, 1) := by decide +kernel
theorem dX9_become_127 : decode cX9_become 127 = .ok (.iastore, 1) := by decide +kernel
theorem dX9_become_128 : decode cX9_become 128 = .ok (.iinc 1 1, 3) := by decide +kernel
theorem dX9_become_131 : decode cX9_become 131 = .ok (.goto (-21), 3) := by decide +kernel
theorem dX9_become_134 : decode cX9_become 134 = .ok (.iconst 0, 1) := by decide +kernel
theorem dX9_become_135 : decode cX9_become 135 = .ok (.istore_n 1, 1) := by decide +kernel
theorem dX9_become_136 : decode cX9_become 136 = .ok (.iload_n 1, 1) := by decide +kernel
theorem dX9_become_137 : decode cX9_become 137 = .ok (.sipush 1000, 3) := by decide +kernel
theorem dX9_become_140 : decode cX9_become 140 = .ok (.if_icmp .ge 21, 3) := by decide +kernel
theorem dX9_become_143 : decode cX9_become 143 = .ok (.aload_n 0, 1) := by decide +kernel
theorem dX9_become_144 : decode cX9_become 144 = .ok (.getfield 68, 3) := by decide +kernel
theorem dX9_become_147 : decode cX9_become 147 = .ok (.iload_n 1, 1) := by decide +kernel
theorem dX9_become_148 : decode cX9_become 148 = .ok (.aload_n 0, 1) := by decide +kernel
theorem dX9_become_149 : decode cX9_become 149 = .ok (.getfield 41, 3) := by decide +kernel
theorem dX9_become_152 : decode cX9_become 152 = .ok (.iload_n 1, 1) := by decide +kernel
theorem dX9_become_153 : decode cX9_become 153 = .ok (.iaload, 1) := by decide +kernel
theorem dX9_become_154 : decode cX9_become 154 = .ok (.iastore, 1) := by decide +kernel
theorem dX9_become_155 : decode cX9_become 155 = .ok (.iinc 1 1, 3) := by decide +kernel
theorem dX9_become_158 : decode cX9_become 158 = .ok (.goto (-22), 3) := by decide +kernel
theorem dX9_become_161 : decode cX9_become 161 = .ok (.return_, 1) := by decide +kernel
theorem dX9_read_0 : decode cX9_read 0 = .ok (.aload_n 0, 1) := by decide +kernel
theorem dX9_read_1 : decode cX9_read 1 = .ok (.iconst 0, 1) := by decide +kernel
theorem dX9_read_2 : decode cX9_read 2 = .ok (.putfield 1, 3) := by decide +kernel
theorem dX9_read_5 : decode cX9_read 5 = .ok (.aload_n 0, 1) := by decide +kernel
theorem dX9_read_6 : decode cX9_read 6 = .ok (.invokevirtual 184, 3) := by decide +kernel
theorem dX9_read_9 : decode cX9_read 9 = .ok (.istore_n 1, 1) := by decide +kernel
theorem dX9_read_10 : decode cX9_read 10 = .ok (.aload_n 0, 1) := by decide +kernel
theorem dX9_read_11 : decode cX9_read 11 = .ok (.iconst 0, 1) := by decide +kernel
theorem dX9_read_12 : decode cX9_read 12 = .ok (.putfield 121, 3) := by decide +kernel
theorem dX9_read_15 : decode cX9_read 15 = .ok (.iload_n 1, 1) := by decide +kernel
theorem dX9_read_16 : decode cX9_read 16 = .ok (.iconst (-1), 1) := by decide +kernel
theorem dX9_read_17 : decode cX9_read 17 = .ok (.if_icmp .eq 9, 3) := by decide +kernel
theorem dX9_read_20 : decode cX9_read 20 = .ok (.sipush (-200), 3) := by decide +kernel
theorem dX9_read_23 : decode cX9_read 23 = .ok (.iload_n 1, 1) := by decide +kernel
theorem dX9_read_24 : decode cX9_read 24 = .ok (.isub, 1) := by decide +kernel
theorem dX9_read_25 : decode cX9_read 25 = .ok (.ireturn, 1) := by decide +kernel
theorem dX9_read_26 : decode cX9_read 26 = .ok (.aload_n 0, 1) := by decide +kernel
theorem dX9_read_27 : decode cX9_read 27 = .ok (.invokevirtual 187, 3) := by decide +kernel
theorem dX9_read_30 : decode cX9_read 30 = .ok (.aload_n 0, 1) := by decide +kernel
theorem dX9_read_31 : decode cX9_read 31 = .ok (.getfield 112, 3) := by decide +kernel
theorem dX9_read_34 : decode cX9_read 34 = .ok (.ireturn, 1) := by decide +kernel
theorem dX9_lenient_0 : decode cX9_lenient 0 = .ok (.aload_n 0, 1) := by decide +kernel
theorem dX9_lenient_1 : decode cX9_lenient 1 = .ok (.iconst 0, 1) := by decide +kernel
theorem dX9_lenient_2 : decode cX9_lenient 2 = .ok (.putfield 1, 3) := by decide +kernel
theorem dX9_lenient_5 : decode cX9_lenient 5 = .ok (.aload_n 0, 1) := by decide +kernel
theorem dX9_lenient_6 : decode cX9_lenient 6 = .ok (.iconst 0, 1) := by decide +kernel
theorem dX9_lenient_7 : decode cX9_lenient 7 = .ok (.putfield 190, 3) := by decide +kernel
theorem dX9_lenient_10 : decode cX9_lenient 10 = .ok (.iconst 0, 1) := by decide +kernel
theorem dX9_lenient_11 : decode cX9_lenient 11 = .ok (.istore_n 1, 1) := by decide +kernel
theorem dX9_lenient_12 : decode cX9_lenient 12 = .ok (.iload_n 1, 1) := by decide +kernel
theorem dX9_lenient_13 : decode cX9_lenient 13 = .ok (.aload_n 0, 1) := by decide +kernel
theorem dX9_lenient_14 : decode cX9_lenient 14 = .ok (.getfield 121, 3) := by decide +kernel
theorem dX9_lenient_17 : decode cX9_lenient 17 = .ok (.if_icmp .ge 16, 3) := by decide +kernel
theorem dX9_lenient_20 : decode cX9_lenient 20 = .ok (.aload_n 0, 1) := by decide +kernel
theorem dX9_lenient_21 : decode cX9_lenient 21 = .ok (.getfield 71, 3) := by decide +kernel
theorem dX9_lenient_24 : decode cX9_lenient 24 = .ok (.iload_n 1, 1) := by decide +kernel
theorem dX9_lenient_25 : decode cX9_lenient 25 = .ok (.iload_n 1, 1) := by decide +kernel
theorem dX9_lenient_26 : decode cX9_lenient 26 = .ok (.iastore, 1) := by decide +kernel
theorem dX9_lenient_27 : decode cX9_lenient 27 = .ok (.iinc 1 1, 3) := by decide +kernel
theorem dX9_lenient_30 : decode cX9_lenient 30 = .ok (.goto (-18), 3) := by decide +kernel
theorem dX9_lenient_33 : decode cX9_lenient 33 = .ok (.aload_n 0, 1) := by decide +kernel
theorem dX9_lenient_34 : decode cX9_lenient 34 = .ok (.invokevirtual 184, 3) := by decide +kernel
theorem dX9_lenient_37 : decode cX9_lenient 37 = .ok (.istore_n 1, 1) := by decide +kernel
theorem dX9_lenient_38 : decode cX9_lenient 38 = .ok (.iload_n 1, 1) := by decide +kernel
theorem dX9_lenient_39 : decode cX9_lenient 39 = .ok (.iconst (-1), 1) := by decide +kernel
theorem dX9_lenient_40 : decode cX9_lenient 40 = .ok (.if_icmp .eq 116, 3) := by decide +kernel
theorem dX9_lenient_43 : decode cX9_lenient 43 = .ok (.aload_n 0, 1) := by decide +kernel
theorem dX9_lenient_44 : decode cX9_lenient 44 = .ok (.getfield 121, 3) := by decide +kernel
theorem dX9_lenient_47 : decode cX9_lenient 47 = .ok (.ifCond .le 109, 3) := by decide +kernel
theorem dX9_lenient_50 : decode cX9_lenient 50 = .ok (.iload_n 1, 1) := by decide +kernel
theorem dX9_lenient_51 : decode cX9_lenient 51 = .ok (.aload_n 0, 1) := by decide +kernel
theorem dX9_lenient_52 : decode cX9_lenient 52 = .ok (.getfield 121, 3) := by decide +kernel
theorem dX9_lenient_55 : decode cX9_lenient 55 = .ok (.if_icmp .ge 7, 3) := by decide +kernel
theorem dX9_lenient_58 : decode cX9_lenient 58 = .ok (.iload_n 1, 1) := by decide +kernel
theorem dX9_lenient_59 : decode cX9_lenient 59 = .ok (.goto 9, 3) := by decide +kernel
theorem dX9_lenient_62 : decode cX9_lenient 62 = .ok (.aload_n 0, 1) := by decide +kernel
theorem dX9_lenient_63 : decode cX9_lenient 63 = .ok (.getfield 121, 3) := by decide +kernel
theorem dX9_lenient_66 : decode cX9_lenient 66 = .ok (.iconst 1, 1) := by decide +kernel
theorem dX9_lenient_67 : decode cX9_lenient 67 = .ok (.isub, 1) := by decide +kernel
theorem dX9_lenient_68 : decode cX9_lenient 68 = .ok (.istore_n 2, 1) := by decide +kernel
theorem dX9_lenient_69 : decode cX9_lenient 69 = .ok (.aload_n 0, 1) := by decide +kernel
theorem dX9_lenient_70 : decode cX9_lenient 70 = .ok (.getfield 74, 3) := by decide +kernel
theorem dX9_lenient_73 : decode cX9_lenient 73 = .ok (.aload_n 0, 1) := by decide +kernel
theorem dX9_lenient_74 : decode cX9_lenient 74 = .ok (.getfield 190, 3) := by decide +kernel
theorem dX9_lenient_77 : decode cX9_lenient 77 = .ok (.aload_n 0, 1) := by decide +kernel
theorem dX9_lenient_78 : decode cX9_lenient 78 = .ok (.getfield 71, 3) := by decide +kernel
theorem dX9_lenient_81 : decode cX9_lenient 81 = .ok (.iload_n 2, 1) := by decide +kernel
theorem dX9_lenient_82 : decode cX9_lenient 82 = .ok (.iaload, 1) := by decide +kernel
theorem dX9_lenient_83 : decode cX9_lenient 83 = .ok (.iastore, 1) := by decide +kernel
theorem dX9_lenient_84 : decode cX9_lenient 84 = .ok (.aload_n 0, 1) := by decide +kernel
theorem dX9_lenient_85 : decode cX9_lenient 85 = .ok (.dup, 1) := by decide +kernel
theorem dX9_lenient_86 : decode cX9_lenient 86 = .ok (.getfield 190, 3) := by decide +kernel
theorem dX9_lenient_89 : decode cX9_lenient 89 = .ok (.iconst 1, 1) := by decide +kernel
theorem dX9_lenient_90 : decode cX9_lenient 90 = .ok (.iadd, 1) := by decide +kernel
theorem dX9_lenient_91 : decode cX9_lenient 91 = .ok (.putfield 190, 3) := by decide +kernel
theorem dX9_lenient_94 : decode cX9_lenient 94 = .ok (.aload_n 0, 1) := by decide +kernel
theorem dX9_lenient_95 : decode cX9_lenient 95 = .ok (.dup, 1) := by decide +kernel
theorem dX9_lenient_96 : decode cX9_lenient 96 = .ok (.getfield 121, 3) := by decide +kernel
theorem dX9_lenient_99 : decode cX9_lenient 99 = .ok (.iconst 1, 1) := by decide +kernel
theorem dX9_lenient_100 : decode cX9_lenient 100 = .ok (.isub, 1) := by decide +kernel
theorem dX9_lenient_101 : decode cX9_lenient 101 = .ok (.putfield 121, 3) := by decide +kernel
theorem dX9_lenient_104 : decode cX9_lenient 104 = .ok (.iload_n 2, 1) := by decide +kernel
theorem dX9_lenient_105 : decode cX9_lenient 105 = .ok (.istore_n 3, 1) := by decide +kernel
theorem dX9_lenient_106 : decode cX9_lenient 106 = .ok (.iload_n 3, 1) := by decide +kernel
theorem dX9_lenient_107 : decode cX9_lenient 107 = .ok (.aload_n 0, 1) := by decide +kernel
theorem dX9_lenient_108 : decode cX9_lenient 108 = .ok (.getfield 121, 3) := by decide +kernel
theorem dX9_lenient_111 : decode cX9_lenient 111 = .ok (.if_icmp .ge 37, 3) := by decide +kernel
theorem dX9_lenient_114 : decode cX9_lenient 114 = .ok (.aload_n 0, 1) := by decide +kernel
theorem dX9_lenient_115 : decode cX9_lenient 115 = .ok (.getfield 13, 3) := by decide +kernel
theorem dX9_lenient_118 : decode cX9_lenient 118 = .ok (.iload_n 3, 1) := by decide +kernel
theorem dX9_lenient_119 : decode cX9_lenient 119 = .ok (.aload_n 0, 1) := by decide +kernel
theorem dX9_lenient_120 : decode cX9_lenient 120 = .ok (.getfield 13, 3) := by decide +kernel
theorem dX9_lenient_123 : decode cX9_lenient 123 = .ok (.iload_n 3, 1) := by decide +kernel
theorem dX9_lenient_124 : decode cX9_lenient 124 = .ok (.iconst 1, 1) := by decide +kernel
theorem dX9_lenient_125 : decode cX9_lenient 125 = .ok (.iadd, 1) := by decide +kernel
theorem dX9_lenient_126 : decode cX9_lenient 126 = .ok (.iaload, 1) := by decide +kernel
theorem dX9_lenient_127 : decode cX9_lenient 127 = .ok (.iastore, 1) := by decide +kernel
theorem dX9_lenient_128 : decode cX9_lenient 128 = .ok (.aload_n 0, 1) := by decide +kernel
theorem dX9_lenient_129 : decode cX9_lenient 129 = .ok (.getfield 71, 3) := by decide +kernel
theorem dX9_lenient_132 : decode cX9_lenient 132 = .ok (.iload_n 3, 1) := by decide +kernel
theorem dX9_lenient_133 : decode cX9_lenient 133 = .ok (.aload_n 0, 1) := by decide +kernel
theorem dX9_lenient_134 : decode cX9_lenient 134 = .ok (.getfield 71, 3) := by decide +kernel
theorem dX9_lenient_137 : decode cX9_lenient 137 = .ok (.iload_n 3, 1) := by decide +kernel
theorem dX9_lenient_138 : decode cX9_lenient 138 = .ok (.iconst 1, 1) := by decide +kernel
theorem dX9_lenient_139 : decode cX9_lenient 139 = .ok (.iadd, 1) := by decide +kernel
theorem dX9_lenient_140 : decode cX9_lenient 140 = .ok (.iaload, 1) := by decide +kernel
theorem dX9_lenient_141 : decode cX9_lenient 141 = .ok (.iastore, 1) := by decide +kernel
theorem dX9_lenient_142 : decode cX9_lenient 142 = .ok (.iinc 3 1, 3) := by decide +kernel
theorem dX9_lenient_145 : decode cX9_lenient 145 = .ok (.goto (-39), 3) := by decide +kernel
theorem dX9_lenient_148 : decode cX9_lenient 148 = .ok (.aload_n 0, 1) := by decide +kernel
theorem dX9_lenient_149 : decode cX9_lenient 149 = .ok (.invokevirtual 184, 3) := by decide +kernel
theorem dX9_lenient_152 : decode cX9_lenient 152 = .ok (.istore_n 1, 1) := by decide +kernel
theorem dX9_lenient_153 : decode cX9_lenient 153 = .ok (.goto (-115), 3) := by decide +kernel
theorem dX9_lenient_156 : decode cX9_lenient 156 = .ok (.aload_n 0, 1) := by decide +kernel
theorem dX9_lenient_157 : decode cX9_lenient 157 = .ok (.iconst 0, 1) := by decide +kernel
theorem dX9_lenient_158 : decode cX9_lenient 158 = .ok (.putfield 121, 3) := by decide +kernel
theorem dX9_lenient_161 : decode cX9_lenient 161 = .ok (.iload_n 1, 1) := by decide +kernel
theorem dX9_lenient_162 : decode cX9_lenient 162 = .ok (.iconst (-1), 1) := by decide +kernel
theorem dX9_lenient_163 : decode cX9_lenient 163 = .ok (.if_icmp .eq 5, 3) := by decide +kernel
theorem dX9_lenient_166 : decode cX9_lenient 166 = .ok (.iconst (-1), 1) := by decide +kernel
theorem dX9_lenient_167 : decode cX9_lenient 167 = .ok (.ireturn, 1) := by decide +kernel
theorem dX9_lenient_168 : decode cX9_lenient 168 = .ok (.aload_n 0, 1) := by decide +kernel
theorem dX9_lenient_169 : decode cX9_lenient 169 = .ok (.invokevirtual 187, 3) := by decide +kernel
theorem dX9_lenient_172 : decode cX9_lenient 172 = .ok (.aload_n 0, 1) := by decide +kernel
theorem dX9_lenient_173 : decode cX9_lenient 173 = .ok (.getfield 112, 3) := by decide +kernel
theorem dX9_lenient_176 : decode cX9_lenient 176 = .ok (.ireturn, 1) := by decide +kernel
theorem dX9_dropped_0 : decode cX9_dropped 0 = .ok (.aload_n 0, 1) := by decide +kernel
theorem dX9_dropped_1 : decode cX9_dropped 1 = .ok (.iconst 0, 1) := by decide +kernel
theorem dX9_dropped_2 : decode cX9_dropped 2 = .ok (.putfield 1, 3) := by decide +kernel
theorem dX9_dropped_5 : decode cX9_dropped 5 = .ok (.iload_n 1, 1) := by decide +kernel
theorem dX9_dropped_6 : decode cX9_dropped 6 = .ok (.i2l, 1) := by decide +kernel
theorem dX9_dropped_7 : decode cX9_dropped 7 = .ok (.lconst 0, 1) := by decide +kernel
theorem dX9_dropped_8 : decode cX9_dropped 8 = .ok (.aload_n 0, 1) := by decide +kernel
theorem dX9_dropped_9 : decode cX9_dropped 9 = .ok (.getfield 190, 3) := by decide +kernel
theorem dX9_dropped_12 : decode cX9_dropped 12 = .ok (.iconst 1, 1) := by decide +kernel
theorem dX9_dropped_13 : decode cX9_dropped 13 = .ok (.isub, 1) := by decide +kernel
theorem dX9_dropped_14 : decode cX9_dropped 14 = .ok (.i2l, 1) := by decide +kernel
theorem dX9_dropped_15 : decode cX9_dropped 15 = .ok (.invokestatic 117, 3) := by decide +kernel
theorem dX9_dropped_18 : decode cX9_dropped 18 = .ok (.ifCond .eq 12, 3) := by decide +kernel
theorem dX9_dropped_21 : decode cX9_dropped 21 = .ok (.aload_n 0, 1) := by decide +kernel
theorem dX9_dropped_22 : decode cX9_dropped 22 = .ok (.getfield 74, 3) := by decide +kernel
theorem dX9_dropped_25 : decode cX9_dropped 25 = .ok (.iload_n 1, 1) := by decide +kernel
theorem dX9_dropped_26 : decode cX9_dropped 26 = .ok (.iaload, 1) := by decide +kernel
theorem dX9_dropped_27 : decode cX9_dropped 27 = .ok (.goto 4, 3) := by decide +kernel
theorem dX9_dropped_30 : decode cX9_dropped 30 = .ok (.iconst (-1), 1) := by decide +kernel
theorem dX9_dropped_31 : decode cX9_dropped 31 = .ok (.ireturn, 1) := by decide +kernel
theorem dX9_isNode_0 : decode cX9_isNode 0 = .ok (.iload_n 1, 1) := by decide +kernel
theorem dX9_isNode_1 : decode cX9_isNode 1 = .ok (.i2l, 1) := by decide +kernel
theorem dX9_isNode_2 : decode cX9_isNode 2 = .ok (.lconst 0, 1) := by decide +kernel
theorem dX9_isNode_3 : decode cX9_isNode 3 = .ok (.aload_n 0, 1) := by decide +kernel
theorem dX9_isNode_4 : decode cX9_isNode 4 = .ok (.getfield 112, 3) := by decide +kernel
theorem dX9_isNode_7 : decode cX9_isNode 7 = .ok (.iconst 1, 1) := by decide +kernel
theorem dX9_isNode_8 : decode cX9_isNode 8 = .ok (.isub, 1) := by decide +kernel
theorem dX9_isNode_9 : decode cX9_isNode 9 = .ok (.i2l, 1) := by decide +kernel
theorem dX9_isNode_10 : decode cX9_isNode 10 = .ok (.invokestatic 117, 3) := by decide +kernel
theorem dX9_isNode_13 : decode cX9_isNode 13 = .ok (.ireturn, 1) := by decide +kernel
theorem dX9_node_0 : decode cX9_node 0 = .ok (.aload_n 0, 1) := by decide +kernel
theorem dX9_node_1 : decode cX9_node 1 = .ok (.aload_n 0, 1) := by decide +kernel
theorem dX9_node_2 : decode cX9_node 2 = .ok (.iload_n 1, 1) := by decide +kernel
theorem dX9_node_3 : decode cX9_node 3 = .ok (.invokevirtual 193, 3) := by decide +kernel
theorem dX9_node_6 : decode cX9_node 6 = .ok (.ifCond .eq 7, 3) := by decide +kernel
theorem dX9_node_9 : decode cX9_node 9 = .ok (.iconst 0, 1) := by decide +kernel
theorem dX9_node_10 : decode cX9_node 10 = .ok (.goto 4, 3) := by decide +kernel
theorem dX9_node_13 : decode cX9_node 13 = .ok (.iconst 1, 1) := by decide +kernel
theorem dX9_node_14 : decode cX9_node 14 = .ok (.putfield 1, 3) := by decide +kernel
theorem dX9_node_17 : decode cX9_node 17 = .ok (.aload_n 0, 1) := by decide +kernel
theorem dX9_node_18 : decode cX9_node 18 = .ok (.getfield 1, 3) := by decide +kernel
theorem dX9_node_21 : decode cX9_node 21 = .ok (.ifCond .le 5, 3) := by decide +kernel
theorem dX9_node_24 : decode cX9_node 24 = .ok (.iconst 0, 1) := by decide +kernel
theorem dX9_node_25 : decode cX9_node 25 = .ok (.ireturn, 1) := by decide +kernel
theorem dX9_node_26 : decode cX9_node 26 = .ok (.iload_n 2, 1) := by decide +kernel
theorem dX9_node_27 : decode cX9_node 27 = .ok (.tableswitch 110 0 6 #[41, 48, 55, 62, 69, 76, 103], 41) := by decide +kernel
theorem dX9_node_68 : decode cX9_node 68 = .ok (.aload_n 0, 1) := by decide +kernel
theorem dX9_node_69 : decode cX9_node 69 = .ok (.getfield 44, 3) := by decide +kernel
theorem dX9_node_72 : decode cX9_node 72 = .ok (.iload_n 1, 1) := by decide +kernel
theorem dX9_node_73 : decode cX9_node 73 = .ok (.iaload, 1) := by decide +kernel
theorem dX9_node_74 : decode cX9_node 74 = .ok (.ireturn, 1) := by decide +kernel
theorem dX9_node_75 : decode cX9_node 75 = .ok (.aload_n 0, 1) := by decide +kernel
theorem dX9_node_76 : decode cX9_node 76 = .ok (.getfield 47, 3) := by decide +kernel
theorem dX9_node_79 : decode cX9_node 79 = .ok (.iload_n 1, 1) := by decide +kernel
theorem dX9_node_80 : decode cX9_node 80 = .ok (.iaload, 1) := by decide +kernel
theorem dX9_node_81 : decode cX9_node 81 = .ok (.ireturn, 1) := by decide +kernel
theorem dX9_node_82 : decode cX9_node 82 = .ok (.aload_n 0, 1) := by decide +kernel
theorem dX9_node_83 : decode cX9_node 83 = .ok (.getfield 50, 3) := by decide +kernel
theorem dX9_node_86 : decode cX9_node 86 = .ok (.iload_n 1, 1) := by decide +kernel
theorem dX9_node_87 : decode cX9_node 87 = .ok (.iaload, 1) := by decide +kernel
theorem dX9_node_88 : decode cX9_node 88 = .ok (.ireturn, 1) := by decide +kernel
theorem dX9_node_89 : decode cX9_node 89 = .ok (.aload_n 0, 1) := by decide +kernel
theorem dX9_node_90 : decode cX9_node 90 = .ok (.getfield 53, 3) := by decide +kernel
theorem dX9_node_93 : decode cX9_node 93 = .ok (.iload_n 1, 1) := by decide +kernel
theorem dX9_node_94 : decode cX9_node 94 = .ok (.iaload, 1) := by decide +kernel
theorem dX9_node_95 : decode cX9_node 95 = .ok (.ireturn, 1) := by decide +kernel
theorem dX9_node_96 : decode cX9_node 96 = .ok (.aload_n 0, 1) := by decide +kernel
theorem dX9_node_97 : decode cX9_node 97 = .ok (.getfield 56, 3) := by decide +kernel
theorem dX9_node_100 : decode cX9_node 100 = .ok (.iload_n 1, 1) := by decide +kernel
theorem dX9_node_101 : decode cX9_node 101 = .ok (.iaload, 1) := by decide +kernel
theorem dX9_node_102 : decode cX9_node 102 = .ok (.ireturn, 1) := by decide +kernel
theorem dX9_node_103 : decode cX9_node 103 = .ok (.aload_n 0, 1) := by decide +kernel
theorem dX9_node_104 : decode cX9_node 104 = .ok (.getfield 44, 3) := by decide +kernel
theorem dX9_node_107 : decode cX9_node 107 = .ok (.iload_n 1, 1) := by decide +kernel
theorem dX9_node_108 : decode cX9_node 108 = .ok (.iaload, 1) := by decide +kernel
theorem dX9_node_109 : decode cX9_node 109 = .ok (.ifCond .ne 14, 3) := by decide +kernel
theorem dX9_node_112 : decode cX9_node 112 = .ok (.aload_n 0, 1) := by decide +kernel
theorem dX9_node_113 : decode cX9_node 113 = .ok (.getfield 65, 3) := by decide +kernel
theorem dX9_node_116 : decode cX9_node 116 = .ok (.iconst 5, 1) := by decide +kernel
theorem dX9_node_117 : decode cX9_node 117 = .ok (.iload_n 1, 1) := by decide +kernel
theorem dX9_node_118 : decode cX9_node 118 = .ok (.imul, 1) := by decide +kernel
theorem dX9_node_119 : decode cX9_node 119 = .ok (.iaload, 1) := by decide +kernel
theorem dX9_node_120 : decode cX9_node 120 = .ok (.goto 9, 3) := by decide +kernel
theorem dX9_node_123 : decode cX9_node 123 = .ok (.aload_n 0, 1) := by decide +kernel
theorem dX9_node_124 : decode cX9_node 124 = .ok (.getfield 62, 3) := by decide +kernel
theorem dX9_node_127 : decode cX9_node 127 = .ok (.iload_n 1, 1) := by decide +kernel
theorem dX9_node_128 : decode cX9_node 128 = .ok (.iaload, 1) := by decide +kernel
theorem dX9_node_129 : decode cX9_node 129 = .ok (.ireturn, 1) := by decide +kernel
theorem dX9_node_130 : decode cX9_node 130 = .ok (.aload_n 0, 1) := by decide +kernel
theorem dX9_node_131 : decode cX9_node 131 = .ok (.getfield 59, 3) := by decide +kernel
theorem dX9_node_134 : decode cX9_node 134 = .ok (.iload_n 1, 1) := by decide +kernel
theorem dX9_node_135 : decode cX9_node 135 = .ok (.iaload, 1) := by decide +kernel
theorem dX9_node_136 : decode cX9_node 136 = .ok (.ireturn, 1) := by decide +kernel
theorem dX9_node_137 : decode cX9_node 137 = .ok (.bipush (-102), 2) := by decide +kernel
theorem dX9_node_139 : decode cX9_node 139 = .ok (.ireturn, 1) := by decide +kernel
theorem dX9_sign_0 : decode cX9_sign 0 = .ok (.aload_n 0, 1) := by decide +kernel
theorem dX9_sign_1 : decode cX9_sign 1 = .ok (.aload_n 0, 1) := by decide +kernel
theorem dX9_sign_2 : decode cX9_sign 2 = .ok (.iload_n 1, 1) := by decide +kernel
theorem dX9_sign_3 : decode cX9_sign 3 = .ok (.invokevirtual 193, 3) := by decide +kernel
theorem dX9_sign_6 : decode cX9_sign 6 = .ok (.ifCond .ne 7, 3) := by decide +kernel
theorem dX9_sign_9 : decode cX9_sign 9 = .ok (.iconst 1, 1) := by decide +kernel
theorem dX9_sign_10 : decode cX9_sign 10 = .ok (.goto 62, 3) := by decide +kernel
theorem dX9_sign_13 : decode cX9_sign 13 = .ok (.aload_n 0, 1) := by decide +kernel
theorem dX9_sign_14 : decode cX9_sign 14 = .ok (.getfield 44, 3) := by decide +kernel
theorem dX9_sign_17 : decode cX9_sign 17 = .ok (.iload_n 1, 1) := by decide +kernel
theorem dX9_sign_18 : decode cX9_sign 18 = .ok (.iaload, 1) := by decide +kernel
theorem dX9_sign_19 : decode cX9_sign 19 = .ok (.iconst 3, 1) := by decide +kernel
theorem dX9_sign_20 : decode cX9_sign 20 = .ok (.if_icmp .ne 7, 3) := by decide +kernel
theorem dX9_sign_23 : decode cX9_sign 23 = .ok (.iconst 2, 1) := by decide +kernel
theorem dX9_sign_24 : decode cX9_sign 24 = .ok (.goto 48, 3) := by decide +kernel
theorem dX9_sign_27 : decode cX9_sign 27 = .ok (.iload_n 2, 1) := by decide +kernel
theorem dX9_sign_28 : decode cX9_sign 28 = .ok (.i2l, 1) := by decide +kernel
theorem dX9_sign_29 : decode cX9_sign 29 = .ok (.lconst 0, 1) := by decide +kernel
theorem dX9_sign_30 : decode cX9_sign 30 = .ok (.aload_n 0, 1) := by decide +kernel
theorem dX9_sign_31 : decode cX9_sign 31 = .ok (.getfield 62, 3) := by decide +kernel
theorem dX9_sign_34 : decode cX9_sign 34 = .ok (.iload_n 1, 1) := by decide +kernel
theorem dX9_sign_35 : decode cX9_sign 35 = .ok (.iaload, 1) := by decide +kernel
theorem dX9_sign_36 : decode cX9_sign 36 = .ok (.iconst 1, 1) := by decide +kernel
theorem dX9_sign_37 : decode cX9_sign 37 = .ok (.isub, 1) := by decide +kernel
theorem dX9_sign_38 : decode cX9_sign 38 = .ok (.i2l, 1) := by decide +kernel
theorem dX9_sign_39 : decode cX9_sign 39 = .ok (.invokestatic 117, 3) := by decide +kernel
theorem dX9_sign_42 : decode cX9_sign 42 = .ok (.ifCond .eq 25, 3) := by decide +kernel
theorem dX9_sign_45 : decode cX9_sign 45 = .ok (.iload_n 3, 1) := by decide +kernel
theorem dX9_sign_46 : decode cX9_sign 46 = .ok (.i2l, 1) := by decide +kernel
theorem dX9_sign_47 : decode cX9_sign 47 = .ok (.lconst 0, 1) := by decide +kernel
theorem dX9_sign_48 : decode cX9_sign 48 = .ok (.aload_n 0, 1) := by decide +kernel
theorem dX9_sign_49 : decode cX9_sign 49 = .ok (.getfield 65, 3) := by decide +kernel
theorem dX9_sign_52 : decode cX9_sign 52 = .ok (.iconst 5, 1) := by decide +kernel
theorem dX9_sign_53 : decode cX9_sign 53 = .ok (.iload_n 1, 1) := by decide +kernel
theorem dX9_sign_54 : decode cX9_sign 54 = .ok (.imul, 1) := by decide +kernel
theorem dX9_sign_55 : decode cX9_sign 55 = .ok (.iload_n 2, 1) := by decide +kernel
theorem dX9_sign_56 : decode cX9_sign 56 = .ok (.iadd, 1) := by decide +kernel
theorem dX9_sign_57 : decode cX9_sign 57 = .ok (.iaload, 1) := by decide +kernel
theorem dX9_sign_58 : decode cX9_sign 58 = .ok (.iconst 1, 1) := by decide +kernel
theorem dX9_sign_59 : decode cX9_sign 59 = .ok (.isub, 1) := by decide +kernel
theorem dX9_sign_60 : decode cX9_sign 60 = .ok (.i2l, 1) := by decide +kernel
theorem dX9_sign_61 : decode cX9_sign 61 = .ok (.invokestatic 117, 3) := by decide +kernel
theorem dX9_sign_64 : decode cX9_sign 64 = .ok (.ifCond .ne 7, 3) := by decide +kernel
theorem dX9_sign_67 : decode cX9_sign 67 = .ok (.iconst 1, 1) := by decide +kernel
theorem dX9_sign_68 : decode cX9_sign 68 = .ok (.goto 4, 3) := by decide +kernel
theorem dX9_sign_71 : decode cX9_sign 71 = .ok (.iconst 0, 1) := by decide +kernel
theorem dX9_sign_72 : decode cX9_sign 72 = .ok (.putfield 1, 3) := by decide +kernel
theorem dX9_sign_75 : decode cX9_sign 75 = .ok (.aload_n 0, 1) := by decide +kernel
theorem dX9_sign_76 : decode cX9_sign 76 = .ok (.getfield 1, 3) := by decide +kernel
theorem dX9_sign_79 : decode cX9_sign 79 = .ok (.ifCond .le 7, 3) := by decide +kernel
theorem dX9_sign_82 : decode cX9_sign 82 = .ok (.iconst 0, 1) := by decide +kernel
theorem dX9_sign_83 : decode cX9_sign 83 = .ok (.goto 19, 3) := by decide +kernel
theorem dX9_sign_86 : decode cX9_sign 86 = .ok (.aload_n 0, 1) := by decide +kernel
theorem dX9_sign_87 : decode cX9_sign 87 = .ok (.getfield 68, 3) := by decide +kernel
theorem dX9_sign_90 : decode cX9_sign 90 = .ok (.bipush 40, 2) := by decide +kernel
theorem dX9_sign_92 : decode cX9_sign 92 = .ok (.iload_n 1, 1) := by decide +kernel
theorem dX9_sign_93 : decode cX9_sign 93 = .ok (.imul, 1) := by decide +kernel
theorem dX9_sign_94 : decode cX9_sign 94 = .ok (.bipush 8, 2) := by decide +kernel
theorem dX9_sign_96 : decode cX9_sign 96 = .ok (.iload_n 2, 1) := by decide +kernel
theorem dX9_sign_97 : decode cX9_sign 97 = .ok (.imul, 1) := by decide +kernel
theorem dX9_sign_98 : decode cX9_sign 98 = .ok (.iadd, 1) := by decide +kernel
theorem dX9_sign_99 : decode cX9_sign 99 = .ok (.iload_n 3, 1) := by decide +kernel
theorem dX9_sign_100 : decode cX9_sign 100 = .ok (.iadd, 1) := by decide +kernel
theorem dX9_sign_101 : decode cX9_sign 101 = .ok (.iaload, 1) := by decide +kernel
theorem dX9_sign_102 : decode cX9_sign 102 = .ok (.ireturn, 1) := by decide +kernel
theorem dX9_put_0 : decode cX9_put 0 = .ok (.aload_n 0, 1) := by decide +kernel
theorem dX9_put_1 : decode cX9_put 1 = .ok (.getfield 77, 3) := by decide +kernel
theorem dX9_put_4 : decode cX9_put 4 = .ok (.aload_n 0, 1) := by decide +kernel
theorem dX9_put_5 : decode cX9_put 5 = .ok (.getfield 80, 3) := by decide +kernel
theorem dX9_put_8 : decode cX9_put 8 = .ok (.iload_n 1, 1) := by decide +kernel
theorem dX9_put_9 : decode cX9_put 9 = .ok (.iastore, 1) := by decide +kernel
theorem dX9_put_10 : decode cX9_put 10 = .ok (.aload_n 0, 1) := by decide +kernel
theorem dX9_put_11 : decode cX9_put 11 = .ok (.dup, 1) := by decide +kernel
theorem dX9_put_12 : decode cX9_put 12 = .ok (.getfield 80, 3) := by decide +kernel
theorem dX9_put_15 : decode cX9_put 15 = .ok (.iconst 1, 1) := by decide +kernel
theorem dX9_put_16 : decode cX9_put 16 = .ok (.iadd, 1) := by decide +kernel
theorem dX9_put_17 : decode cX9_put 17 = .ok (.putfield 80, 3) := by decide +kernel
theorem dX9_put_20 : decode cX9_put 20 = .ok (.return_, 1) := by decide +kernel
theorem dX9_putWord_0 : decode cX9_putWord 0 = .ok (.iconst 0, 1) := by decide +kernel
theorem dX9_putWord_1 : decode cX9_putWord 1 = .ok (.istore_n 3, 1) := by decide +kernel
theorem dX9_putWord_2 : decode cX9_putWord 2 = .ok (.iload_n 3, 1) := by decide +kernel
theorem dX9_putWord_3 : decode cX9_putWord 3 = .ok (.aload_n 0, 1) := by decide +kernel
theorem dX9_putWord_4 : decode cX9_putWord 4 = .ok (.getfield 65, 3) := by decide +kernel
theorem dX9_putWord_7 : decode cX9_putWord 7 = .ok (.iconst 5, 1) := by decide +kernel
theorem dX9_putWord_8 : decode cX9_putWord 8 = .ok (.iload_n 1, 1) := by decide +kernel
theorem dX9_putWord_9 : decode cX9_putWord 9 = .ok (.imul, 1) := by decide +kernel
theorem dX9_putWord_10 : decode cX9_putWord 10 = .ok (.iload_n 2, 1) := by decide +kernel
theorem dX9_putWord_11 : decode cX9_putWord 11 = .ok (.iadd, 1) := by decide +kernel
theorem dX9_putWord_12 : decode cX9_putWord 12 = .ok (.iaload, 1) := by decide +kernel
theorem dX9_putWord_13 : decode cX9_putWord 13 = .ok (.if_icmp .ge 29, 3) := by decide +kernel
theorem dX9_putWord_16 : decode cX9_putWord 16 = .ok (.aload_n 0, 1) := by decide +kernel
theorem dX9_putWord_17 : decode cX9_putWord 17 = .ok (.aload_n 0, 1) := by decide +kernel
theorem dX9_putWord_18 : decode cX9_putWord 18 = .ok (.getfield 68, 3) := by decide +kernel
theorem dX9_putWord_21 : decode cX9_putWord 21 = .ok (.bipush 40, 2) := by decide +kernel
theorem dX9_putWord_23 : decode cX9_putWord 23 = .ok (.iload_n 1, 1) := by decide +kernel
theorem dX9_putWord_24 : decode cX9_putWord 24 = .ok (.imul, 1) := by decide +kernel
theorem dX9_putWord_25 : decode cX9_putWord 25 = .ok (.bipush 8, 2) := by decide +kernel
theorem dX9_putWord_27 : decode cX9_putWord 27 = .ok (.iload_n 2, 1) := by decide +kernel
theorem dX9_putWord_28 : decode cX9_putWord 28 = .ok (.imul, 1) := by decide +kernel
theorem dX9_putWord_29 : decode cX9_putWord 29 = .ok (.iadd, 1) := by decide +kernel
theorem dX9_putWord_30 : decode cX9_putWord 30 = .ok (.iload_n 3, 1) := by decide +kernel
theorem dX9_putWord_31 : decode cX9_putWord 31 = .ok (.iadd, 1) := by decide +kernel
theorem dX9_putWord_32 : decode cX9_putWord 32 = .ok (.iaload, 1) := by decide +kernel
theorem dX9_putWord_33 : decode cX9_putWord 33 = .ok (.invokevirtual 196, 3) := by decide +kernel
theorem dX9_putWord_36 : decode cX9_putWord 36 = .ok (.iinc 3 1, 3) := by decide +kernel
theorem dX9_putWord_39 : decode cX9_putWord 39 = .ok (.goto (-37), 3) := by decide +kernel
theorem dX9_putWord_42 : decode cX9_putWord 42 = .ok (.return_, 1) := by decide +kernel
theorem dX9_putBoost_0 : decode cX9_putBoost 0 = .ok (.aload_n 0, 1) := by decide +kernel
theorem dX9_putBoost_1 : decode cX9_putBoost 1 = .ok (.getfield 50, 3) := by decide +kernel
theorem dX9_putBoost_4 : decode cX9_putBoost 4 = .ok (.iload_n 1, 1) := by decide +kernel
theorem dX9_putBoost_5 : decode cX9_putBoost 5 = .ok (.iaload, 1) := by decide +kernel
theorem dX9_putBoost_6 : decode cX9_putBoost 6 = .ok (.iconst 1, 1) := by decide +kernel
theorem dX9_putBoost_7 : decode cX9_putBoost 7 = .ok (.if_icmp .eq 52, 3) := by decide +kernel
theorem dX9_putBoost_10 : decode cX9_putBoost 10 = .ok (.aload_n 0, 1) := by decide +kernel
theorem dX9_putBoost_11 : decode cX9_putBoost 11 = .ok (.bipush 94, 2) := by decide +kernel
theorem dX9_putBoost_13 : decode cX9_putBoost 13 = .ok (.invokevirtual 196, 3) := by decide +kernel
theorem dX9_putBoost_16 : decode cX9_putBoost 16 = .ok (.aload_n 0, 1) := by decide +kernel
theorem dX9_putBoost_17 : decode cX9_putBoost 17 = .ok (.getfield 50, 3) := by decide +kernel
theorem dX9_putBoost_20 : decode cX9_putBoost 20 = .ok (.iload_n 1, 1) := by decide +kernel
theorem dX9_putBoost_21 : decode cX9_putBoost 21 = .ok (.iaload, 1) := by decide +kernel
theorem dX9_putBoost_22 : decode cX9_putBoost 22 = .ok (.bipush 9, 2) := by decide +kernel
theorem dX9_putBoost_24 : decode cX9_putBoost 24 = .ok (.if_icmp .le 19, 3) := by decide +kernel
theorem dX9_putBoost_27 : decode cX9_putBoost 27 = .ok (.aload_n 0, 1) := by decide +kernel
theorem dX9_putBoost_28 : decode cX9_putBoost 28 = .ok (.bipush 48, 2) := by decide +kernel
theorem dX9_putBoost_30 : decode cX9_putBoost 30 = .ok (.aload_n 0, 1) := by decide +kernel
theorem dX9_putBoost_31 : decode cX9_putBoost 31 = .ok (.getfield 50, 3) := by decide +kernel
theorem dX9_putBoost_34 : decode cX9_putBoost 34 = .ok (.iload_n 1, 1) := by decide +kernel
theorem dX9_putBoost_35 : decode cX9_putBoost 35 = .ok (.iaload, 1) := by decide +kernel
theorem dX9_putBoost_36 : decode cX9_putBoost 36 = .ok (.bipush 10, 2) := by decide +kernel
theorem dX9_putBoost_38 : decode cX9_putBoost 38 = .ok (.idiv, 1) := by decide +kernel
theorem dX9_putBoost_39 : decode cX9_putBoost 39 = .ok (.iadd, 1) := by decide +kernel
theorem dX9_putBoost_40 : decode cX9_putBoost 40 = .ok (.invokevirtual 196, 3) := by decide +kernel
theorem dX9_putBoost_43 : decode cX9_putBoost 43 = .ok (.aload_n 0, 1) := by decide +kernel
theorem dX9_putBoost_44 : decode cX9_putBoost 44 = .ok (.bipush 48, 2) := by decide +kernel
theorem dX9_putBoost_46 : decode cX9_putBoost 46 = .ok (.aload_n 0, 1) := by decide +kernel
theorem dX9_putBoost_47 : decode cX9_putBoost 47 = .ok (.getfield 50, 3) := by decide +kernel
theorem dX9_putBoost_50 : decode cX9_putBoost 50 = .ok (.iload_n 1, 1) := by decide +kernel
theorem dX9_putBoost_51 : decode cX9_putBoost 51 = .ok (.iaload, 1) := by decide +kernel
theorem dX9_putBoost_52 : decode cX9_putBoost 52 = .ok (.bipush 10, 2) := by decide +kernel
theorem dX9_putBoost_54 : decode cX9_putBoost 54 = .ok (.irem, 1) := by decide +kernel
theorem dX9_putBoost_55 : decode cX9_putBoost 55 = .ok (.iadd, 1) := by decide +kernel
theorem dX9_putBoost_56 : decode cX9_putBoost 56 = .ok (.invokevirtual 196, 3) := by decide +kernel
theorem dX9_putBoost_59 : decode cX9_putBoost 59 = .ok (.return_, 1) := by decide +kernel
theorem dX9_putCore_0 : decode cX9_putCore 0 = .ok (.aload_n 0, 1) := by decide +kernel
theorem dX9_putCore_1 : decode cX9_putCore 1 = .ok (.getfield 44, 3) := by decide +kernel
theorem dX9_putCore_4 : decode cX9_putCore 4 = .ok (.iload_n 1, 1) := by decide +kernel
theorem dX9_putCore_5 : decode cX9_putCore 5 = .ok (.iaload, 1) := by decide +kernel
theorem dX9_putCore_6 : decode cX9_putCore 6 = .ok (.ifCond .ne 12, 3) := by decide +kernel
theorem dX9_putCore_9 : decode cX9_putCore 9 = .ok (.aload_n 0, 1) := by decide +kernel
theorem dX9_putCore_10 : decode cX9_putCore 10 = .ok (.iload_n 1, 1) := by decide +kernel
theorem dX9_putCore_11 : decode cX9_putCore 11 = .ok (.iconst 0, 1) := by decide +kernel
theorem dX9_putCore_12 : decode cX9_putCore 12 = .ok (.invokevirtual 199, 3) := by decide +kernel
theorem dX9_putCore_15 : decode cX9_putCore 15 = .ok (.goto 127, 3) := by decide +kernel
theorem dX9_putCore_18 : decode cX9_putCore 18 = .ok (.aload_n 0, 1) := by decide +kernel
theorem dX9_putCore_19 : decode cX9_putCore 19 = .ok (.getfield 44, 3) := by decide +kernel
theorem dX9_putCore_22 : decode cX9_putCore 22 = .ok (.iload_n 1, 1) := by decide +kernel
theorem dX9_putCore_23 : decode cX9_putCore 23 = .ok (.iaload, 1) := by decide +kernel
theorem dX9_putCore_24 : decode cX9_putCore 24 = .ok (.iconst 1, 1) := by decide +kernel
theorem dX9_putCore_25 : decode cX9_putCore 25 = .ok (.if_icmp .ne 51, 3) := by decide +kernel
theorem dX9_putCore_28 : decode cX9_putCore 28 = .ok (.iconst 0, 1) := by decide +kernel
theorem dX9_putCore_29 : decode cX9_putCore 29 = .ok (.istore_n 2, 1) := by decide +kernel
theorem dX9_putCore_30 : decode cX9_putCore 30 = .ok (.iload_n 2, 1) := by decide +kernel
theorem dX9_putCore_31 : decode cX9_putCore 31 = .ok (.aload_n 0, 1) := by decide +kernel
theorem dX9_putCore_32 : decode cX9_putCore 32 = .ok (.getfield 62, 3) := by decide +kernel
theorem dX9_putCore_35 : decode cX9_putCore 35 = .ok (.iload_n 1, 1) := by decide +kernel
theorem dX9_putCore_36 : decode cX9_putCore 36 = .ok (.iaload, 1) := by decide +kernel
theorem dX9_putCore_37 : decode cX9_putCore 37 = .ok (.if_icmp .ge 30, 3) := by decide +kernel
theorem dX9_putCore_40 : decode cX9_putCore 40 = .ok (.aload_n 0, 1) := by decide +kernel
theorem dX9_putCore_41 : decode cX9_putCore 41 = .ok (.iload_n 2, 1) := by decide +kernel
theorem dX9_putCore_42 : decode cX9_putCore 42 = .ok (.ifCond .ne 8, 3) := by decide +kernel
theorem dX9_putCore_45 : decode cX9_putCore 45 = .ok (.bipush 34, 2) := by decide +kernel
theorem dX9_putCore_47 : decode cX9_putCore 47 = .ok (.goto 5, 3) := by decide +kernel
theorem dX9_putCore_50 : decode cX9_putCore 50 = .ok (.bipush 32, 2) := by decide +kernel
theorem dX9_putCore_52 : decode cX9_putCore 52 = .ok (.invokevirtual 196, 3) := by decide +kernel
theorem dX9_putCore_55 : decode cX9_putCore 55 = .ok (.aload_n 0, 1) := by decide +kernel
theorem dX9_putCore_56 : decode cX9_putCore 56 = .ok (.iload_n 1, 1) := by decide +kernel
theorem dX9_putCore_57 : decode cX9_putCore 57 = .ok (.iload_n 2, 1) := by decide +kernel
theorem dX9_putCore_58 : decode cX9_putCore 58 = .ok (.invokevirtual 199, 3) := by decide +kernel
theorem dX9_putCore_61 : decode cX9_putCore 61 = .ok (.iinc 2 1, 3) := by decide +kernel
theorem dX9_putCore_64 : decode cX9_putCore 64 = .ok (.goto (-34), 3) := by decide +kernel
theorem dX9_putCore_67 : decode cX9_putCore 67 = .ok (.aload_n 0, 1) := by decide +kernel
theorem dX9_putCore_68 : decode cX9_putCore 68 = .ok (.bipush 34, 2) := by decide +kernel
theorem dX9_putCore_70 : decode cX9_putCore 70 = .ok (.invokevirtual 196, 3) := by decide +kernel
theorem dX9_putCore_73 : decode cX9_putCore 73 = .ok (.goto 69, 3) := by decide +kernel
theorem dX9_putCore_76 : decode cX9_putCore 76 = .ok (.aload_n 0, 1) := by decide +kernel
theorem dX9_putCore_77 : decode cX9_putCore 77 = .ok (.aload_n 0, 1) := by decide +kernel
theorem dX9_putCore_78 : decode cX9_putCore 78 = .ok (.getfield 56, 3) := by decide +kernel
theorem dX9_putCore_81 : decode cX9_putCore 81 = .ok (.iload_n 1, 1) := by decide +kernel
theorem dX9_putCore_82 : decode cX9_putCore 82 = .ok (.iaload, 1) := by decide +kernel
theorem dX9_putCore_83 : decode cX9_putCore 83 = .ok (.iconst 1, 1) := by decide +kernel
theorem dX9_putCore_84 : decode cX9_putCore 84 = .ok (.if_icmp .ne 8, 3) := by decide +kernel
theorem dX9_putCore_87 : decode cX9_putCore 87 = .ok (.bipush 123, 2) := by decide +kernel
theorem dX9_putCore_89 : decode cX9_putCore 89 = .ok (.goto 5, 3) := by decide +kernel
theorem dX9_putCore_92 : decode cX9_putCore 92 = .ok (.bipush 91, 2) := by decide +kernel
theorem dX9_putCore_94 : decode cX9_putCore 94 = .ok (.invokevirtual 196, 3) := by decide +kernel
theorem dX9_putCore_97 : decode cX9_putCore 97 = .ok (.aload_n 0, 1) := by decide +kernel
theorem dX9_putCore_98 : decode cX9_putCore 98 = .ok (.iload_n 1, 1) := by decide +kernel
theorem dX9_putCore_99 : decode cX9_putCore 99 = .ok (.iconst 0, 1) := by decide +kernel
theorem dX9_putCore_100 : decode cX9_putCore 100 = .ok (.invokevirtual 199, 3) := by decide +kernel
theorem dX9_putCore_103 : decode cX9_putCore 103 = .ok (.aload_n 0, 1) := by decide +kernel
theorem dX9_putCore_104 : decode cX9_putCore 104 = .ok (.bipush 46, 2) := by decide +kernel
theorem dX9_putCore_106 : decode cX9_putCore 106 = .ok (.invokevirtual 196, 3) := by decide +kernel
theorem dX9_putCore_109 : decode cX9_putCore 109 = .ok (.aload_n 0, 1) := by decide +kernel
theorem dX9_putCore_110 : decode cX9_putCore 110 = .ok (.bipush 46, 2) := by decide +kernel
theorem dX9_putCore_112 : decode cX9_putCore 112 = .ok (.invokevirtual 196, 3) := by decide +kernel
theorem dX9_putCore_115 : decode cX9_putCore 115 = .ok (.aload_n 0, 1) := by decide +kernel
theorem dX9_putCore_116 : decode cX9_putCore 116 = .ok (.iload_n 1, 1) := by decide +kernel
theorem dX9_putCore_117 : decode cX9_putCore 117 = .ok (.iconst 1, 1) := by decide +kernel
theorem dX9_putCore_118 : decode cX9_putCore 118 = .ok (.invokevirtual 199, 3) := by decide +kernel
theorem dX9_putCore_121 : decode cX9_putCore 121 = .ok (.aload_n 0, 1) := by decide +kernel
theorem dX9_putCore_122 : decode cX9_putCore 122 = .ok (.aload_n 0, 1) := by decide +kernel
theorem dX9_putCore_123 : decode cX9_putCore 123 = .ok (.getfield 56, 3) := by decide +kernel
theorem dX9_putCore_126 : decode cX9_putCore 126 = .ok (.iload_n 1, 1) := by decide +kernel
theorem dX9_putCore_127 : decode cX9_putCore 127 = .ok (.iaload, 1) := by decide +kernel
theorem dX9_putCore_128 : decode cX9_putCore 128 = .ok (.iconst 1, 1) := by decide +kernel
theorem dX9_putCore_129 : decode cX9_putCore 129 = .ok (.if_icmp .ne 8, 3) := by decide +kernel
theorem dX9_putCore_132 : decode cX9_putCore 132 = .ok (.bipush 125, 2) := by decide +kernel
theorem dX9_putCore_134 : decode cX9_putCore 134 = .ok (.goto 5, 3) := by decide +kernel
theorem dX9_putCore_137 : decode cX9_putCore 137 = .ok (.bipush 93, 2) := by decide +kernel
theorem dX9_putCore_139 : decode cX9_putCore 139 = .ok (.invokevirtual 196, 3) := by decide +kernel
theorem dX9_putCore_142 : decode cX9_putCore 142 = .ok (.aload_n 0, 1) := by decide +kernel
theorem dX9_putCore_143 : decode cX9_putCore 143 = .ok (.getfield 44, 3) := by decide +kernel
theorem dX9_putCore_146 : decode cX9_putCore 146 = .ok (.iload_n 1, 1) := by decide +kernel
theorem dX9_putCore_147 : decode cX9_putCore 147 = .ok (.iaload, 1) := by decide +kernel
theorem dX9_putCore_148 : decode cX9_putCore 148 = .ok (.iconst 2, 1) := by decide +kernel
theorem dX9_putCore_149 : decode cX9_putCore 149 = .ok (.if_icmp .eq 31, 3) := by decide +kernel
theorem dX9_putCore_152 : decode cX9_putCore 152 = .ok (.aload_n 0, 1) := by decide +kernel
theorem dX9_putCore_153 : decode cX9_putCore 153 = .ok (.getfield 56, 3) := by decide +kernel
theorem dX9_putCore_156 : decode cX9_putCore 156 = .ok (.iload_n 1, 1) := by decide +kernel
theorem dX9_putCore_157 : decode cX9_putCore 157 = .ok (.iaload, 1) := by decide +kernel
theorem dX9_putCore_158 : decode cX9_putCore 158 = .ok (.ifCond .eq 22, 3) := by decide +kernel
theorem dX9_putCore_161 : decode cX9_putCore 161 = .ok (.aload_n 0, 1) := by decide +kernel
theorem dX9_putCore_162 : decode cX9_putCore 162 = .ok (.bipush 126, 2) := by decide +kernel
theorem dX9_putCore_164 : decode cX9_putCore 164 = .ok (.invokevirtual 196, 3) := by decide +kernel
theorem dX9_putCore_167 : decode cX9_putCore 167 = .ok (.aload_n 0, 1) := by decide +kernel
theorem dX9_putCore_168 : decode cX9_putCore 168 = .ok (.bipush 48, 2) := by decide +kernel
theorem dX9_putCore_170 : decode cX9_putCore 170 = .ok (.aload_n 0, 1) := by decide +kernel
theorem dX9_putCore_171 : decode cX9_putCore 171 = .ok (.getfield 56, 3) := by decide +kernel
theorem dX9_putCore_174 : decode cX9_putCore 174 = .ok (.iload_n 1, 1) := by decide +kernel
theorem dX9_putCore_175 : decode cX9_putCore 175 = .ok (.iaload, 1) := by decide +kernel
theorem dX9_putCore_176 : decode cX9_putCore 176 = .ok (.iadd, 1) := by decide +kernel
theorem dX9_putCore_177 : decode cX9_putCore 177 = .ok (.invokevirtual 196, 3) := by decide +kernel
theorem dX9_putCore_180 : decode cX9_putCore 180 = .ok (.aload_n 0, 1) := by decide +kernel
theorem dX9_putCore_181 : decode cX9_putCore 181 = .ok (.iload_n 1, 1) := by decide +kernel
theorem dX9_putCore_182 : decode cX9_putCore 182 = .ok (.invokevirtual 203, 3) := by decide +kernel
theorem dX9_putCore_185 : decode cX9_putCore 185 = .ok (.return_, 1) := by decide +kernel
theorem dX9_closes_0 : decode cX9_closes 0 = .ok (.aload_n 0, 1) := by decide +kernel
theorem dX9_closes_1 : decode cX9_closes 1 = .ok (.bipush 41, 2) := by decide +kernel
theorem dX9_closes_3 : decode cX9_closes 3 = .ok (.invokevirtual 196, 3) := by decide +kernel
theorem dX9_closes_6 : decode cX9_closes 6 = .ok (.aload_n 0, 1) := by decide +kernel
theorem dX9_closes_7 : decode cX9_closes 7 = .ok (.getfield 56, 3) := by decide +kernel
theorem dX9_closes_10 : decode cX9_closes 10 = .ok (.iload_n 1, 1) := by decide +kernel
theorem dX9_closes_11 : decode cX9_closes 11 = .ok (.iaload, 1) := by decide +kernel
theorem dX9_closes_12 : decode cX9_closes 12 = .ok (.iconst (-1), 1) := by decide +kernel
theorem dX9_closes_13 : decode cX9_closes 13 = .ok (.if_icmp .eq 22, 3) := by decide +kernel
theorem dX9_closes_16 : decode cX9_closes 16 = .ok (.aload_n 0, 1) := by decide +kernel
theorem dX9_closes_17 : decode cX9_closes 17 = .ok (.bipush 64, 2) := by decide +kernel
theorem dX9_closes_19 : decode cX9_closes 19 = .ok (.invokevirtual 196, 3) := by decide +kernel
theorem dX9_closes_22 : decode cX9_closes 22 = .ok (.aload_n 0, 1) := by decide +kernel
theorem dX9_closes_23 : decode cX9_closes 23 = .ok (.bipush 48, 2) := by decide +kernel
theorem dX9_closes_25 : decode cX9_closes 25 = .ok (.aload_n 0, 1) := by decide +kernel
theorem dX9_closes_26 : decode cX9_closes 26 = .ok (.getfield 56, 3) := by decide +kernel
theorem dX9_closes_29 : decode cX9_closes 29 = .ok (.iload_n 1, 1) := by decide +kernel
theorem dX9_closes_30 : decode cX9_closes 30 = .ok (.iaload, 1) := by decide +kernel
theorem dX9_closes_31 : decode cX9_closes 31 = .ok (.iadd, 1) := by decide +kernel
theorem dX9_closes_32 : decode cX9_closes 32 = .ok (.invokevirtual 196, 3) := by decide +kernel
theorem dX9_closes_35 : decode cX9_closes 35 = .ok (.aload_n 0, 1) := by decide +kernel
theorem dX9_closes_36 : decode cX9_closes 36 = .ok (.iload_n 1, 1) := by decide +kernel
theorem dX9_closes_37 : decode cX9_closes 37 = .ok (.invokevirtual 203, 3) := by decide +kernel
theorem dX9_closes_40 : decode cX9_closes 40 = .ok (.return_, 1) := by decide +kernel
theorem dX9_print_0 : decode cX9_print 0 = .ok (.aload_n 0, 1) := by decide +kernel
theorem dX9_print_1 : decode cX9_print 1 = .ok (.iconst 0, 1) := by decide +kernel
theorem dX9_print_2 : decode cX9_print 2 = .ok (.putfield 1, 3) := by decide +kernel
theorem dX9_print_5 : decode cX9_print 5 = .ok (.aload_n 0, 1) := by decide +kernel
theorem dX9_print_6 : decode cX9_print 6 = .ok (.getfield 112, 3) := by decide +kernel
theorem dX9_print_9 : decode cX9_print 9 = .ok (.ifCond .ne 6, 3) := by decide +kernel
theorem dX9_print_12 : decode cX9_print 12 = .ok (.bipush (-104), 2) := by decide +kernel
theorem dX9_print_14 : decode cX9_print 14 = .ok (.ireturn, 1) := by decide +kernel
theorem dX9_print_15 : decode cX9_print 15 = .ok (.aload_n 0, 1) := by decide +kernel
theorem dX9_print_16 : decode cX9_print 16 = .ok (.iconst 0, 1) := by decide +kernel
theorem dX9_print_17 : decode cX9_print 17 = .ok (.putfield 80, 3) := by decide +kernel
theorem dX9_print_20 : decode cX9_print 20 = .ok (.iconst 0, 1) := by decide +kernel
theorem dX9_print_21 : decode cX9_print 21 = .ok (.istore_n 1, 1) := by decide +kernel
theorem dX9_print_22 : decode cX9_print 22 = .ok (.iconst 1, 1) := by decide +kernel
theorem dX9_print_23 : decode cX9_print 23 = .ok (.istore_n 2, 1) := by decide +kernel
theorem dX9_print_24 : decode cX9_print 24 = .ok (.iconst 1, 1) := by decide +kernel
theorem dX9_print_25 : decode cX9_print 25 = .ok (.istore_n 3, 1) := by decide +kernel
theorem dX9_print_26 : decode cX9_print 26 = .ok (.iload_n 3, 1) := by decide +kernel
theorem dX9_print_27 : decode cX9_print 27 = .ok (.aload_n 0, 1) := by decide +kernel
theorem dX9_print_28 : decode cX9_print 28 = .ok (.getfield 112, 3) := by decide +kernel
theorem dX9_print_31 : decode cX9_print 31 = .ok (.if_icmp .ge 141, 3) := by decide +kernel
theorem dX9_print_34 : decode cX9_print 34 = .ok (.aload_n 0, 1) := by decide +kernel
theorem dX9_print_35 : decode cX9_print 35 = .ok (.getfield 59, 3) := by decide +kernel
theorem dX9_print_38 : decode cX9_print 38 = .ok (.iload_n 3, 1) := by decide +kernel
theorem dX9_print_39 : decode cX9_print 39 = .ok (.iaload, 1) := by decide +kernel
theorem dX9_print_40 : decode cX9_print 40 = .ok (.iload_n 1, 1) := by decide +kernel
theorem dX9_print_41 : decode cX9_print 41 = .ok (.if_icmp .eq 20, 3) := by decide +kernel
theorem dX9_print_44 : decode cX9_print 44 = .ok (.aload_n 0, 1) := by decide +kernel
theorem dX9_print_45 : decode cX9_print 45 = .ok (.iload_n 1, 1) := by decide +kernel
theorem dX9_print_46 : decode cX9_print 46 = .ok (.invokevirtual 206, 3) := by decide +kernel
theorem dX9_print_49 : decode cX9_print 49 = .ok (.aload_n 0, 1) := by decide +kernel
theorem dX9_print_50 : decode cX9_print 50 = .ok (.getfield 59, 3) := by decide +kernel
theorem dX9_print_53 : decode cX9_print 53 = .ok (.iload_n 1, 1) := by decide +kernel
theorem dX9_print_54 : decode cX9_print 54 = .ok (.iaload, 1) := by decide +kernel
theorem dX9_print_55 : decode cX9_print 55 = .ok (.istore_n 1, 1) := by decide +kernel
theorem dX9_print_56 : decode cX9_print 56 = .ok (.iconst 0, 1) := by decide +kernel
theorem dX9_print_57 : decode cX9_print 57 = .ok (.istore_n 2, 1) := by decide +kernel
theorem dX9_print_58 : decode cX9_print 58 = .ok (.goto (-24), 3) := by decide +kernel
theorem dX9_print_61 : decode cX9_print 61 = .ok (.iload_n 2, 1) := by decide +kernel
theorem dX9_print_62 : decode cX9_print 62 = .ok (.ifCond .ne 9, 3) := by decide +kernel
theorem dX9_print_65 : decode cX9_print 65 = .ok (.aload_n 0, 1) := by decide +kernel
theorem dX9_print_66 : decode cX9_print 66 = .ok (.bipush 32, 2) := by decide +kernel
theorem dX9_print_68 : decode cX9_print 68 = .ok (.invokevirtual 196, 3) := by decide +kernel
theorem dX9_print_71 : decode cX9_print 71 = .ok (.aload_n 0, 1) := by decide +kernel
theorem dX9_print_72 : decode cX9_print 72 = .ok (.getfield 47, 3) := by decide +kernel
theorem dX9_print_75 : decode cX9_print 75 = .ok (.iload_n 3, 1) := by decide +kernel
theorem dX9_print_76 : decode cX9_print 76 = .ok (.iaload, 1) := by decide +kernel
theorem dX9_print_77 : decode cX9_print 77 = .ok (.ifCond .eq 24, 3) := by decide +kernel
theorem dX9_print_80 : decode cX9_print 80 = .ok (.aload_n 0, 1) := by decide +kernel
theorem dX9_print_81 : decode cX9_print 81 = .ok (.aload_n 0, 1) := by decide +kernel
theorem dX9_print_82 : decode cX9_print 82 = .ok (.getfield 47, 3) := by decide +kernel
theorem dX9_print_85 : decode cX9_print 85 = .ok (.iload_n 3, 1) := by decide +kernel
theorem dX9_print_86 : decode cX9_print 86 = .ok (.iaload, 1) := by decide +kernel
theorem dX9_print_87 : decode cX9_print 87 = .ok (.iconst 1, 1) := by decide +kernel
theorem dX9_print_88 : decode cX9_print 88 = .ok (.if_icmp .ne 8, 3) := by decide +kernel
theorem dX9_print_91 : decode cX9_print 91 = .ok (.bipush 43, 2) := by decide +kernel
theorem dX9_print_93 : decode cX9_print 93 = .ok (.goto 5, 3) := by decide +kernel
theorem dX9_print_96 : decode cX9_print 96 = .ok (.bipush 45, 2) := by decide +kernel
theorem dX9_print_98 : decode cX9_print 98 = .ok (.invokevirtual 196, 3) := by decide +kernel
theorem dX9_print_101 : decode cX9_print 101 = .ok (.aload_n 0, 1) := by decide +kernel
theorem dX9_print_102 : decode cX9_print 102 = .ok (.getfield 53, 3) := by decide +kernel
theorem dX9_print_105 : decode cX9_print 105 = .ok (.iload_n 3, 1) := by decide +kernel
theorem dX9_print_106 : decode cX9_print 106 = .ok (.iaload, 1) := by decide +kernel
theorem dX9_print_107 : decode cX9_print 107 = .ok (.iconst (-1), 1) := by decide +kernel
theorem dX9_print_108 : decode cX9_print 108 = .ok (.if_icmp .eq 22, 3) := by decide +kernel
theorem dX9_print_111 : decode cX9_print 111 = .ok (.aload_n 0, 1) := by decide +kernel
theorem dX9_print_112 : decode cX9_print 112 = .ok (.bipush 97, 2) := by decide +kernel
theorem dX9_print_114 : decode cX9_print 114 = .ok (.aload_n 0, 1) := by decide +kernel
theorem dX9_print_115 : decode cX9_print 115 = .ok (.getfield 53, 3) := by decide +kernel
theorem dX9_print_118 : decode cX9_print 118 = .ok (.iload_n 3, 1) := by decide +kernel
theorem dX9_print_119 : decode cX9_print 119 = .ok (.iaload, 1) := by decide +kernel
theorem dX9_print_120 : decode cX9_print 120 = .ok (.iadd, 1) := by decide +kernel
theorem dX9_print_121 : decode cX9_print 121 = .ok (.invokevirtual 196, 3) := by decide +kernel
theorem dX9_print_124 : decode cX9_print 124 = .ok (.aload_n 0, 1) := by decide +kernel
theorem dX9_print_125 : decode cX9_print 125 = .ok (.bipush 58, 2) := by decide +kernel
theorem dX9_print_127 : decode cX9_print 127 = .ok (.invokevirtual 196, 3) := by decide +kernel
theorem dX9_print_130 : decode cX9_print 130 = .ok (.aload_n 0, 1) := by decide +kernel
theorem dX9_print_131 : decode cX9_print 131 = .ok (.getfield 44, 3) := by decide +kernel
theorem dX9_print_134 : decode cX9_print 134 = .ok (.iload_n 3, 1) := by decide +kernel
theorem dX9_print_135 : decode cX9_print 135 = .ok (.iaload, 1) := by decide +kernel
theorem dX9_print_136 : decode cX9_print 136 = .ok (.iconst 3, 1) := by decide +kernel
theorem dX9_print_137 : decode cX9_print 137 = .ok (.if_icmp .ne 7, 3) := by decide +kernel
theorem dX9_print_140 : decode cX9_print 140 = .ok (.iconst 1, 1) := by decide +kernel
theorem dX9_print_141 : decode cX9_print 141 = .ok (.goto 4, 3) := by decide +kernel
theorem dX9_print_144 : decode cX9_print 144 = .ok (.iconst 0, 1) := by decide +kernel
theorem dX9_print_145 : decode cX9_print 145 = .ok (.istore_n 2, 1) := by decide +kernel
theorem dX9_print_146 : decode cX9_print 146 = .ok (.iload_n 2, 1) := by decide +kernel
theorem dX9_print_147 : decode cX9_print 147 = .ok (.ifCond .eq 14, 3) := by decide +kernel
theorem dX9_print_150 : decode cX9_print 150 = .ok (.aload_n 0, 1) := by decide +kernel
theorem dX9_print_151 : decode cX9_print 151 = .ok (.bipush 40, 2) := by decide +kernel
theorem dX9_print_153 : decode cX9_print 153 = .ok (.invokevirtual 196, 3) := by decide +kernel
theorem dX9_print_156 : decode cX9_print 156 = .ok (.iload_n 3, 1) := by decide +kernel
theorem dX9_print_157 : decode cX9_print 157 = .ok (.istore_n 1, 1) := by decide +kernel
theorem dX9_print_158 : decode cX9_print 158 = .ok (.goto 8, 3) := by decide +kernel
theorem dX9_print_161 : decode cX9_print 161 = .ok (.aload_n 0, 1) := by decide +kernel
theorem dX9_print_162 : decode cX9_print 162 = .ok (.iload_n 3, 1) := by decide +kernel
theorem dX9_print_163 : decode cX9_print 163 = .ok (.invokevirtual 209, 3) := by decide +kernel
theorem dX9_print_166 : decode cX9_print 166 = .ok (.iinc 3 1, 3) := by decide +kernel
theorem dX9_print_169 : decode cX9_print 169 = .ok (.goto (-143), 3) := by decide +kernel
theorem dX9_print_172 : decode cX9_print 172 = .ok (.iload_n 1, 1) := by decide +kernel
theorem dX9_print_173 : decode cX9_print 173 = .ok (.ifCond .eq 18, 3) := by decide +kernel
theorem dX9_print_176 : decode cX9_print 176 = .ok (.aload_n 0, 1) := by decide +kernel
theorem dX9_print_177 : decode cX9_print 177 = .ok (.iload_n 1, 1) := by decide +kernel
theorem dX9_print_178 : decode cX9_print 178 = .ok (.invokevirtual 206, 3) := by decide +kernel
theorem dX9_print_181 : decode cX9_print 181 = .ok (.aload_n 0, 1) := by decide +kernel
theorem dX9_print_182 : decode cX9_print 182 = .ok (.getfield 59, 3) := by decide +kernel
theorem dX9_print_185 : decode cX9_print 185 = .ok (.iload_n 1, 1) := by decide +kernel
theorem dX9_print_186 : decode cX9_print 186 = .ok (.iaload, 1) := by decide +kernel
theorem dX9_print_187 : decode cX9_print 187 = .ok (.istore_n 1, 1) := by decide +kernel
theorem dX9_print_188 : decode cX9_print 188 = .ok (.goto (-16), 3) := by decide +kernel
theorem dX9_print_191 : decode cX9_print 191 = .ok (.aload_n 0, 1) := by decide +kernel
theorem dX9_print_192 : decode cX9_print 192 = .ok (.getfield 80, 3) := by decide +kernel
theorem dX9_print_195 : decode cX9_print 195 = .ok (.ireturn, 1) := by decide +kernel
theorem dX9_out_0 : decode cX9_out 0 = .ok (.aload_n 0, 1) := by decide +kernel
theorem dX9_out_1 : decode cX9_out 1 = .ok (.aload_n 0, 1) := by decide +kernel
theorem dX9_out_2 : decode cX9_out 2 = .ok (.getfield 80, 3) := by decide +kernel
theorem dX9_out_5 : decode cX9_out 5 = .ok (.iconst (-1), 1) := by decide +kernel
theorem dX9_out_6 : decode cX9_out 6 = .ok (.if_icmp .ne 7, 3) := by decide +kernel
theorem dX9_out_9 : decode cX9_out 9 = .ok (.iconst 1, 1) := by decide +kernel
theorem dX9_out_10 : decode cX9_out 10 = .ok (.goto 24, 3) := by decide +kernel
theorem dX9_out_13 : decode cX9_out 13 = .ok (.iload_n 1, 1) := by decide +kernel
theorem dX9_out_14 : decode cX9_out 14 = .ok (.i2l, 1) := by decide +kernel
theorem dX9_out_15 : decode cX9_out 15 = .ok (.lconst 0, 1) := by decide +kernel
theorem dX9_out_16 : decode cX9_out 16 = .ok (.aload_n 0, 1) := by decide +kernel
theorem dX9_out_17 : decode cX9_out 17 = .ok (.getfield 80, 3) := by decide +kernel
theorem dX9_out_20 : decode cX9_out 20 = .ok (.iconst 1, 1) := by decide +kernel
theorem dX9_out_21 : decode cX9_out 21 = .ok (.isub, 1) := by decide +kernel
theorem dX9_out_22 : decode cX9_out 22 = .ok (.i2l, 1) := by decide +kernel
theorem dX9_out_23 : decode cX9_out 23 = .ok (.invokestatic 117, 3) := by decide +kernel
theorem dX9_out_26 : decode cX9_out 26 = .ok (.ifCond .eq 7, 3) := by decide +kernel
theorem dX9_out_29 : decode cX9_out 29 = .ok (.iconst 0, 1) := by decide +kernel
theorem dX9_out_30 : decode cX9_out 30 = .ok (.goto 4, 3) := by decide +kernel
theorem dX9_out_33 : decode cX9_out 33 = .ok (.iconst 2, 1) := by decide +kernel
theorem dX9_out_34 : decode cX9_out 34 = .ok (.putfield 1, 3) := by decide +kernel
theorem dX9_out_37 : decode cX9_out 37 = .ok (.aload_n 0, 1) := by decide +kernel
theorem dX9_out_38 : decode cX9_out 38 = .ok (.getfield 1, 3) := by decide +kernel
theorem dX9_out_41 : decode cX9_out 41 = .ok (.ifCond .le 7, 3) := by decide +kernel
theorem dX9_out_44 : decode cX9_out 44 = .ok (.iconst 0, 1) := by decide +kernel
theorem dX9_out_45 : decode cX9_out 45 = .ok (.goto 9, 3) := by decide +kernel
theorem dX9_out_48 : decode cX9_out 48 = .ok (.aload_n 0, 1) := by decide +kernel
theorem dX9_out_49 : decode cX9_out 49 = .ok (.getfield 77, 3) := by decide +kernel
theorem dX9_out_52 : decode cX9_out 52 = .ok (.iload_n 1, 1) := by decide +kernel
theorem dX9_out_53 : decode cX9_out 53 = .ok (.iaload, 1) := by decide +kernel
theorem dX9_out_54 : decode cX9_out 54 = .ok (.ireturn, 1) := by decide +kernel
theorem dX9_isDocument_0 : decode cX9_isDocument 0 = .ok (.iload_n 0, 1) := by decide +kernel
theorem dX9_isDocument_1 : decode cX9_isDocument 1 = .ok (.i2l, 1) := by decide +kernel
theorem dX9_isDocument_2 : decode cX9_isDocument 2 = .ok (.lconst 0, 1) := by decide +kernel
theorem dX9_isDocument_3 : decode cX9_isDocument 3 = .ok (.ldc2_w 212, 3) := by decide +kernel
theorem dX9_isDocument_6 : decode cX9_isDocument 6 = .ok (.invokestatic 117, 3) := by decide +kernel
theorem dX9_isDocument_9 : decode cX9_isDocument 9 = .ok (.ireturn, 1) := by decide +kernel
theorem dX9_word__0 : decode cX9_word_ 0 = .ok (.aload_n 0, 1) := by decide +kernel
theorem dX9_word__1 : decode cX9_word_ 1 = .ok (.iconst 0, 1) := by decide +kernel
theorem dX9_word__2 : decode cX9_word_ 2 = .ok (.putfield 1, 3) := by decide +kernel
theorem dX9_word__5 : decode cX9_word_ 5 = .ok (.iload_n 1, 1) := by decide +kernel
theorem dX9_word__6 : decode cX9_word_ 6 = .ok (.invokestatic 214, 3) := by decide +kernel
theorem dX9_word__9 : decode cX9_word_ 9 = .ok (.ifCond .eq 15, 3) := by decide +kernel
theorem dX9_word__12 : decode cX9_word_ 12 = .ok (.iload_n 2, 1) := by decide +kernel
theorem dX9_word__13 : decode cX9_word_ 13 = .ok (.i2l, 1) := by decide +kernel
theorem dX9_word__14 : decode cX9_word_ 14 = .ok (.lconst 0, 1) := by decide +kernel
theorem dX9_word__15 : decode cX9_word_ 15 = .ok (.ldc2_w 217, 3) := by decide +kernel
theorem dX9_word__18 : decode cX9_word_ 18 = .ok (.invokestatic 117, 3) := by decide +kernel
theorem dX9_word__21 : decode cX9_word_ 21 = .ok (.ifCond .ne 6, 3) := by decide +kernel
theorem dX9_word__24 : decode cX9_word_ 24 = .ok (.bipush (-101), 2) := by decide +kernel
theorem dX9_word__26 : decode cX9_word_ 26 = .ok (.ireturn, 1) := by decide +kernel
theorem dX9_word__27 : decode cX9_word_ 27 = .ok (.iconst 0, 1) := by decide +kernel
theorem dX9_word__28 : decode cX9_word_ 28 = .ok (.istore 5, 2) := by decide +kernel
theorem dX9_word__30 : decode cX9_word_ 30 = .ok (.lload_n 3, 1) := by decide +kernel
theorem dX9_word__31 : decode cX9_word_ 31 = .ok (.lconst 0, 1) := by decide +kernel
theorem dX9_word__32 : decode cX9_word_ 32 = .ok (.lcmp, 1) := by decide +kernel
theorem dX9_word__33 : decode cX9_word_ 33 = .ok (.ifCond .eq 7, 3) := by decide +kernel
theorem dX9_word__36 : decode cX9_word_ 36 = .ok (.iconst 1, 1) := by decide +kernel
theorem dX9_word__37 : decode cX9_word_ 37 = .ok (.goto 4, 3) := by decide +kernel
theorem dX9_word__40 : decode cX9_word_ 40 = .ok (.iconst 0, 1) := by decide +kernel
theorem dX9_word__41 : decode cX9_word_ 41 = .ok (.istore 6, 2) := by decide +kernel
theorem dX9_word__43 : decode cX9_word_ 43 = .ok (.bipush 7, 2) := by decide +kernel
theorem dX9_word__45 : decode cX9_word_ 45 = .ok (.istore 7, 2) := by decide +kernel
theorem dX9_word__47 : decode cX9_word_ 47 = .ok (.iload 7, 2) := by decide +kernel
theorem dX9_word__49 : decode cX9_word_ 49 = .ok (.ifCond .lt 80, 3) := by decide +kernel
theorem dX9_word__52 : decode cX9_word_ 52 = .ok (.lload_n 3, 1) := by decide +kernel
theorem dX9_word__53 : decode cX9_word_ 53 = .ok (.bipush 8, 2) := by decide +kernel
theorem dX9_word__55 : decode cX9_word_ 55 = .ok (.iload 7, 2) := by decide +kernel
theorem dX9_word__57 : decode cX9_word_ 57 = .ok (.imul, 1) := by decide +kernel
theorem dX9_word__58 : decode cX9_word_ 58 = .ok (.lshr, 1) := by decide +kernel
theorem dX9_word__59 : decode cX9_word_ 59 = .ok (.l2i, 1) := by decide +kernel
theorem dX9_word__60 : decode cX9_word_ 60 = .ok (.sipush 255, 3) := by decide +kernel
theorem dX9_word__63 : decode cX9_word_ 63 = .ok (.iand, 1) := by decide +kernel
theorem dX9_word__64 : decode cX9_word_ 64 = .ok (.istore 8, 2) := by decide +kernel
theorem dX9_word__66 : decode cX9_word_ 66 = .ok (.iload 5, 2) := by decide +kernel
theorem dX9_word__68 : decode cX9_word_ 68 = .ok (.ifCond .gt 8, 3) := by decide +kernel
theorem dX9_word__71 : decode cX9_word_ 71 = .ok (.iload 8, 2) := by decide +kernel
theorem dX9_word__73 : decode cX9_word_ 73 = .ok (.ifCond .eq 7, 3) := by decide +kernel
theorem dX9_word__76 : decode cX9_word_ 76 = .ok (.iconst 1, 1) := by decide +kernel
theorem dX9_word__77 : decode cX9_word_ 77 = .ok (.goto 4, 3) := by decide +kernel
theorem dX9_word__80 : decode cX9_word_ 80 = .ok (.iconst 0, 1) := by decide +kernel
theorem dX9_word__81 : decode cX9_word_ 81 = .ok (.istore 9, 2) := by decide +kernel
theorem dX9_word__83 : decode cX9_word_ 83 = .ok (.iload 6, 2) := by decide +kernel
theorem dX9_word__85 : decode cX9_word_ 85 = .ok (.ifCond .eq 20, 3) := by decide +kernel
theorem dX9_word__88 : decode cX9_word_ 88 = .ok (.iload 9, 2) := by decide +kernel
theorem dX9_word__90 : decode cX9_word_ 90 = .ok (.ifCond .eq 11, 3) := by decide +kernel
theorem dX9_word__93 : decode cX9_word_ 93 = .ok (.iload 8, 2) := by decide +kernel
theorem dX9_word__95 : decode cX9_word_ 95 = .ok (.invokestatic 138, 3) := by decide +kernel
theorem dX9_word__98 : decode cX9_word_ 98 = .ok (.ifCond .eq 7, 3) := by decide +kernel
theorem dX9_word__101 : decode cX9_word_ 101 = .ok (.iconst 1, 1) := by decide +kernel
theorem dX9_word__102 : decode cX9_word_ 102 = .ok (.goto 4, 3) := by decide +kernel
theorem dX9_word__105 : decode cX9_word_ 105 = .ok (.iconst 0, 1) := by decide +kernel
theorem dX9_word__106 : decode cX9_word_ 106 = .ok (.istore 6, 2) := by decide +kernel
theorem dX9_word__108 : decode cX9_word_ 108 = .ok (.iload 5, 2) := by decide +kernel
theorem dX9_word__110 : decode cX9_word_ 110 = .ok (.iload 9, 2) := by decide +kernel
theorem dX9_word__112 : decode cX9_word_ 112 = .ok (.ifCond .eq 7, 3) := by decide +kernel
theorem dX9_word__115 : decode cX9_word_ 115 = .ok (.iconst 1, 1) := by decide +kernel
theorem dX9_word__116 : decode cX9_word_ 116 = .ok (.goto 4, 3) := by decide +kernel
theorem dX9_word__119 : decode cX9_word_ 119 = .ok (.iconst 0, 1) := by decide +kernel
theorem dX9_word__120 : decode cX9_word_ 120 = .ok (.iadd, 1) := by decide +kernel
theorem dX9_word__121 : decode cX9_word_ 121 = .ok (.istore 5, 2) := by decide +kernel
theorem dX9_word__123 : decode cX9_word_ 123 = .ok (.iinc 7 (-1), 3) := by decide +kernel
theorem dX9_word__126 : decode cX9_word_ 126 = .ok (.goto (-79), 3) := by decide +kernel
theorem dX9_word__129 : decode cX9_word_ 129 = .ok (.iload 6, 2) := by decide +kernel
theorem dX9_word__131 : decode cX9_word_ 131 = .ok (.ifCond .ne 6, 3) := by decide +kernel
theorem dX9_word__134 : decode cX9_word_ 134 = .ok (.bipush (-102), 2) := by decide +kernel
theorem dX9_word__136 : decode cX9_word_ 136 = .ok (.ireturn, 1) := by decide +kernel
theorem dX9_word__137 : decode cX9_word_ 137 = .ok (.aload_n 0, 1) := by decide +kernel
theorem dX9_word__138 : decode cX9_word_ 138 = .ok (.getfield 83, 3) := by decide +kernel
theorem dX9_word__141 : decode cX9_word_ 141 = .ok (.iconst 4, 1) := by decide +kernel
theorem dX9_word__142 : decode cX9_word_ 142 = .ok (.iload_n 1, 1) := by decide +kernel
theorem dX9_word__143 : decode cX9_word_ 143 = .ok (.imul, 1) := by decide +kernel
theorem dX9_word__144 : decode cX9_word_ 144 = .ok (.iload_n 2, 1) := by decide +kernel
theorem dX9_word__145 : decode cX9_word_ 145 = .ok (.iadd, 1) := by decide +kernel
theorem dX9_word__146 : decode cX9_word_ 146 = .ok (.iaload, 1) := by decide +kernel
theorem dX9_word__147 : decode cX9_word_ 147 = .ok (.bipush 12, 2) := by decide +kernel
theorem dX9_word__149 : decode cX9_word_ 149 = .ok (.if_icmp .ne 6, 3) := by decide +kernel
theorem dX9_word__152 : decode cX9_word_ 152 = .ok (.bipush (-103), 2) := by decide +kernel
theorem dX9_word__154 : decode cX9_word_ 154 = .ok (.ireturn, 1) := by decide +kernel
theorem dX9_word__155 : decode cX9_word_ 155 = .ok (.bipush 48, 2) := by decide +kernel
theorem dX9_word__157 : decode cX9_word_ 157 = .ok (.iload_n 1, 1) := by decide +kernel
theorem dX9_word__158 : decode cX9_word_ 158 = .ok (.imul, 1) := by decide +kernel
theorem dX9_word__159 : decode cX9_word_ 159 = .ok (.bipush 12, 2) := by decide +kernel
theorem dX9_word__161 : decode cX9_word_ 161 = .ok (.iload_n 2, 1) := by decide +kernel
theorem dX9_word__162 : decode cX9_word_ 162 = .ok (.imul, 1) := by decide +kernel
theorem dX9_word__163 : decode cX9_word_ 163 = .ok (.iadd, 1) := by decide +kernel
theorem dX9_word__164 : decode cX9_word_ 164 = .ok (.aload_n 0, 1) := by decide +kernel
theorem dX9_word__165 : decode cX9_word_ 165 = .ok (.getfield 83, 3) := by decide +kernel
theorem dX9_word__168 : decode cX9_word_ 168 = .ok (.iconst 4, 1) := by decide +kernel
theorem dX9_word__169 : decode cX9_word_ 169 = .ok (.iload_n 1, 1) := by decide +kernel
theorem dX9_word__170 : decode cX9_word_ 170 = .ok (.imul, 1) := by decide +kernel
theorem dX9_word__171 : decode cX9_word_ 171 = .ok (.iload_n 2, 1) := by decide +kernel
theorem dX9_word__172 : decode cX9_word_ 172 = .ok (.iadd, 1) := by decide +kernel
theorem dX9_word__173 : decode cX9_word_ 173 = .ok (.iaload, 1) := by decide +kernel
theorem dX9_word__174 : decode cX9_word_ 174 = .ok (.iadd, 1) := by decide +kernel
theorem dX9_word__175 : decode cX9_word_ 175 = .ok (.istore 7, 2) := by decide +kernel
theorem dX9_word__177 : decode cX9_word_ 177 = .ok (.aload_n 0, 1) := by decide +kernel
theorem dX9_word__178 : decode cX9_word_ 178 = .ok (.getfield 86, 3) := by decide +kernel
theorem dX9_word__181 : decode cX9_word_ 181 = .ok (.iload 7, 2) := by decide +kernel
theorem dX9_word__183 : decode cX9_word_ 183 = .ok (.iload 5, 2) := by decide +kernel
theorem dX9_word__185 : decode cX9_word_ 185 = .ok (.iastore, 1) := by decide +kernel
theorem dX9_word__186 : decode cX9_word_ 186 = .ok (.iconst 0, 1) := by decide +kernel
theorem dX9_word__187 : decode cX9_word_ 187 = .ok (.istore 8, 2) := by decide +kernel
theorem dX9_word__189 : decode cX9_word_ 189 = .ok (.iload 8, 2) := by decide +kernel
theorem dX9_word__191 : decode cX9_word_ 191 = .ok (.iload 5, 2) := by decide +kernel
theorem dX9_word__193 : decode cX9_word_ 193 = .ok (.if_icmp .ge 39, 3) := by decide +kernel
theorem dX9_word__196 : decode cX9_word_ 196 = .ok (.aload_n 0, 1) := by decide +kernel
theorem dX9_word__197 : decode cX9_word_ 197 = .ok (.getfield 89, 3) := by decide +kernel
theorem dX9_word__200 : decode cX9_word_ 200 = .ok (.bipush 8, 2) := by decide +kernel
theorem dX9_word__202 : decode cX9_word_ 202 = .ok (.iload 7, 2) := by decide +kernel
theorem dX9_word__204 : decode cX9_word_ 204 = .ok (.imul, 1) := by decide +kernel
theorem dX9_word__205 : decode cX9_word_ 205 = .ok (.iload 8, 2) := by decide +kernel
theorem dX9_word__207 : decode cX9_word_ 207 = .ok (.iadd, 1) := by decide +kernel
theorem dX9_word__208 : decode cX9_word_ 208 = .ok (.lload_n 3, 1) := by decide +kernel
theorem dX9_word__209 : decode cX9_word_ 209 = .ok (.bipush 8, 2) := by decide +kernel
theorem dX9_word__211 : decode cX9_word_ 211 = .ok (.iload 5, 2) := by decide +kernel
theorem dX9_word__213 : decode cX9_word_ 213 = .ok (.iconst 1, 1) := by decide +kernel
theorem dX9_word__214 : decode cX9_word_ 214 = .ok (.isub, 1) := by decide +kernel
theorem dX9_word__215 : decode cX9_word_ 215 = .ok (.iload 8, 2) := by decide +kernel
theorem dX9_word__217 : decode cX9_word_ 217 = .ok (.isub, 1) := by decide +kernel
theorem dX9_word__218 : decode cX9_word_ 218 = .ok (.imul, 1) := by decide +kernel
theorem dX9_word__219 : decode cX9_word_ 219 = .ok (.lshr, 1) := by decide +kernel
theorem dX9_word__220 : decode cX9_word_ 220 = .ok (.l2i, 1) := by decide +kernel
theorem dX9_word__221 : decode cX9_word_ 221 = .ok (.sipush 255, 3) := by decide +kernel
theorem dX9_word__224 : decode cX9_word_ 224 = .ok (.iand, 1) := by decide +kernel
theorem dX9_word__225 : decode cX9_word_ 225 = .ok (.iastore, 1) := by decide +kernel
theorem dX9_word__226 : decode cX9_word_ 226 = .ok (.iinc 8 1, 3) := by decide +kernel
theorem dX9_word__229 : decode cX9_word_ 229 = .ok (.goto (-40), 3) := by decide +kernel
theorem dX9_word__232 : decode cX9_word_ 232 = .ok (.aload_n 0, 1) := by decide +kernel
theorem dX9_word__233 : decode cX9_word_ 233 = .ok (.getfield 83, 3) := by decide +kernel
theorem dX9_word__236 : decode cX9_word_ 236 = .ok (.iconst 4, 1) := by decide +kernel
theorem dX9_word__237 : decode cX9_word_ 237 = .ok (.iload_n 1, 1) := by decide +kernel
theorem dX9_word__238 : decode cX9_word_ 238 = .ok (.imul, 1) := by decide +kernel
theorem dX9_word__239 : decode cX9_word_ 239 = .ok (.iload_n 2, 1) := by decide +kernel
theorem dX9_word__240 : decode cX9_word_ 240 = .ok (.iadd, 1) := by decide +kernel
theorem dX9_word__241 : decode cX9_word_ 241 = .ok (.dup2, 1) := by decide +kernel
theorem dX9_word__242 : decode cX9_word_ 242 = .ok (.iaload, 1) := by decide +kernel
theorem dX9_word__243 : decode cX9_word_ 243 = .ok (.iconst 1, 1) := by decide +kernel
theorem dX9_word__244 : decode cX9_word_ 244 = .ok (.iadd, 1) := by decide +kernel
theorem dX9_word__245 : decode cX9_word_ 245 = .ok (.iastore, 1) := by decide +kernel
theorem dX9_word__246 : decode cX9_word_ 246 = .ok (.aload_n 0, 1) := by decide +kernel
theorem dX9_word__247 : decode cX9_word_ 247 = .ok (.getfield 83, 3) := by decide +kernel
theorem dX9_word__250 : decode cX9_word_ 250 = .ok (.iconst 4, 1) := by decide +kernel
theorem dX9_word__251 : decode cX9_word_ 251 = .ok (.iload_n 1, 1) := by decide +kernel
theorem dX9_word__252 : decode cX9_word_ 252 = .ok (.imul, 1) := by decide +kernel
theorem dX9_word__253 : decode cX9_word_ 253 = .ok (.iload_n 2, 1) := by decide +kernel
theorem dX9_word__254 : decode cX9_word_ 254 = .ok (.iadd, 1) := by decide +kernel
theorem dX9_word__255 : decode cX9_word_ 255 = .ok (.iaload, 1) := by decide +kernel
theorem dX9_word__256 : decode cX9_word_ 256 = .ok (.ireturn, 1) := by decide +kernel
theorem dX9_clear_0 : decode cX9_clear 0 = .ok (.aload_n 0, 1) := by decide +kernel
theorem dX9_clear_1 : decode cX9_clear 1 = .ok (.iconst 0, 1) := by decide +kernel
theorem dX9_clear_2 : decode cX9_clear 2 = .ok (.putfield 1, 3) := by decide +kernel
theorem dX9_clear_5 : decode cX9_clear 5 = .ok (.iload_n 1, 1) := by decide +kernel
theorem dX9_clear_6 : decode cX9_clear 6 = .ok (.invokestatic 214, 3) := by decide +kernel
theorem dX9_clear_9 : decode cX9_clear 9 = .ok (.ifCond .ne 6, 3) := by decide +kernel
theorem dX9_clear_12 : decode cX9_clear 12 = .ok (.bipush (-101), 2) := by decide +kernel
theorem dX9_clear_14 : decode cX9_clear 14 = .ok (.ireturn, 1) := by decide +kernel
theorem dX9_clear_15 : decode cX9_clear 15 = .ok (.iconst 0, 1) := by decide +kernel
theorem dX9_clear_16 : decode cX9_clear 16 = .ok (.istore_n 2, 1) := by decide +kernel
theorem dX9_clear_17 : decode cX9_clear 17 = .ok (.iconst 0, 1) := by decide +kernel
theorem dX9_clear_18 : decode cX9_clear 18 = .ok (.istore_n 3, 1) := by decide +kernel
theorem dX9_clear_19 : decode cX9_clear 19 = .ok (.iload_n 3, 1) := by decide +kernel
theorem dX9_clear_20 : decode cX9_clear 20 = .ok (.iconst 4, 1) := by decide +kernel
theorem dX9_clear_21 : decode cX9_clear 21 = .ok (.if_icmp .ge 33, 3) := by decide +kernel
theorem dX9_clear_24 : decode cX9_clear 24 = .ok (.iload_n 2, 1) := by decide +kernel
theorem dX9_clear_25 : decode cX9_clear 25 = .ok (.aload_n 0, 1) := by decide +kernel
theorem dX9_clear_26 : decode cX9_clear 26 = .ok (.getfield 83, 3) := by decide +kernel
theorem dX9_clear_29 : decode cX9_clear 29 = .ok (.iconst 4, 1) := by decide +kernel
theorem dX9_clear_30 : decode cX9_clear 30 = .ok (.iload_n 1, 1) := by decide +kernel
theorem dX9_clear_31 : decode cX9_clear 31 = .ok (.imul, 1) := by decide +kernel
theorem dX9_clear_32 : decode cX9_clear 32 = .ok (.iload_n 3, 1) := by decide +kernel
theorem dX9_clear_33 : decode cX9_clear 33 = .ok (.iadd, 1) := by decide +kernel
theorem dX9_clear_34 : decode cX9_clear 34 = .ok (.iaload, 1) := by decide +kernel
theorem dX9_clear_35 : decode cX9_clear 35 = .ok (.iadd, 1) := by decide +kernel
theorem dX9_clear_36 : decode cX9_clear 36 = .ok (.istore_n 2, 1) := by decide +kernel
theorem dX9_clear_37 : decode cX9_clear 37 = .ok (.aload_n 0, 1) := by decide +kernel
theorem dX9_clear_38 : decode cX9_clear 38 = .ok (.getfield 83, 3) := by decide +kernel
theorem dX9_clear_41 : decode cX9_clear 41 = .ok (.iconst 4, 1) := by decide +kernel
theorem dX9_clear_42 : decode cX9_clear 42 = .ok (.iload_n 1, 1) := by decide +kernel
theorem dX9_clear_43 : decode cX9_clear 43 = .ok (.imul, 1) := by decide +kernel
theorem dX9_clear_44 : decode cX9_clear 44 = .ok (.iload_n 3, 1) := by decide +kernel
theorem dX9_clear_45 : decode cX9_clear 45 = .ok (.iadd, 1) := by decide +kernel
theorem dX9_clear_46 : decode cX9_clear 46 = .ok (.iconst 0, 1) := by decide +kernel
theorem dX9_clear_47 : decode cX9_clear 47 = .ok (.iastore, 1) := by decide +kernel
theorem dX9_clear_48 : decode cX9_clear 48 = .ok (.iinc 3 1, 3) := by decide +kernel
theorem dX9_clear_51 : decode cX9_clear 51 = .ok (.goto (-32), 3) := by decide +kernel
theorem dX9_clear_54 : decode cX9_clear 54 = .ok (.iload_n 2, 1) := by decide +kernel
theorem dX9_clear_55 : decode cX9_clear 55 = .ok (.ireturn, 1) := by decide +kernel
theorem dX9_against_0 : decode cX9_against 0 = .ok (.aload_n 0, 1) := by decide +kernel
theorem dX9_against_1 : decode cX9_against 1 = .ok (.getfield 86, 3) := by decide +kernel
theorem dX9_against_4 : decode cX9_against 4 = .ok (.iload_n 1, 1) := by decide +kernel
theorem dX9_against_5 : decode cX9_against 5 = .ok (.iaload, 1) := by decide +kernel
theorem dX9_against_6 : decode cX9_against 6 = .ok (.istore 4, 2) := by decide +kernel
theorem dX9_against_8 : decode cX9_against 8 = .ok (.aload_n 0, 1) := by decide +kernel
theorem dX9_against_9 : decode cX9_against 9 = .ok (.getfield 65, 3) := by decide +kernel
theorem dX9_against_12 : decode cX9_against 12 = .ok (.iconst 5, 1) := by decide +kernel
theorem dX9_against_13 : decode cX9_against 13 = .ok (.iload_n 2, 1) := by decide +kernel
theorem dX9_against_14 : decode cX9_against 14 = .ok (.imul, 1) := by decide +kernel
theorem dX9_against_15 : decode cX9_against 15 = .ok (.iload_n 3, 1) := by decide +kernel
theorem dX9_against_16 : decode cX9_against 16 = .ok (.iadd, 1) := by decide +kernel
theorem dX9_against_17 : decode cX9_against 17 = .ok (.iaload, 1) := by decide +kernel
theorem dX9_against_18 : decode cX9_against 18 = .ok (.istore 5, 2) := by decide +kernel
theorem dX9_against_20 : decode cX9_against 20 = .ok (.iconst 0, 1) := by decide +kernel
theorem dX9_against_21 : decode cX9_against 21 = .ok (.istore 6, 2) := by decide +kernel
theorem dX9_against_23 : decode cX9_against 23 = .ok (.iload 6, 2) := by decide +kernel
theorem dX9_against_25 : decode cX9_against 25 = .ok (.iload 4, 2) := by decide +kernel
theorem dX9_against_27 : decode cX9_against 27 = .ok (.if_icmp .ge 56, 3) := by decide +kernel
theorem dX9_against_30 : decode cX9_against 30 = .ok (.iload 6, 2) := by decide +kernel
theorem dX9_against_32 : decode cX9_against 32 = .ok (.iload 5, 2) := by decide +kernel
theorem dX9_against_34 : decode cX9_against 34 = .ok (.if_icmp .ge 49, 3) := by decide +kernel
theorem dX9_against_37 : decode cX9_against 37 = .ok (.aload_n 0, 1) := by decide +kernel
theorem dX9_against_38 : decode cX9_against 38 = .ok (.getfield 89, 3) := by decide +kernel
theorem dX9_against_41 : decode cX9_against 41 = .ok (.bipush 8, 2) := by decide +kernel
theorem dX9_against_43 : decode cX9_against 43 = .ok (.iload_n 1, 1) := by decide +kernel
theorem dX9_against_44 : decode cX9_against 44 = .ok (.imul, 1) := by decide +kernel
theorem dX9_against_45 : decode cX9_against 45 = .ok (.iload 6, 2) := by decide +kernel
theorem dX9_against_47 : decode cX9_against 47 = .ok (.iadd, 1) := by decide +kernel
theorem dX9_against_48 : decode cX9_against 48 = .ok (.iaload, 1) := by decide +kernel
theorem dX9_against_49 : decode cX9_against 49 = .ok (.aload_n 0, 1) := by decide +kernel
theorem dX9_against_50 : decode cX9_against 50 = .ok (.getfield 68, 3) := by decide +kernel
theorem dX9_against_53 : decode cX9_against 53 = .ok (.bipush 40, 2) := by decide +kernel
theorem dX9_against_55 : decode cX9_against 55 = .ok (.iload_n 2, 1) := by decide +kernel
theorem dX9_against_56 : decode cX9_against 56 = .ok (.imul, 1) := by decide +kernel
theorem dX9_against_57 : decode cX9_against 57 = .ok (.bipush 8, 2) := by decide +kernel
theorem dX9_against_59 : decode cX9_against 59 = .ok (.iload_n 3, 1) := by decide +kernel
theorem dX9_against_60 : decode cX9_against 60 = .ok (.imul, 1) := by decide +kernel
theorem dX9_against_61 : decode cX9_against 61 = .ok (.iadd, 1) := by decide +kernel
theorem dX9_against_62 : decode cX9_against 62 = .ok (.iload 6, 2) := by decide +kernel
theorem dX9_against_64 : decode cX9_against 64 = .ok (.iadd, 1) := by decide +kernel
theorem dX9_against_65 : decode cX9_against 65 = .ok (.iaload, 1) := by decide +kernel
theorem dX9_against_66 : decode cX9_against 66 = .ok (.isub, 1) := by decide +kernel
theorem dX9_against_67 : decode cX9_against 67 = .ok (.istore 7, 2) := by decide +kernel
theorem dX9_against_69 : decode cX9_against 69 = .ok (.iload 7, 2) := by decide +kernel
theorem dX9_against_71 : decode cX9_against 71 = .ok (.ifCond .eq 6, 3) := by decide +kernel
theorem dX9_against_74 : decode cX9_against 74 = .ok (.iload 7, 2) := by decide +kernel
theorem dX9_against_76 : decode cX9_against 76 = .ok (.ireturn, 1) := by decide +kernel
theorem dX9_against_77 : decode cX9_against 77 = .ok (.iinc 6 1, 3) := by decide +kernel
theorem dX9_against_80 : decode cX9_against 80 = .ok (.goto (-57), 3) := by decide +kernel
theorem dX9_against_83 : decode cX9_against 83 = .ok (.iload 4, 2) := by decide +kernel
theorem dX9_against_85 : decode cX9_against 85 = .ok (.iload 5, 2) := by decide +kernel
theorem dX9_against_87 : decode cX9_against 87 = .ok (.isub, 1) := by decide +kernel
theorem dX9_against_88 : decode cX9_against 88 = .ok (.ireturn, 1) := by decide +kernel
theorem dX9_least_0 : decode cX9_least 0 = .ok (.iload_n 0, 1) := by decide +kernel
theorem dX9_least_1 : decode cX9_least 1 = .ok (.iload_n 1, 1) := by decide +kernel
theorem dX9_least_2 : decode cX9_least 2 = .ok (.if_icmp .ge 7, 3) := by decide +kernel
theorem dX9_least_5 : decode cX9_least 5 = .ok (.iload_n 0, 1) := by decide +kernel
theorem dX9_least_6 : decode cX9_least 6 = .ok (.goto 4, 3) := by decide +kernel
theorem dX9_least_9 : decode cX9_least 9 = .ok (.iload_n 1, 1) := by decide +kernel
theorem dX9_least_10 : decode cX9_least 10 = .ok (.ireturn, 1) := by decide +kernel
theorem dX9_changes_0 : decode cX9_changes 0 = .ok (.aload_n 0, 1) := by decide +kernel
theorem dX9_changes_1 : decode cX9_changes 1 = .ok (.getfield 86, 3) := by decide +kernel
theorem dX9_changes_4 : decode cX9_changes 4 = .ok (.iload_n 1, 1) := by decide +kernel
theorem dX9_changes_5 : decode cX9_changes 5 = .ok (.iaload, 1) := by decide +kernel
theorem dX9_changes_6 : decode cX9_changes 6 = .ok (.istore_n 3, 1) := by decide +kernel
theorem dX9_changes_7 : decode cX9_changes 7 = .ok (.aload_n 0, 1) := by decide +kernel
theorem dX9_changes_8 : decode cX9_changes 8 = .ok (.getfield 65, 3) := by decide +kernel
theorem dX9_changes_11 : decode cX9_changes 11 = .ok (.iconst 5, 1) := by decide +kernel
theorem dX9_changes_12 : decode cX9_changes 12 = .ok (.iload_n 2, 1) := by decide +kernel
theorem dX9_changes_13 : decode cX9_changes 13 = .ok (.imul, 1) := by decide +kernel
theorem dX9_changes_14 : decode cX9_changes 14 = .ok (.iaload, 1) := by decide +kernel
theorem dX9_changes_15 : decode cX9_changes 15 = .ok (.istore 4, 2) := by decide +kernel
theorem dX9_changes_17 : decode cX9_changes 17 = .ok (.iconst 0, 1) := by decide +kernel
theorem dX9_changes_18 : decode cX9_changes 18 = .ok (.istore 5, 2) := by decide +kernel
theorem dX9_changes_20 : decode cX9_changes 20 = .ok (.iload 5, 2) := by decide +kernel
theorem dX9_changes_22 : decode cX9_changes 22 = .ok (.iload_n 3, 1) := by decide +kernel
theorem dX9_changes_23 : decode cX9_changes 23 = .ok (.if_icmp .gt 155, 3) := by decide +kernel
theorem dX9_changes_26 : decode cX9_changes 26 = .ok (.iconst 0, 1) := by decide +kernel
theorem dX9_changes_27 : decode cX9_changes 27 = .ok (.istore 6, 2) := by decide +kernel
theorem dX9_changes_29 : decode cX9_changes 29 = .ok (.iload 6, 2) := by decide +kernel
theorem dX9_changes_31 : decode cX9_changes 31 = .ok (.iload 4, 2) := by decide +kernel
theorem dX9_changes_33 : decode cX9_changes 33 = .ok (.if_icmp .gt 139, 3) := by decide +kernel
theorem dX9_changes_36 : decode cX9_changes 36 = .ok (.iload 5, 2) := by decide +kernel
theorem dX9_changes_38 : decode cX9_changes 38 = .ok (.iload 6, 2) := by decide +kernel
theorem dX9_changes_40 : decode cX9_changes 40 = .ok (.iadd, 1) := by decide +kernel
theorem dX9_changes_41 : decode cX9_changes 41 = .ok (.istore 7, 2) := by decide +kernel
theorem dX9_changes_43 : decode cX9_changes 43 = .ok (.iload 5, 2) := by decide +kernel
theorem dX9_changes_45 : decode cX9_changes 45 = .ok (.ifCond .le 106, 3) := by decide +kernel
theorem dX9_changes_48 : decode cX9_changes 48 = .ok (.iload 6, 2) := by decide +kernel
theorem dX9_changes_50 : decode cX9_changes 50 = .ok (.ifCond .le 101, 3) := by decide +kernel
theorem dX9_changes_53 : decode cX9_changes 53 = .ok (.aload_n 0, 1) := by decide +kernel
theorem dX9_changes_54 : decode cX9_changes 54 = .ok (.getfield 89, 3) := by decide +kernel
theorem dX9_changes_57 : decode cX9_changes 57 = .ok (.bipush 8, 2) := by decide +kernel
theorem dX9_changes_59 : decode cX9_changes 59 = .ok (.iload_n 1, 1) := by decide +kernel
theorem dX9_changes_60 : decode cX9_changes 60 = .ok (.imul, 1) := by decide +kernel
theorem dX9_changes_61 : decode cX9_changes 61 = .ok (.iload 5, 2) := by decide +kernel
theorem dX9_changes_63 : decode cX9_changes 63 = .ok (.iadd, 1) := by decide +kernel
theorem dX9_changes_64 : decode cX9_changes 64 = .ok (.iconst 1, 1) := by decide +kernel
theorem dX9_changes_65 : decode cX9_changes 65 = .ok (.isub, 1) := by decide +kernel
theorem dX9_changes_66 : decode cX9_changes 66 = .ok (.iaload, 1) := by decide +kernel
theorem dX9_changes_67 : decode cX9_changes 67 = .ok (.aload_n 0, 1) := by decide +kernel
theorem dX9_changes_68 : decode cX9_changes 68 = .ok (.getfield 68, 3) := by decide +kernel
theorem dX9_changes_71 : decode cX9_changes 71 = .ok (.bipush 40, 2) := by decide +kernel
theorem dX9_changes_73 : decode cX9_changes 73 = .ok (.iload_n 2, 1) := by decide +kernel
theorem dX9_changes_74 : decode cX9_changes 74 = .ok (.imul, 1) := by decide +kernel
theorem dX9_changes_75 : decode cX9_changes 75 = .ok (.iload 6, 2) := by decide +kernel
theorem dX9_changes_77 : decode cX9_changes 77 = .ok (.iadd, 1) := by decide +kernel
theorem dX9_changes_78 : decode cX9_changes 78 = .ok (.iconst 1, 1) := by decide +kernel
theorem dX9_changes_79 : decode cX9_changes 79 = .ok (.isub, 1) := by decide +kernel
theorem dX9_changes_80 : decode cX9_changes 80 = .ok (.iaload, 1) := by decide +kernel
theorem dX9_changes_81 : decode cX9_changes 81 = .ok (.if_icmp .ne 7, 3) := by decide +kernel
theorem dX9_changes_84 : decode cX9_changes 84 = .ok (.iconst 0, 1) := by decide +kernel
theorem dX9_changes_85 : decode cX9_changes 85 = .ok (.goto 4, 3) := by decide +kernel
theorem dX9_changes_88 : decode cX9_changes 88 = .ok (.iconst 1, 1) := by decide +kernel
theorem dX9_changes_89 : decode cX9_changes 89 = .ok (.istore 8, 2) := by decide +kernel
theorem dX9_changes_91 : decode cX9_changes 91 = .ok (.aload_n 0, 1) := by decide +kernel
theorem dX9_changes_92 : decode cX9_changes 92 = .ok (.getfield 92, 3) := by decide +kernel
theorem dX9_changes_95 : decode cX9_changes 95 = .ok (.bipush 9, 2) := by decide +kernel
theorem dX9_changes_97 : decode cX9_changes 97 = .ok (.iload 5, 2) := by decide +kernel
theorem dX9_changes_99 : decode cX9_changes 99 = .ok (.iconst 1, 1) := by decide +kernel
theorem dX9_changes_100 : decode cX9_changes 100 = .ok (.isub, 1) := by decide +kernel
theorem dX9_changes_101 : decode cX9_changes 101 = .ok (.imul, 1) := by decide +kernel
theorem dX9_changes_102 : decode cX9_changes 102 = .ok (.iload 6, 2) := by decide +kernel
theorem dX9_changes_104 : decode cX9_changes 104 = .ok (.iadd, 1) := by decide +kernel
theorem dX9_changes_105 : decode cX9_changes 105 = .ok (.iconst 1, 1) := by decide +kernel
theorem dX9_changes_106 : decode cX9_changes 106 = .ok (.isub, 1) := by decide +kernel
theorem dX9_changes_107 : decode cX9_changes 107 = .ok (.iaload, 1) := by decide +kernel
theorem dX9_changes_108 : decode cX9_changes 108 = .ok (.iload 8, 2) := by decide +kernel
theorem dX9_changes_110 : decode cX9_changes 110 = .ok (.iadd, 1) := by decide +kernel
theorem dX9_changes_111 : decode cX9_changes 111 = .ok (.iconst 1, 1) := by decide +kernel
theorem dX9_changes_112 : decode cX9_changes 112 = .ok (.aload_n 0, 1) := by decide +kernel
theorem dX9_changes_113 : decode cX9_changes 113 = .ok (.getfield 92, 3) := by decide +kernel
theorem dX9_changes_116 : decode cX9_changes 116 = .ok (.bipush 9, 2) := by decide +kernel
theorem dX9_changes_118 : decode cX9_changes 118 = .ok (.iload 5, 2) := by decide +kernel
theorem dX9_changes_120 : decode cX9_changes 120 = .ok (.iconst 1, 1) := by decide +kernel
theorem dX9_changes_121 : decode cX9_changes 121 = .ok (.isub, 1) := by decide +kernel
theorem dX9_changes_122 : decode cX9_changes 122 = .ok (.imul, 1) := by decide +kernel
theorem dX9_changes_123 : decode cX9_changes 123 = .ok (.iload 6, 2) := by decide +kernel
theorem dX9_changes_125 : decode cX9_changes 125 = .ok (.iadd, 1) := by decide +kernel
theorem dX9_changes_126 : decode cX9_changes 126 = .ok (.iaload, 1) := by decide +kernel
theorem dX9_changes_127 : decode cX9_changes 127 = .ok (.aload_n 0, 1) := by decide +kernel
theorem dX9_changes_128 : decode cX9_changes 128 = .ok (.getfield 92, 3) := by decide +kernel
theorem dX9_changes_131 : decode cX9_changes 131 = .ok (.bipush 9, 2) := by decide +kernel
theorem dX9_changes_133 : decode cX9_changes 133 = .ok (.iload 5, 2) := by decide +kernel
theorem dX9_changes_135 : decode cX9_changes 135 = .ok (.imul, 1) := by decide +kernel
theorem dX9_changes_136 : decode cX9_changes 136 = .ok (.iload 6, 2) := by decide +kernel
theorem dX9_changes_138 : decode cX9_changes 138 = .ok (.iadd, 1) := by decide +kernel
theorem dX9_changes_139 : decode cX9_changes 139 = .ok (.iconst 1, 1) := by decide +kernel
theorem dX9_changes_140 : decode cX9_changes 140 = .ok (.isub, 1) := by decide +kernel
theorem dX9_changes_141 : decode cX9_changes 141 = .ok (.iaload, 1) := by decide +kernel
theorem dX9_changes_142 : decode cX9_changes 142 = .ok (.invokestatic 219, 3) := by decide +kernel
theorem dX9_changes_145 : decode cX9_changes 145 = .ok (.iadd, 1) := by decide +kernel
theorem dX9_changes_146 : decode cX9_changes 146 = .ok (.invokestatic 219, 3) := by decide +kernel
theorem dX9_changes_149 : decode cX9_changes 149 = .ok (.istore 7, 2) := by decide +kernel
theorem dX9_changes_151 : decode cX9_changes 151 = .ok (.aload_n 0, 1) := by decide +kernel
theorem dX9_changes_152 : decode cX9_changes 152 = .ok (.getfield 92, 3) := by decide +kernel
theorem dX9_changes_155 : decode cX9_changes 155 = .ok (.bipush 9, 2) := by decide +kernel
theorem dX9_changes_157 : decode cX9_changes 157 = .ok (.iload 5, 2) := by decide +kernel
theorem dX9_changes_159 : decode cX9_changes 159 = .ok (.imul, 1) := by decide +kernel
theorem dX9_changes_160 : decode cX9_changes 160 = .ok (.iload 6, 2) := by decide +kernel
theorem dX9_changes_162 : decode cX9_changes 162 = .ok (.iadd, 1) := by decide +kernel
theorem dX9_changes_163 : decode cX9_changes 163 = .ok (.iload 7, 2) := by decide +kernel
theorem dX9_changes_165 : decode cX9_changes 165 = .ok (.iastore, 1) := by decide +kernel
theorem dX9_changes_166 : decode cX9_changes 166 = .ok (.iinc 6 1, 3) := by decide +kernel
theorem dX9_changes_169 : decode cX9_changes 169 = .ok (.goto (-140), 3) := by decide +kernel
theorem dX9_changes_172 : decode cX9_changes 172 = .ok (.iinc 5 1, 3) := by decide +kernel
theorem dX9_changes_175 : decode cX9_changes 175 = .ok (.goto (-155), 3) := by decide +kernel
theorem dX9_changes_178 : decode cX9_changes 178 = .ok (.aload_n 0, 1) := by decide +kernel
theorem dX9_changes_179 : decode cX9_changes 179 = .ok (.getfield 92, 3) := by decide +kernel
theorem dX9_changes_182 : decode cX9_changes 182 = .ok (.bipush 9, 2) := by decide +kernel
theorem dX9_changes_184 : decode cX9_changes 184 = .ok (.iload_n 3, 1) := by decide +kernel
theorem dX9_changes_185 : decode cX9_changes 185 = .ok (.imul, 1) := by decide +kernel
theorem dX9_changes_186 : decode cX9_changes 186 = .ok (.iload 4, 2) := by decide +kernel
theorem dX9_changes_188 : decode cX9_changes 188 = .ok (.iadd, 1) := by decide +kernel
theorem dX9_changes_189 : decode cX9_changes 189 = .ok (.iaload, 1) := by decide +kernel
theorem dX9_changes_190 : decode cX9_changes 190 = .ok (.ireturn, 1) := by decide +kernel
theorem dX9_fitsSigns_0 : decode cX9_fitsSigns 0 = .ok (.aload_n 0, 1) := by decide +kernel
theorem dX9_fitsSigns_1 : decode cX9_fitsSigns 1 = .ok (.getfield 86, 3) := by decide +kernel
theorem dX9_fitsSigns_4 : decode cX9_fitsSigns 4 = .ok (.iload_n 1, 1) := by decide +kernel
theorem dX9_fitsSigns_5 : decode cX9_fitsSigns 5 = .ok (.iaload, 1) := by decide +kernel
theorem dX9_fitsSigns_6 : decode cX9_fitsSigns 6 = .ok (.istore_n 3, 1) := by decide +kernel
theorem dX9_fitsSigns_7 : decode cX9_fitsSigns 7 = .ok (.aload_n 0, 1) := by decide +kernel
theorem dX9_fitsSigns_8 : decode cX9_fitsSigns 8 = .ok (.getfield 65, 3) := by decide +kernel
theorem dX9_fitsSigns_11 : decode cX9_fitsSigns 11 = .ok (.iconst 5, 1) := by decide +kernel
theorem dX9_fitsSigns_12 : decode cX9_fitsSigns 12 = .ok (.iload_n 2, 1) := by decide +kernel
theorem dX9_fitsSigns_13 : decode cX9_fitsSigns 13 = .ok (.imul, 1) := by decide +kernel
theorem dX9_fitsSigns_14 : decode cX9_fitsSigns 14 = .ok (.iaload, 1) := by decide +kernel
theorem dX9_fitsSigns_15 : decode cX9_fitsSigns 15 = .ok (.istore 4, 2) := by decide +kernel
theorem dX9_fitsSigns_17 : decode cX9_fitsSigns 17 = .ok (.iconst 0, 1) := by decide +kernel
theorem dX9_fitsSigns_18 : decode cX9_fitsSigns 18 = .ok (.istore 5, 2) := by decide +kernel
theorem dX9_fitsSigns_20 : decode cX9_fitsSigns 20 = .ok (.iload 5, 2) := by decide +kernel
theorem dX9_fitsSigns_22 : decode cX9_fitsSigns 22 = .ok (.iload 4, 2) := by decide +kernel
theorem dX9_fitsSigns_24 : decode cX9_fitsSigns 24 = .ok (.if_icmp .gt 211, 3) := by decide +kernel
theorem dX9_fitsSigns_27 : decode cX9_fitsSigns 27 = .ok (.iload 5, 2) := by decide +kernel
theorem dX9_fitsSigns_29 : decode cX9_fitsSigns 29 = .ok (.ifCond .le 20, 3) := by decide +kernel
theorem dX9_fitsSigns_32 : decode cX9_fitsSigns 32 = .ok (.aload_n 0, 1) := by decide +kernel
theorem dX9_fitsSigns_33 : decode cX9_fitsSigns 33 = .ok (.getfield 68, 3) := by decide +kernel
theorem dX9_fitsSigns_36 : decode cX9_fitsSigns 36 = .ok (.bipush 40, 2) := by decide +kernel
theorem dX9_fitsSigns_38 : decode cX9_fitsSigns 38 = .ok (.iload_n 2, 1) := by decide +kernel
theorem dX9_fitsSigns_39 : decode cX9_fitsSigns 39 = .ok (.imul, 1) := by decide +kernel
theorem dX9_fitsSigns_40 : decode cX9_fitsSigns 40 = .ok (.iload 5, 2) := by decide +kernel
theorem dX9_fitsSigns_42 : decode cX9_fitsSigns 42 = .ok (.iadd, 1) := by decide +kernel
theorem dX9_fitsSigns_43 : decode cX9_fitsSigns 43 = .ok (.iconst 1, 1) := by decide +kernel
theorem dX9_fitsSigns_44 : decode cX9_fitsSigns 44 = .ok (.isub, 1) := by decide +kernel
theorem dX9_fitsSigns_45 : decode cX9_fitsSigns 45 = .ok (.iaload, 1) := by decide +kernel
theorem dX9_fitsSigns_46 : decode cX9_fitsSigns 46 = .ok (.goto 4, 3) := by decide +kernel
theorem dX9_fitsSigns_49 : decode cX9_fitsSigns 49 = .ok (.iconst 0, 1) := by decide +kernel
theorem dX9_fitsSigns_50 : decode cX9_fitsSigns 50 = .ok (.istore 6, 2) := by decide +kernel
theorem dX9_fitsSigns_52 : decode cX9_fitsSigns 52 = .ok (.iconst 0, 1) := by decide +kernel
theorem dX9_fitsSigns_53 : decode cX9_fitsSigns 53 = .ok (.istore 7, 2) := by decide +kernel
theorem dX9_fitsSigns_55 : decode cX9_fitsSigns 55 = .ok (.iload 7, 2) := by decide +kernel
theorem dX9_fitsSigns_57 : decode cX9_fitsSigns 57 = .ok (.iload_n 3, 1) := by decide +kernel
theorem dX9_fitsSigns_58 : decode cX9_fitsSigns 58 = .ok (.if_icmp .gt 171, 3) := by decide +kernel
theorem dX9_fitsSigns_61 : decode cX9_fitsSigns 61 = .ok (.iload 5, 2) := by decide +kernel
theorem dX9_fitsSigns_63 : decode cX9_fitsSigns 63 = .ok (.ifCond .ne 18, 3) := by decide +kernel
theorem dX9_fitsSigns_66 : decode cX9_fitsSigns 66 = .ok (.iload 7, 2) := by decide +kernel
theorem dX9_fitsSigns_68 : decode cX9_fitsSigns 68 = .ok (.ifCond .ne 7, 3) := by decide +kernel
end
section
theorem dX9_fitsSigns_71 : decode cX9_fitsSigns 71 = .ok (.iconst 1, 1) := by decide +kernel
theorem dX9_fitsSigns_72 : decode cX9_fitsSigns 72 = .ok (.goto 4, 3) := by decide +kernel
theorem dX9_fitsSigns_75 : decode cX9_fitsSigns 75 = .ok (.iconst 0, 1) := by decide +kernel
theorem dX9_fitsSigns_76 : decode cX9_fitsSigns 76 = .ok (.istore 8, 2) := by decide +kernel
theorem dX9_fitsSigns_78 : decode cX9_fitsSigns 78 = .ok (.goto 122, 3) := by decide +kernel
theorem dX9_fitsSigns_81 : decode cX9_fitsSigns 81 = .ok (.iload 6, 2) := by decide +kernel
theorem dX9_fitsSigns_83 : decode cX9_fitsSigns 83 = .ok (.bipush 42, 2) := by decide +kernel
theorem dX9_fitsSigns_85 : decode cX9_fitsSigns 85 = .ok (.if_icmp .ne 56, 3) := by decide +kernel
theorem dX9_fitsSigns_88 : decode cX9_fitsSigns 88 = .ok (.aload_n 0, 1) := by decide +kernel
theorem dX9_fitsSigns_89 : decode cX9_fitsSigns 89 = .ok (.getfield 92, 3) := by decide +kernel
theorem dX9_fitsSigns_92 : decode cX9_fitsSigns 92 = .ok (.bipush 9, 2) := by decide +kernel
theorem dX9_fitsSigns_94 : decode cX9_fitsSigns 94 = .ok (.iload 7, 2) := by decide +kernel
theorem dX9_fitsSigns_96 : decode cX9_fitsSigns 96 = .ok (.imul, 1) := by decide +kernel
theorem dX9_fitsSigns_97 : decode cX9_fitsSigns 97 = .ok (.iload 5, 2) := by decide +kernel
theorem dX9_fitsSigns_99 : decode cX9_fitsSigns 99 = .ok (.iadd, 1) := by decide +kernel
theorem dX9_fitsSigns_100 : decode cX9_fitsSigns 100 = .ok (.iconst 1, 1) := by decide +kernel
theorem dX9_fitsSigns_101 : decode cX9_fitsSigns 101 = .ok (.isub, 1) := by decide +kernel
theorem dX9_fitsSigns_102 : decode cX9_fitsSigns 102 = .ok (.iaload, 1) := by decide +kernel
theorem dX9_fitsSigns_103 : decode cX9_fitsSigns 103 = .ok (.iconst 1, 1) := by decide +kernel
theorem dX9_fitsSigns_104 : decode cX9_fitsSigns 104 = .ok (.if_icmp .eq 27, 3) := by decide +kernel
theorem dX9_fitsSigns_107 : decode cX9_fitsSigns 107 = .ok (.iload 7, 2) := by decide +kernel
theorem dX9_fitsSigns_109 : decode cX9_fitsSigns 109 = .ok (.ifCond .le 26, 3) := by decide +kernel
theorem dX9_fitsSigns_112 : decode cX9_fitsSigns 112 = .ok (.aload_n 0, 1) := by decide +kernel
theorem dX9_fitsSigns_113 : decode cX9_fitsSigns 113 = .ok (.getfield 92, 3) := by decide +kernel
theorem dX9_fitsSigns_116 : decode cX9_fitsSigns 116 = .ok (.bipush 9, 2) := by decide +kernel
theorem dX9_fitsSigns_118 : decode cX9_fitsSigns 118 = .ok (.iload 7, 2) := by decide +kernel
theorem dX9_fitsSigns_120 : decode cX9_fitsSigns 120 = .ok (.iconst 1, 1) := by decide +kernel
theorem dX9_fitsSigns_121 : decode cX9_fitsSigns 121 = .ok (.isub, 1) := by decide +kernel
theorem dX9_fitsSigns_122 : decode cX9_fitsSigns 122 = .ok (.imul, 1) := by decide +kernel
theorem dX9_fitsSigns_123 : decode cX9_fitsSigns 123 = .ok (.iload 5, 2) := by decide +kernel
theorem dX9_fitsSigns_125 : decode cX9_fitsSigns 125 = .ok (.iadd, 1) := by decide +kernel
theorem dX9_fitsSigns_126 : decode cX9_fitsSigns 126 = .ok (.iaload, 1) := by decide +kernel
theorem dX9_fitsSigns_127 : decode cX9_fitsSigns 127 = .ok (.iconst 1, 1) := by decide +kernel
theorem dX9_fitsSigns_128 : decode cX9_fitsSigns 128 = .ok (.if_icmp .ne 7, 3) := by decide +kernel
theorem dX9_fitsSigns_131 : decode cX9_fitsSigns 131 = .ok (.iconst 1, 1) := by decide +kernel
theorem dX9_fitsSigns_132 : decode cX9_fitsSigns 132 = .ok (.goto 4, 3) := by decide +kernel
theorem dX9_fitsSigns_135 : decode cX9_fitsSigns 135 = .ok (.iconst 0, 1) := by decide +kernel
theorem dX9_fitsSigns_136 : decode cX9_fitsSigns 136 = .ok (.istore 8, 2) := by decide +kernel
theorem dX9_fitsSigns_138 : decode cX9_fitsSigns 138 = .ok (.goto 62, 3) := by decide +kernel
theorem dX9_fitsSigns_141 : decode cX9_fitsSigns 141 = .ok (.iload 7, 2) := by decide +kernel
theorem dX9_fitsSigns_143 : decode cX9_fitsSigns 143 = .ok (.ifCond .le 54, 3) := by decide +kernel
theorem dX9_fitsSigns_146 : decode cX9_fitsSigns 146 = .ok (.aload_n 0, 1) := by decide +kernel
theorem dX9_fitsSigns_147 : decode cX9_fitsSigns 147 = .ok (.getfield 92, 3) := by decide +kernel
theorem dX9_fitsSigns_150 : decode cX9_fitsSigns 150 = .ok (.bipush 9, 2) := by decide +kernel
theorem dX9_fitsSigns_152 : decode cX9_fitsSigns 152 = .ok (.iload 7, 2) := by decide +kernel
theorem dX9_fitsSigns_154 : decode cX9_fitsSigns 154 = .ok (.iconst 1, 1) := by decide +kernel
theorem dX9_fitsSigns_155 : decode cX9_fitsSigns 155 = .ok (.isub, 1) := by decide +kernel
theorem dX9_fitsSigns_156 : decode cX9_fitsSigns 156 = .ok (.imul, 1) := by decide +kernel
theorem dX9_fitsSigns_157 : decode cX9_fitsSigns 157 = .ok (.iload 5, 2) := by decide +kernel
theorem dX9_fitsSigns_159 : decode cX9_fitsSigns 159 = .ok (.iadd, 1) := by decide +kernel
theorem dX9_fitsSigns_160 : decode cX9_fitsSigns 160 = .ok (.iconst 1, 1) := by decide +kernel
theorem dX9_fitsSigns_161 : decode cX9_fitsSigns 161 = .ok (.isub, 1) := by decide +kernel
theorem dX9_fitsSigns_162 : decode cX9_fitsSigns 162 = .ok (.iaload, 1) := by decide +kernel
theorem dX9_fitsSigns_163 : decode cX9_fitsSigns 163 = .ok (.iconst 1, 1) := by decide +kernel
theorem dX9_fitsSigns_164 : decode cX9_fitsSigns 164 = .ok (.if_icmp .ne 33, 3) := by decide +kernel
theorem dX9_fitsSigns_167 : decode cX9_fitsSigns 167 = .ok (.iload 6, 2) := by decide +kernel
theorem dX9_fitsSigns_169 : decode cX9_fitsSigns 169 = .ok (.bipush 63, 2) := by decide +kernel
theorem dX9_fitsSigns_171 : decode cX9_fitsSigns 171 = .ok (.if_icmp .eq 22, 3) := by decide +kernel
theorem dX9_fitsSigns_174 : decode cX9_fitsSigns 174 = .ok (.iload 6, 2) := by decide +kernel
theorem dX9_fitsSigns_176 : decode cX9_fitsSigns 176 = .ok (.aload_n 0, 1) := by decide +kernel
theorem dX9_fitsSigns_177 : decode cX9_fitsSigns 177 = .ok (.getfield 89, 3) := by decide +kernel
theorem dX9_fitsSigns_180 : decode cX9_fitsSigns 180 = .ok (.bipush 8, 2) := by decide +kernel
theorem dX9_fitsSigns_182 : decode cX9_fitsSigns 182 = .ok (.iload_n 1, 1) := by decide +kernel
theorem dX9_fitsSigns_183 : decode cX9_fitsSigns 183 = .ok (.imul, 1) := by decide +kernel
theorem dX9_fitsSigns_184 : decode cX9_fitsSigns 184 = .ok (.iload 7, 2) := by decide +kernel
theorem dX9_fitsSigns_186 : decode cX9_fitsSigns 186 = .ok (.iadd, 1) := by decide +kernel
theorem dX9_fitsSigns_187 : decode cX9_fitsSigns 187 = .ok (.iconst 1, 1) := by decide +kernel
theorem dX9_fitsSigns_188 : decode cX9_fitsSigns 188 = .ok (.isub, 1) := by decide +kernel
theorem dX9_fitsSigns_189 : decode cX9_fitsSigns 189 = .ok (.iaload, 1) := by decide +kernel
theorem dX9_fitsSigns_190 : decode cX9_fitsSigns 190 = .ok (.if_icmp .ne 7, 3) := by decide +kernel
theorem dX9_fitsSigns_193 : decode cX9_fitsSigns 193 = .ok (.iconst 1, 1) := by decide +kernel
theorem dX9_fitsSigns_194 : decode cX9_fitsSigns 194 = .ok (.goto 4, 3) := by decide +kernel
theorem dX9_fitsSigns_197 : decode cX9_fitsSigns 197 = .ok (.iconst 0, 1) := by decide +kernel
theorem dX9_fitsSigns_198 : decode cX9_fitsSigns 198 = .ok (.istore 8, 2) := by decide +kernel
theorem dX9_fitsSigns_200 : decode cX9_fitsSigns 200 = .ok (.aload_n 0, 1) := by decide +kernel
theorem dX9_fitsSigns_201 : decode cX9_fitsSigns 201 = .ok (.getfield 92, 3) := by decide +kernel
theorem dX9_fitsSigns_204 : decode cX9_fitsSigns 204 = .ok (.bipush 9, 2) := by decide +kernel
theorem dX9_fitsSigns_206 : decode cX9_fitsSigns 206 = .ok (.iload 7, 2) := by decide +kernel
theorem dX9_fitsSigns_208 : decode cX9_fitsSigns 208 = .ok (.imul, 1) := by decide +kernel
theorem dX9_fitsSigns_209 : decode cX9_fitsSigns 209 = .ok (.iload 5, 2) := by decide +kernel
theorem dX9_fitsSigns_211 : decode cX9_fitsSigns 211 = .ok (.iadd, 1) := by decide +kernel
theorem dX9_fitsSigns_212 : decode cX9_fitsSigns 212 = .ok (.iload 8, 2) := by decide +kernel
theorem dX9_fitsSigns_214 : decode cX9_fitsSigns 214 = .ok (.ifCond .eq 7, 3) := by decide +kernel
theorem dX9_fitsSigns_217 : decode cX9_fitsSigns 217 = .ok (.iconst 1, 1) := by decide +kernel
theorem dX9_fitsSigns_218 : decode cX9_fitsSigns 218 = .ok (.goto 4, 3) := by decide +kernel
theorem dX9_fitsSigns_221 : decode cX9_fitsSigns 221 = .ok (.iconst 0, 1) := by decide +kernel
theorem dX9_fitsSigns_222 : decode cX9_fitsSigns 222 = .ok (.iastore, 1) := by decide +kernel
theorem dX9_fitsSigns_223 : decode cX9_fitsSigns 223 = .ok (.iinc 7 1, 3) := by decide +kernel
theorem dX9_fitsSigns_226 : decode cX9_fitsSigns 226 = .ok (.goto (-171), 3) := by decide +kernel
theorem dX9_fitsSigns_229 : decode cX9_fitsSigns 229 = .ok (.iinc 5 1, 3) := by decide +kernel
theorem dX9_fitsSigns_232 : decode cX9_fitsSigns 232 = .ok (.goto (-212), 3) := by decide +kernel
theorem dX9_fitsSigns_235 : decode cX9_fitsSigns 235 = .ok (.aload_n 0, 1) := by decide +kernel
theorem dX9_fitsSigns_236 : decode cX9_fitsSigns 236 = .ok (.getfield 92, 3) := by decide +kernel
theorem dX9_fitsSigns_239 : decode cX9_fitsSigns 239 = .ok (.bipush 9, 2) := by decide +kernel
theorem dX9_fitsSigns_241 : decode cX9_fitsSigns 241 = .ok (.iload_n 3, 1) := by decide +kernel
theorem dX9_fitsSigns_242 : decode cX9_fitsSigns 242 = .ok (.imul, 1) := by decide +kernel
theorem dX9_fitsSigns_243 : decode cX9_fitsSigns 243 = .ok (.iload 4, 2) := by decide +kernel
theorem dX9_fitsSigns_245 : decode cX9_fitsSigns 245 = .ok (.iadd, 1) := by decide +kernel
theorem dX9_fitsSigns_246 : decode cX9_fitsSigns 246 = .ok (.iaload, 1) := by decide +kernel
theorem dX9_fitsSigns_247 : decode cX9_fitsSigns 247 = .ok (.iconst 1, 1) := by decide +kernel
theorem dX9_fitsSigns_248 : decode cX9_fitsSigns 248 = .ok (.if_icmp .ne 7, 3) := by decide +kernel
theorem dX9_fitsSigns_251 : decode cX9_fitsSigns 251 = .ok (.iconst 1, 1) := by decide +kernel
theorem dX9_fitsSigns_252 : decode cX9_fitsSigns 252 = .ok (.goto 4, 3) := by decide +kernel
theorem dX9_fitsSigns_255 : decode cX9_fitsSigns 255 = .ok (.iconst 0, 1) := by decide +kernel
theorem dX9_fitsSigns_256 : decode cX9_fitsSigns 256 = .ok (.ireturn, 1) := by decide +kernel
theorem dX9_fitsWord_0 : decode cX9_fitsWord 0 = .ok (.aload_n 0, 1) := by decide +kernel
theorem dX9_fitsWord_1 : decode cX9_fitsWord 1 = .ok (.getfield 44, 3) := by decide +kernel
theorem dX9_fitsWord_4 : decode cX9_fitsWord 4 = .ok (.iload_n 2, 1) := by decide +kernel
theorem dX9_fitsWord_5 : decode cX9_fitsWord 5 = .ok (.iaload, 1) := by decide +kernel
theorem dX9_fitsWord_6 : decode cX9_fitsWord 6 = .ok (.iconst 2, 1) := by decide +kernel
theorem dX9_fitsWord_7 : decode cX9_fitsWord 7 = .ok (.if_icmp .ne 62, 3) := by decide +kernel
theorem dX9_fitsWord_10 : decode cX9_fitsWord 10 = .ok (.aload_n 0, 1) := by decide +kernel
theorem dX9_fitsWord_11 : decode cX9_fitsWord 11 = .ok (.iload_n 1, 1) := by decide +kernel
theorem dX9_fitsWord_12 : decode cX9_fitsWord 12 = .ok (.iload_n 2, 1) := by decide +kernel
theorem dX9_fitsWord_13 : decode cX9_fitsWord 13 = .ok (.iconst 0, 1) := by decide +kernel
theorem dX9_fitsWord_14 : decode cX9_fitsWord 14 = .ok (.invokevirtual 223, 3) := by decide +kernel
theorem dX9_fitsWord_17 : decode cX9_fitsWord 17 = .ok (.istore_n 3, 1) := by decide +kernel
theorem dX9_fitsWord_18 : decode cX9_fitsWord 18 = .ok (.aload_n 0, 1) := by decide +kernel
theorem dX9_fitsWord_19 : decode cX9_fitsWord 19 = .ok (.iload_n 1, 1) := by decide +kernel
theorem dX9_fitsWord_20 : decode cX9_fitsWord 20 = .ok (.iload_n 2, 1) := by decide +kernel
theorem dX9_fitsWord_21 : decode cX9_fitsWord 21 = .ok (.iconst 1, 1) := by decide +kernel
theorem dX9_fitsWord_22 : decode cX9_fitsWord 22 = .ok (.invokevirtual 223, 3) := by decide +kernel
theorem dX9_fitsWord_25 : decode cX9_fitsWord 25 = .ok (.istore 4, 2) := by decide +kernel
theorem dX9_fitsWord_27 : decode cX9_fitsWord 27 = .ok (.aload_n 0, 1) := by decide +kernel
theorem dX9_fitsWord_28 : decode cX9_fitsWord 28 = .ok (.getfield 56, 3) := by decide +kernel
theorem dX9_fitsWord_31 : decode cX9_fitsWord 31 = .ok (.iload_n 2, 1) := by decide +kernel
theorem dX9_fitsWord_32 : decode cX9_fitsWord 32 = .ok (.iaload, 1) := by decide +kernel
theorem dX9_fitsWord_33 : decode cX9_fitsWord 33 = .ok (.iconst 1, 1) := by decide +kernel
theorem dX9_fitsWord_34 : decode cX9_fitsWord 34 = .ok (.if_icmp .ne 20, 3) := by decide +kernel
theorem dX9_fitsWord_37 : decode cX9_fitsWord 37 = .ok (.iload_n 3, 1) := by decide +kernel
theorem dX9_fitsWord_38 : decode cX9_fitsWord 38 = .ok (.ifCond .le 12, 3) := by decide +kernel
theorem dX9_fitsWord_41 : decode cX9_fitsWord 41 = .ok (.iload 4, 2) := by decide +kernel
theorem dX9_fitsWord_43 : decode cX9_fitsWord 43 = .ok (.ifCond .ge 7, 3) := by decide +kernel
theorem dX9_fitsWord_46 : decode cX9_fitsWord 46 = .ok (.iconst 1, 1) := by decide +kernel
theorem dX9_fitsWord_47 : decode cX9_fitsWord 47 = .ok (.goto 21, 3) := by decide +kernel
theorem dX9_fitsWord_50 : decode cX9_fitsWord 50 = .ok (.iconst 0, 1) := by decide +kernel
theorem dX9_fitsWord_51 : decode cX9_fitsWord 51 = .ok (.goto 17, 3) := by decide +kernel
theorem dX9_fitsWord_54 : decode cX9_fitsWord 54 = .ok (.iload_n 3, 1) := by decide +kernel
theorem dX9_fitsWord_55 : decode cX9_fitsWord 55 = .ok (.ifCond .lt 12, 3) := by decide +kernel
theorem dX9_fitsWord_58 : decode cX9_fitsWord 58 = .ok (.iload 4, 2) := by decide +kernel
theorem dX9_fitsWord_60 : decode cX9_fitsWord 60 = .ok (.ifCond .gt 7, 3) := by decide +kernel
theorem dX9_fitsWord_63 : decode cX9_fitsWord 63 = .ok (.iconst 1, 1) := by decide +kernel
theorem dX9_fitsWord_64 : decode cX9_fitsWord 64 = .ok (.goto 4, 3) := by decide +kernel
theorem dX9_fitsWord_67 : decode cX9_fitsWord 67 = .ok (.iconst 0, 1) := by decide +kernel
theorem dX9_fitsWord_68 : decode cX9_fitsWord 68 = .ok (.ireturn, 1) := by decide +kernel
theorem dX9_fitsWord_69 : decode cX9_fitsWord 69 = .ok (.aload_n 0, 1) := by decide +kernel
theorem dX9_fitsWord_70 : decode cX9_fitsWord 70 = .ok (.getfield 56, 3) := by decide +kernel
theorem dX9_fitsWord_73 : decode cX9_fitsWord 73 = .ok (.iload_n 2, 1) := by decide +kernel
theorem dX9_fitsWord_74 : decode cX9_fitsWord 74 = .ok (.iaload, 1) := by decide +kernel
theorem dX9_fitsWord_75 : decode cX9_fitsWord 75 = .ok (.ifCond .le 26, 3) := by decide +kernel
theorem dX9_fitsWord_78 : decode cX9_fitsWord 78 = .ok (.aload_n 0, 1) := by decide +kernel
theorem dX9_fitsWord_79 : decode cX9_fitsWord 79 = .ok (.iload_n 1, 1) := by decide +kernel
theorem dX9_fitsWord_80 : decode cX9_fitsWord 80 = .ok (.iload_n 2, 1) := by decide +kernel
theorem dX9_fitsWord_81 : decode cX9_fitsWord 81 = .ok (.invokevirtual 227, 3) := by decide +kernel
theorem dX9_fitsWord_84 : decode cX9_fitsWord 84 = .ok (.aload_n 0, 1) := by decide +kernel
theorem dX9_fitsWord_85 : decode cX9_fitsWord 85 = .ok (.getfield 56, 3) := by decide +kernel
theorem dX9_fitsWord_88 : decode cX9_fitsWord 88 = .ok (.iload_n 2, 1) := by decide +kernel
theorem dX9_fitsWord_89 : decode cX9_fitsWord 89 = .ok (.iaload, 1) := by decide +kernel
theorem dX9_fitsWord_90 : decode cX9_fitsWord 90 = .ok (.if_icmp .gt 7, 3) := by decide +kernel
theorem dX9_fitsWord_93 : decode cX9_fitsWord 93 = .ok (.iconst 1, 1) := by decide +kernel
theorem dX9_fitsWord_94 : decode cX9_fitsWord 94 = .ok (.goto 13, 3) := by decide +kernel
theorem dX9_fitsWord_97 : decode cX9_fitsWord 97 = .ok (.iconst 0, 1) := by decide +kernel
theorem dX9_fitsWord_98 : decode cX9_fitsWord 98 = .ok (.goto 9, 3) := by decide +kernel
theorem dX9_fitsWord_101 : decode cX9_fitsWord 101 = .ok (.aload_n 0, 1) := by decide +kernel
theorem dX9_fitsWord_102 : decode cX9_fitsWord 102 = .ok (.iload_n 1, 1) := by decide +kernel
theorem dX9_fitsWord_103 : decode cX9_fitsWord 103 = .ok (.iload_n 2, 1) := by decide +kernel
theorem dX9_fitsWord_104 : decode cX9_fitsWord 104 = .ok (.invokevirtual 230, 3) := by decide +kernel
theorem dX9_fitsWord_107 : decode cX9_fitsWord 107 = .ok (.ireturn, 1) := by decide +kernel
theorem dX9_quoteAt_0 : decode cX9_quoteAt 0 = .ok (.iload_n 2, 1) := by decide +kernel
theorem dX9_quoteAt_1 : decode cX9_quoteAt 1 = .ok (.istore 5, 2) := by decide +kernel
theorem dX9_quoteAt_3 : decode cX9_quoteAt 3 = .ok (.iconst 0, 1) := by decide +kernel
theorem dX9_quoteAt_4 : decode cX9_quoteAt 4 = .ok (.istore 6, 2) := by decide +kernel
theorem dX9_quoteAt_6 : decode cX9_quoteAt 6 = .ok (.iload 6, 2) := by decide +kernel
theorem dX9_quoteAt_8 : decode cX9_quoteAt 8 = .ok (.aload_n 0, 1) := by decide +kernel
theorem dX9_quoteAt_9 : decode cX9_quoteAt 9 = .ok (.getfield 62, 3) := by decide +kernel
theorem dX9_quoteAt_12 : decode cX9_quoteAt 12 = .ok (.iload 4, 2) := by decide +kernel
theorem dX9_quoteAt_14 : decode cX9_quoteAt 14 = .ok (.iaload, 1) := by decide +kernel
theorem dX9_quoteAt_15 : decode cX9_quoteAt 15 = .ok (.if_icmp .ge 58, 3) := by decide +kernel
theorem dX9_quoteAt_18 : decode cX9_quoteAt 18 = .ok (.iload 5, 2) := by decide +kernel
theorem dX9_quoteAt_20 : decode cX9_quoteAt 20 = .ok (.iload_n 3, 1) := by decide +kernel
theorem dX9_quoteAt_21 : decode cX9_quoteAt 21 = .ok (.if_icmp .ge 24, 3) := by decide +kernel
theorem dX9_quoteAt_24 : decode cX9_quoteAt 24 = .ok (.aload_n 0, 1) := by decide +kernel
theorem dX9_quoteAt_25 : decode cX9_quoteAt 25 = .ok (.iload_n 1, 1) := by decide +kernel
theorem dX9_quoteAt_26 : decode cX9_quoteAt 26 = .ok (.iload 5, 2) := by decide +kernel
theorem dX9_quoteAt_28 : decode cX9_quoteAt 28 = .ok (.iadd, 1) := by decide +kernel
theorem dX9_quoteAt_29 : decode cX9_quoteAt 29 = .ok (.iload 4, 2) := by decide +kernel
theorem dX9_quoteAt_31 : decode cX9_quoteAt 31 = .ok (.iload 6, 2) := by decide +kernel
theorem dX9_quoteAt_33 : decode cX9_quoteAt 33 = .ok (.invokevirtual 223, 3) := by decide +kernel
theorem dX9_quoteAt_36 : decode cX9_quoteAt 36 = .ok (.ifCond .eq 9, 3) := by decide +kernel
theorem dX9_quoteAt_39 : decode cX9_quoteAt 39 = .ok (.iinc 5 1, 3) := by decide +kernel
theorem dX9_quoteAt_42 : decode cX9_quoteAt 42 = .ok (.goto (-24), 3) := by decide +kernel
theorem dX9_quoteAt_45 : decode cX9_quoteAt 45 = .ok (.iload 5, 2) := by decide +kernel
theorem dX9_quoteAt_47 : decode cX9_quoteAt 47 = .ok (.iload_n 3, 1) := by decide +kernel
theorem dX9_quoteAt_48 : decode cX9_quoteAt 48 = .ok (.if_icmp .eq 14, 3) := by decide +kernel
theorem dX9_quoteAt_51 : decode cX9_quoteAt 51 = .ok (.iload 6, 2) := by decide +kernel
theorem dX9_quoteAt_53 : decode cX9_quoteAt 53 = .ok (.ifCond .ne 11, 3) := by decide +kernel
theorem dX9_quoteAt_56 : decode cX9_quoteAt 56 = .ok (.iload 5, 2) := by decide +kernel
theorem dX9_quoteAt_58 : decode cX9_quoteAt 58 = .ok (.iload_n 2, 1) := by decide +kernel
theorem dX9_quoteAt_59 : decode cX9_quoteAt 59 = .ok (.if_icmp .le 5, 3) := by decide +kernel
theorem dX9_quoteAt_62 : decode cX9_quoteAt 62 = .ok (.iconst 0, 1) := by decide +kernel
theorem dX9_quoteAt_63 : decode cX9_quoteAt 63 = .ok (.ireturn, 1) := by decide +kernel
theorem dX9_quoteAt_64 : decode cX9_quoteAt 64 = .ok (.iinc 5 1, 3) := by decide +kernel
theorem dX9_quoteAt_67 : decode cX9_quoteAt 67 = .ok (.iinc 6 1, 3) := by decide +kernel
theorem dX9_quoteAt_70 : decode cX9_quoteAt 70 = .ok (.goto (-64), 3) := by decide +kernel
theorem dX9_quoteAt_73 : decode cX9_quoteAt 73 = .ok (.iload 5, 2) := by decide +kernel
theorem dX9_quoteAt_75 : decode cX9_quoteAt 75 = .ok (.iconst 1, 1) := by decide +kernel
theorem dX9_quoteAt_76 : decode cX9_quoteAt 76 = .ok (.isub, 1) := by decide +kernel
theorem dX9_quoteAt_77 : decode cX9_quoteAt 77 = .ok (.iload_n 2, 1) := by decide +kernel
theorem dX9_quoteAt_78 : decode cX9_quoteAt 78 = .ok (.isub, 1) := by decide +kernel
theorem dX9_quoteAt_79 : decode cX9_quoteAt 79 = .ok (.aload_n 0, 1) := by decide +kernel
theorem dX9_quoteAt_80 : decode cX9_quoteAt 80 = .ok (.getfield 62, 3) := by decide +kernel
theorem dX9_quoteAt_83 : decode cX9_quoteAt 83 = .ok (.iload 4, 2) := by decide +kernel
theorem dX9_quoteAt_85 : decode cX9_quoteAt 85 = .ok (.iaload, 1) := by decide +kernel
theorem dX9_quoteAt_86 : decode cX9_quoteAt 86 = .ok (.iconst 1, 1) := by decide +kernel
theorem dX9_quoteAt_87 : decode cX9_quoteAt 87 = .ok (.isub, 1) := by decide +kernel
theorem dX9_quoteAt_88 : decode cX9_quoteAt 88 = .ok (.aload_n 0, 1) := by decide +kernel
theorem dX9_quoteAt_89 : decode cX9_quoteAt 89 = .ok (.getfield 56, 3) := by decide +kernel
theorem dX9_quoteAt_92 : decode cX9_quoteAt 92 = .ok (.iload 4, 2) := by decide +kernel
theorem dX9_quoteAt_94 : decode cX9_quoteAt 94 = .ok (.iaload, 1) := by decide +kernel
theorem dX9_quoteAt_95 : decode cX9_quoteAt 95 = .ok (.iadd, 1) := by decide +kernel
theorem dX9_quoteAt_96 : decode cX9_quoteAt 96 = .ok (.if_icmp .gt 7, 3) := by decide +kernel
theorem dX9_quoteAt_99 : decode cX9_quoteAt 99 = .ok (.iconst 1, 1) := by decide +kernel
theorem dX9_quoteAt_100 : decode cX9_quoteAt 100 = .ok (.goto 4, 3) := by decide +kernel
theorem dX9_quoteAt_103 : decode cX9_quoteAt 103 = .ok (.iconst 0, 1) := by decide +kernel
theorem dX9_quoteAt_104 : decode cX9_quoteAt 104 = .ok (.ireturn, 1) := by decide +kernel
theorem dX9_countOf_0 : decode cX9_countOf 0 = .ok (.iconst 0, 1) := by decide +kernel
theorem dX9_countOf_1 : decode cX9_countOf 1 = .ok (.istore_n 3, 1) := by decide +kernel
theorem dX9_countOf_2 : decode cX9_countOf 2 = .ok (.iconst 0, 1) := by decide +kernel
theorem dX9_countOf_3 : decode cX9_countOf 3 = .ok (.istore 4, 2) := by decide +kernel
theorem dX9_countOf_5 : decode cX9_countOf 5 = .ok (.iload 4, 2) := by decide +kernel
theorem dX9_countOf_7 : decode cX9_countOf 7 = .ok (.iconst 4, 1) := by decide +kernel
theorem dX9_countOf_8 : decode cX9_countOf 8 = .ok (.if_icmp .ge 124, 3) := by decide +kernel
theorem dX9_countOf_11 : decode cX9_countOf 11 = .ok (.bipush 48, 2) := by decide +kernel
theorem dX9_countOf_13 : decode cX9_countOf 13 = .ok (.iload_n 2, 1) := by decide +kernel
theorem dX9_countOf_14 : decode cX9_countOf 14 = .ok (.imul, 1) := by decide +kernel
theorem dX9_countOf_15 : decode cX9_countOf 15 = .ok (.bipush 12, 2) := by decide +kernel
theorem dX9_countOf_17 : decode cX9_countOf 17 = .ok (.iload 4, 2) := by decide +kernel
theorem dX9_countOf_19 : decode cX9_countOf 19 = .ok (.imul, 1) := by decide +kernel
theorem dX9_countOf_20 : decode cX9_countOf 20 = .ok (.iadd, 1) := by decide +kernel
theorem dX9_countOf_21 : decode cX9_countOf 21 = .ok (.istore 5, 2) := by decide +kernel
theorem dX9_countOf_23 : decode cX9_countOf 23 = .ok (.aload_n 0, 1) := by decide +kernel
theorem dX9_countOf_24 : decode cX9_countOf 24 = .ok (.getfield 103, 3) := by decide +kernel
theorem dX9_countOf_27 : decode cX9_countOf 27 = .ok (.iload_n 1, 1) := by decide +kernel
theorem dX9_countOf_28 : decode cX9_countOf 28 = .ok (.iaload, 1) := by decide +kernel
theorem dX9_countOf_29 : decode cX9_countOf 29 = .ok (.iconst (-1), 1) := by decide +kernel
theorem dX9_countOf_30 : decode cX9_countOf 30 = .ok (.if_icmp .eq 14, 3) := by decide +kernel
theorem dX9_countOf_33 : decode cX9_countOf 33 = .ok (.aload_n 0, 1) := by decide +kernel
theorem dX9_countOf_34 : decode cX9_countOf 34 = .ok (.getfield 103, 3) := by decide +kernel
theorem dX9_countOf_37 : decode cX9_countOf 37 = .ok (.iload_n 1, 1) := by decide +kernel
theorem dX9_countOf_38 : decode cX9_countOf 38 = .ok (.iaload, 1) := by decide +kernel
theorem dX9_countOf_39 : decode cX9_countOf 39 = .ok (.iload 4, 2) := by decide +kernel
theorem dX9_countOf_41 : decode cX9_countOf 41 = .ok (.if_icmp .ne 17, 3) := by decide +kernel
theorem dX9_countOf_44 : decode cX9_countOf 44 = .ok (.aload_n 0, 1) := by decide +kernel
theorem dX9_countOf_45 : decode cX9_countOf 45 = .ok (.getfield 83, 3) := by decide +kernel
theorem dX9_countOf_48 : decode cX9_countOf 48 = .ok (.iconst 4, 1) := by decide +kernel
theorem dX9_countOf_49 : decode cX9_countOf 49 = .ok (.iload_n 2, 1) := by decide +kernel
theorem dX9_countOf_50 : decode cX9_countOf 50 = .ok (.imul, 1) := by decide +kernel
theorem dX9_countOf_51 : decode cX9_countOf 51 = .ok (.iload 4, 2) := by decide +kernel
theorem dX9_countOf_53 : decode cX9_countOf 53 = .ok (.iadd, 1) := by decide +kernel
theorem dX9_countOf_54 : decode cX9_countOf 54 = .ok (.iaload, 1) := by decide +kernel
theorem dX9_countOf_55 : decode cX9_countOf 55 = .ok (.goto 4, 3) := by decide +kernel
theorem dX9_countOf_58 : decode cX9_countOf 58 = .ok (.iconst 0, 1) := by decide +kernel
theorem dX9_countOf_59 : decode cX9_countOf 59 = .ok (.istore 6, 2) := by decide +kernel
theorem dX9_countOf_61 : decode cX9_countOf 61 = .ok (.iconst 0, 1) := by decide +kernel
theorem dX9_countOf_62 : decode cX9_countOf 62 = .ok (.istore 7, 2) := by decide +kernel
theorem dX9_countOf_64 : decode cX9_countOf 64 = .ok (.iload 7, 2) := by decide +kernel
theorem dX9_countOf_66 : decode cX9_countOf 66 = .ok (.iload 6, 2) := by decide +kernel
theorem dX9_countOf_68 : decode cX9_countOf 68 = .ok (.if_icmp .ge 58, 3) := by decide +kernel
theorem dX9_countOf_71 : decode cX9_countOf 71 = .ok (.aload_n 0, 1) := by decide +kernel
theorem dX9_countOf_72 : decode cX9_countOf 72 = .ok (.getfield 44, 3) := by decide +kernel
theorem dX9_countOf_75 : decode cX9_countOf 75 = .ok (.iload_n 1, 1) := by decide +kernel
theorem dX9_countOf_76 : decode cX9_countOf 76 = .ok (.iaload, 1) := by decide +kernel
theorem dX9_countOf_77 : decode cX9_countOf 77 = .ok (.iconst 1, 1) := by decide +kernel
theorem dX9_countOf_78 : decode cX9_countOf 78 = .ok (.if_icmp .ne 17, 3) := by decide +kernel
theorem dX9_countOf_81 : decode cX9_countOf 81 = .ok (.aload_n 0, 1) := by decide +kernel
theorem dX9_countOf_82 : decode cX9_countOf 82 = .ok (.iload 5, 2) := by decide +kernel
theorem dX9_countOf_84 : decode cX9_countOf 84 = .ok (.iload 7, 2) := by decide +kernel
theorem dX9_countOf_86 : decode cX9_countOf 86 = .ok (.iload 6, 2) := by decide +kernel
theorem dX9_countOf_88 : decode cX9_countOf 88 = .ok (.iload_n 1, 1) := by decide +kernel
theorem dX9_countOf_89 : decode cX9_countOf 89 = .ok (.invokevirtual 233, 3) := by decide +kernel
theorem dX9_countOf_92 : decode cX9_countOf 92 = .ok (.goto 13, 3) := by decide +kernel
theorem dX9_countOf_95 : decode cX9_countOf 95 = .ok (.aload_n 0, 1) := by decide +kernel
theorem dX9_countOf_96 : decode cX9_countOf 96 = .ok (.iload 5, 2) := by decide +kernel
theorem dX9_countOf_98 : decode cX9_countOf 98 = .ok (.iload 7, 2) := by decide +kernel
theorem dX9_countOf_100 : decode cX9_countOf 100 = .ok (.iadd, 1) := by decide +kernel
theorem dX9_countOf_101 : decode cX9_countOf 101 = .ok (.iload_n 1, 1) := by decide +kernel
theorem dX9_countOf_102 : decode cX9_countOf 102 = .ok (.invokevirtual 236, 3) := by decide +kernel
theorem dX9_countOf_105 : decode cX9_countOf 105 = .ok (.istore 8, 2) := by decide +kernel
theorem dX9_countOf_107 : decode cX9_countOf 107 = .ok (.iload_n 3, 1) := by decide +kernel
theorem dX9_countOf_108 : decode cX9_countOf 108 = .ok (.iload 8, 2) := by decide +kernel
theorem dX9_countOf_110 : decode cX9_countOf 110 = .ok (.ifCond .eq 7, 3) := by decide +kernel
theorem dX9_countOf_113 : decode cX9_countOf 113 = .ok (.iconst 1, 1) := by decide +kernel
theorem dX9_countOf_114 : decode cX9_countOf 114 = .ok (.goto 4, 3) := by decide +kernel
theorem dX9_countOf_117 : decode cX9_countOf 117 = .ok (.iconst 0, 1) := by decide +kernel
theorem dX9_countOf_118 : decode cX9_countOf 118 = .ok (.iadd, 1) := by decide +kernel
theorem dX9_countOf_119 : decode cX9_countOf 119 = .ok (.istore_n 3, 1) := by decide +kernel
theorem dX9_countOf_120 : decode cX9_countOf 120 = .ok (.iinc 7 1, 3) := by decide +kernel
theorem dX9_countOf_123 : decode cX9_countOf 123 = .ok (.goto (-59), 3) := by decide +kernel
theorem dX9_countOf_126 : decode cX9_countOf 126 = .ok (.iinc 4 1, 3) := by decide +kernel
theorem dX9_countOf_129 : decode cX9_countOf 129 = .ok (.goto (-124), 3) := by decide +kernel
theorem dX9_countOf_132 : decode cX9_countOf 132 = .ok (.iload_n 3, 1) := by decide +kernel
theorem dX9_countOf_133 : decode cX9_countOf 133 = .ok (.ireturn, 1) := by decide +kernel
theorem dX9_reckonGroup_0 : decode cX9_reckonGroup 0 = .ok (.iconst 0, 1) := by decide +kernel
theorem dX9_reckonGroup_1 : decode cX9_reckonGroup 1 = .ok (.istore_n 2, 1) := by decide +kernel
theorem dX9_reckonGroup_2 : decode cX9_reckonGroup 2 = .ok (.iconst 0, 1) := by decide +kernel
theorem dX9_reckonGroup_3 : decode cX9_reckonGroup 3 = .ok (.istore_n 3, 1) := by decide +kernel
theorem dX9_reckonGroup_4 : decode cX9_reckonGroup 4 = .ok (.iconst 0, 1) := by decide +kernel
theorem dX9_reckonGroup_5 : decode cX9_reckonGroup 5 = .ok (.istore 4, 2) := by decide +kernel
theorem dX9_reckonGroup_7 : decode cX9_reckonGroup 7 = .ok (.iconst 1, 1) := by decide +kernel
theorem dX9_reckonGroup_8 : decode cX9_reckonGroup 8 = .ok (.istore 5, 2) := by decide +kernel
theorem dX9_reckonGroup_10 : decode cX9_reckonGroup 10 = .ok (.lconst 0, 1) := by decide +kernel
theorem dX9_reckonGroup_11 : decode cX9_reckonGroup 11 = .ok (.lstore 6, 2) := by decide +kernel
theorem dX9_reckonGroup_13 : decode cX9_reckonGroup 13 = .ok (.iload_n 1, 1) := by decide +kernel
theorem dX9_reckonGroup_14 : decode cX9_reckonGroup 14 = .ok (.iconst 1, 1) := by decide +kernel
theorem dX9_reckonGroup_15 : decode cX9_reckonGroup 15 = .ok (.iadd, 1) := by decide +kernel
theorem dX9_reckonGroup_16 : decode cX9_reckonGroup 16 = .ok (.istore 8, 2) := by decide +kernel
theorem dX9_reckonGroup_18 : decode cX9_reckonGroup 18 = .ok (.iload 8, 2) := by decide +kernel
theorem dX9_reckonGroup_20 : decode cX9_reckonGroup 20 = .ok (.aload_n 0, 1) := by decide +kernel
theorem dX9_reckonGroup_21 : decode cX9_reckonGroup 21 = .ok (.getfield 112, 3) := by decide +kernel
theorem dX9_reckonGroup_24 : decode cX9_reckonGroup 24 = .ok (.if_icmp .ge 178, 3) := by decide +kernel
theorem dX9_reckonGroup_27 : decode cX9_reckonGroup 27 = .ok (.aload_n 0, 1) := by decide +kernel
theorem dX9_reckonGroup_28 : decode cX9_reckonGroup 28 = .ok (.getfield 59, 3) := by decide +kernel
theorem dX9_reckonGroup_31 : decode cX9_reckonGroup 31 = .ok (.iload 8, 2) := by decide +kernel
theorem dX9_reckonGroup_33 : decode cX9_reckonGroup 33 = .ok (.iaload, 1) := by decide +kernel
theorem dX9_reckonGroup_34 : decode cX9_reckonGroup 34 = .ok (.iload_n 1, 1) := by decide +kernel
theorem dX9_reckonGroup_35 : decode cX9_reckonGroup 35 = .ok (.if_icmp .ne 161, 3) := by decide +kernel
theorem dX9_reckonGroup_38 : decode cX9_reckonGroup 38 = .ok (.iload_n 2, 1) := by decide +kernel
theorem dX9_reckonGroup_39 : decode cX9_reckonGroup 39 = .ok (.aload_n 0, 1) := by decide +kernel
theorem dX9_reckonGroup_40 : decode cX9_reckonGroup 40 = .ok (.getfield 47, 3) := by decide +kernel
theorem dX9_reckonGroup_43 : decode cX9_reckonGroup 43 = .ok (.iload 8, 2) := by decide +kernel
theorem dX9_reckonGroup_45 : decode cX9_reckonGroup 45 = .ok (.iaload, 1) := by decide +kernel
theorem dX9_reckonGroup_46 : decode cX9_reckonGroup 46 = .ok (.ifCond .ne 7, 3) := by decide +kernel
theorem dX9_reckonGroup_49 : decode cX9_reckonGroup 49 = .ok (.iconst 1, 1) := by decide +kernel
theorem dX9_reckonGroup_50 : decode cX9_reckonGroup 50 = .ok (.goto 4, 3) := by decide +kernel
theorem dX9_reckonGroup_53 : decode cX9_reckonGroup 53 = .ok (.iconst 0, 1) := by decide +kernel
theorem dX9_reckonGroup_54 : decode cX9_reckonGroup 54 = .ok (.iadd, 1) := by decide +kernel
theorem dX9_reckonGroup_55 : decode cX9_reckonGroup 55 = .ok (.istore_n 2, 1) := by decide +kernel
theorem dX9_reckonGroup_56 : decode cX9_reckonGroup 56 = .ok (.iload 4, 2) := by decide +kernel
theorem dX9_reckonGroup_58 : decode cX9_reckonGroup 58 = .ok (.aload_n 0, 1) := by decide +kernel
theorem dX9_reckonGroup_59 : decode cX9_reckonGroup 59 = .ok (.getfield 47, 3) := by decide +kernel
theorem dX9_reckonGroup_62 : decode cX9_reckonGroup 62 = .ok (.iload 8, 2) := by decide +kernel
theorem dX9_reckonGroup_64 : decode cX9_reckonGroup 64 = .ok (.iaload, 1) := by decide +kernel
theorem dX9_reckonGroup_65 : decode cX9_reckonGroup 65 = .ok (.ifCond .ne 17, 3) := by decide +kernel
theorem dX9_reckonGroup_68 : decode cX9_reckonGroup 68 = .ok (.aload_n 0, 1) := by decide +kernel
theorem dX9_reckonGroup_69 : decode cX9_reckonGroup 69 = .ok (.getfield 95, 3) := by decide +kernel
theorem dX9_reckonGroup_72 : decode cX9_reckonGroup 72 = .ok (.iload 8, 2) := by decide +kernel
theorem dX9_reckonGroup_74 : decode cX9_reckonGroup 74 = .ok (.baload, 1) := by decide +kernel
theorem dX9_reckonGroup_75 : decode cX9_reckonGroup 75 = .ok (.ifCond .eq 7, 3) := by decide +kernel
theorem dX9_reckonGroup_78 : decode cX9_reckonGroup 78 = .ok (.iconst 1, 1) := by decide +kernel
theorem dX9_reckonGroup_79 : decode cX9_reckonGroup 79 = .ok (.goto 4, 3) := by decide +kernel
theorem dX9_reckonGroup_82 : decode cX9_reckonGroup 82 = .ok (.iconst 0, 1) := by decide +kernel
theorem dX9_reckonGroup_83 : decode cX9_reckonGroup 83 = .ok (.iadd, 1) := by decide +kernel
theorem dX9_reckonGroup_84 : decode cX9_reckonGroup 84 = .ok (.istore 4, 2) := by decide +kernel
theorem dX9_reckonGroup_86 : decode cX9_reckonGroup 86 = .ok (.iload_n 3, 1) := by decide +kernel
theorem dX9_reckonGroup_87 : decode cX9_reckonGroup 87 = .ok (.aload_n 0, 1) := by decide +kernel
theorem dX9_reckonGroup_88 : decode cX9_reckonGroup 88 = .ok (.getfield 47, 3) := by decide +kernel
theorem dX9_reckonGroup_91 : decode cX9_reckonGroup 91 = .ok (.iload 8, 2) := by decide +kernel
theorem dX9_reckonGroup_93 : decode cX9_reckonGroup 93 = .ok (.iaload, 1) := by decide +kernel
theorem dX9_reckonGroup_94 : decode cX9_reckonGroup 94 = .ok (.iconst 1, 1) := by decide +kernel
theorem dX9_reckonGroup_95 : decode cX9_reckonGroup 95 = .ok (.if_icmp .ne 7, 3) := by decide +kernel
theorem dX9_reckonGroup_98 : decode cX9_reckonGroup 98 = .ok (.iconst 1, 1) := by decide +kernel
theorem dX9_reckonGroup_99 : decode cX9_reckonGroup 99 = .ok (.goto 4, 3) := by decide +kernel
theorem dX9_reckonGroup_102 : decode cX9_reckonGroup 102 = .ok (.iconst 0, 1) := by decide +kernel
theorem dX9_reckonGroup_103 : decode cX9_reckonGroup 103 = .ok (.iadd, 1) := by decide +kernel
theorem dX9_reckonGroup_104 : decode cX9_reckonGroup 104 = .ok (.istore_n 3, 1) := by decide +kernel
theorem dX9_reckonGroup_105 : decode cX9_reckonGroup 105 = .ok (.iload 5, 2) := by decide +kernel
theorem dX9_reckonGroup_107 : decode cX9_reckonGroup 107 = .ok (.ifCond .eq 49, 3) := by decide +kernel
theorem dX9_reckonGroup_110 : decode cX9_reckonGroup 110 = .ok (.aload_n 0, 1) := by decide +kernel
theorem dX9_reckonGroup_111 : decode cX9_reckonGroup 111 = .ok (.getfield 47, 3) := by decide +kernel
theorem dX9_reckonGroup_114 : decode cX9_reckonGroup 114 = .ok (.iload 8, 2) := by decide +kernel
theorem dX9_reckonGroup_116 : decode cX9_reckonGroup 116 = .ok (.iaload, 1) := by decide +kernel
theorem dX9_reckonGroup_117 : decode cX9_reckonGroup 117 = .ok (.iconst 1, 1) := by decide +kernel
theorem dX9_reckonGroup_118 : decode cX9_reckonGroup 118 = .ok (.if_icmp .ne 13, 3) := by decide +kernel
theorem dX9_reckonGroup_121 : decode cX9_reckonGroup 121 = .ok (.aload_n 0, 1) := by decide +kernel
theorem dX9_reckonGroup_122 : decode cX9_reckonGroup 122 = .ok (.getfield 95, 3) := by decide +kernel
theorem dX9_reckonGroup_125 : decode cX9_reckonGroup 125 = .ok (.iload 8, 2) := by decide +kernel
theorem dX9_reckonGroup_127 : decode cX9_reckonGroup 127 = .ok (.baload, 1) := by decide +kernel
theorem dX9_reckonGroup_128 : decode cX9_reckonGroup 128 = .ok (.ifCond .eq 28, 3) := by decide +kernel
theorem dX9_reckonGroup_131 : decode cX9_reckonGroup 131 = .ok (.aload_n 0, 1) := by decide +kernel
theorem dX9_reckonGroup_132 : decode cX9_reckonGroup 132 = .ok (.getfield 47, 3) := by decide +kernel
theorem dX9_reckonGroup_135 : decode cX9_reckonGroup 135 = .ok (.iload 8, 2) := by decide +kernel
theorem dX9_reckonGroup_137 : decode cX9_reckonGroup 137 = .ok (.iaload, 1) := by decide +kernel
theorem dX9_reckonGroup_138 : decode cX9_reckonGroup 138 = .ok (.iconst 2, 1) := by decide +kernel
theorem dX9_reckonGroup_139 : decode cX9_reckonGroup 139 = .ok (.if_icmp .ne 13, 3) := by decide +kernel
theorem dX9_reckonGroup_142 : decode cX9_reckonGroup 142 = .ok (.aload_n 0, 1) := by decide +kernel
theorem dX9_reckonGroup_143 : decode cX9_reckonGroup 143 = .ok (.getfield 95, 3) := by decide +kernel
theorem dX9_reckonGroup_146 : decode cX9_reckonGroup 146 = .ok (.iload 8, 2) := by decide +kernel
theorem dX9_reckonGroup_148 : decode cX9_reckonGroup 148 = .ok (.baload, 1) := by decide +kernel
theorem dX9_reckonGroup_149 : decode cX9_reckonGroup 149 = .ok (.ifCond .ne 7, 3) := by decide +kernel
theorem dX9_reckonGroup_152 : decode cX9_reckonGroup 152 = .ok (.iconst 1, 1) := by decide +kernel
theorem dX9_reckonGroup_153 : decode cX9_reckonGroup 153 = .ok (.goto 4, 3) := by decide +kernel
theorem dX9_reckonGroup_156 : decode cX9_reckonGroup 156 = .ok (.iconst 0, 1) := by decide +kernel
theorem dX9_reckonGroup_157 : decode cX9_reckonGroup 157 = .ok (.istore 5, 2) := by decide +kernel
theorem dX9_reckonGroup_159 : decode cX9_reckonGroup 159 = .ok (.lload 6, 2) := by decide +kernel
theorem dX9_reckonGroup_161 : decode cX9_reckonGroup 161 = .ok (.aload_n 0, 1) := by decide +kernel
theorem dX9_reckonGroup_162 : decode cX9_reckonGroup 162 = .ok (.getfield 47, 3) := by decide +kernel
theorem dX9_reckonGroup_165 : decode cX9_reckonGroup 165 = .ok (.iload 8, 2) := by decide +kernel
theorem dX9_reckonGroup_167 : decode cX9_reckonGroup 167 = .ok (.iaload, 1) := by decide +kernel
theorem dX9_reckonGroup_168 : decode cX9_reckonGroup 168 = .ok (.iconst 2, 1) := by decide +kernel
theorem dX9_reckonGroup_169 : decode cX9_reckonGroup 169 = .ok (.if_icmp .eq 23, 3) := by decide +kernel
theorem dX9_reckonGroup_172 : decode cX9_reckonGroup 172 = .ok (.aload_n 0, 1) := by decide +kernel
theorem dX9_reckonGroup_173 : decode cX9_reckonGroup 173 = .ok (.getfield 95, 3) := by decide +kernel
theorem dX9_reckonGroup_176 : decode cX9_reckonGroup 176 = .ok (.iload 8, 2) := by decide +kernel
theorem dX9_reckonGroup_178 : decode cX9_reckonGroup 178 = .ok (.baload, 1) := by decide +kernel
theorem dX9_reckonGroup_179 : decode cX9_reckonGroup 179 = .ok (.ifCond .eq 13, 3) := by decide +kernel
theorem dX9_reckonGroup_182 : decode cX9_reckonGroup 182 = .ok (.aload_n 0, 1) := by decide +kernel
theorem dX9_reckonGroup_183 : decode cX9_reckonGroup 183 = .ok (.getfield 99, 3) := by decide +kernel
theorem dX9_reckonGroup_186 : decode cX9_reckonGroup 186 = .ok (.iload 8, 2) := by decide +kernel
theorem dX9_reckonGroup_188 : decode cX9_reckonGroup 188 = .ok (.laload, 1) := by decide +kernel
theorem dX9_reckonGroup_189 : decode cX9_reckonGroup 189 = .ok (.goto 4, 3) := by decide +kernel
theorem dX9_reckonGroup_192 : decode cX9_reckonGroup 192 = .ok (.lconst 0, 1) := by decide +kernel
theorem dX9_reckonGroup_193 : decode cX9_reckonGroup 193 = .ok (.ladd, 1) := by decide +kernel
theorem dX9_reckonGroup_194 : decode cX9_reckonGroup 194 = .ok (.lstore 6, 2) := by decide +kernel
theorem dX9_reckonGroup_196 : decode cX9_reckonGroup 196 = .ok (.iinc 8 1, 3) := by decide +kernel
theorem dX9_reckonGroup_199 : decode cX9_reckonGroup 199 = .ok (.goto (-181), 3) := by decide +kernel
theorem dX9_reckonGroup_202 : decode cX9_reckonGroup 202 = .ok (.aload_n 0, 1) := by decide +kernel
theorem dX9_reckonGroup_203 : decode cX9_reckonGroup 203 = .ok (.getfield 56, 3) := by decide +kernel
theorem dX9_reckonGroup_206 : decode cX9_reckonGroup 206 = .ok (.iload_n 1, 1) := by decide +kernel
theorem dX9_reckonGroup_207 : decode cX9_reckonGroup 207 = .ok (.iaload, 1) := by decide +kernel
theorem dX9_reckonGroup_208 : decode cX9_reckonGroup 208 = .ok (.iconst (-1), 1) := by decide +kernel
theorem dX9_reckonGroup_209 : decode cX9_reckonGroup 209 = .ok (.if_icmp .eq 12, 3) := by decide +kernel
theorem dX9_reckonGroup_212 : decode cX9_reckonGroup 212 = .ok (.aload_n 0, 1) := by decide +kernel
theorem dX9_reckonGroup_213 : decode cX9_reckonGroup 213 = .ok (.getfield 56, 3) := by decide +kernel
theorem dX9_reckonGroup_216 : decode cX9_reckonGroup 216 = .ok (.iload_n 1, 1) := by decide +kernel
theorem dX9_reckonGroup_217 : decode cX9_reckonGroup 217 = .ok (.iaload, 1) := by decide +kernel
theorem dX9_reckonGroup_218 : decode cX9_reckonGroup 218 = .ok (.goto 16, 3) := by decide +kernel
theorem dX9_reckonGroup_221 : decode cX9_reckonGroup 221 = .ok (.iload_n 3, 1) := by decide +kernel
theorem dX9_reckonGroup_222 : decode cX9_reckonGroup 222 = .ok (.ifCond .gt 7, 3) := by decide +kernel
theorem dX9_reckonGroup_225 : decode cX9_reckonGroup 225 = .ok (.iload_n 2, 1) := by decide +kernel
theorem dX9_reckonGroup_226 : decode cX9_reckonGroup 226 = .ok (.ifCond .ne 7, 3) := by decide +kernel
theorem dX9_reckonGroup_229 : decode cX9_reckonGroup 229 = .ok (.iconst 0, 1) := by decide +kernel
theorem dX9_reckonGroup_230 : decode cX9_reckonGroup 230 = .ok (.goto 4, 3) := by decide +kernel
theorem dX9_reckonGroup_233 : decode cX9_reckonGroup 233 = .ok (.iconst 1, 1) := by decide +kernel
theorem dX9_reckonGroup_234 : decode cX9_reckonGroup 234 = .ok (.istore 8, 2) := by decide +kernel
theorem dX9_reckonGroup_236 : decode cX9_reckonGroup 236 = .ok (.aload_n 0, 1) := by decide +kernel
theorem dX9_reckonGroup_237 : decode cX9_reckonGroup 237 = .ok (.getfield 95, 3) := by decide +kernel
theorem dX9_reckonGroup_240 : decode cX9_reckonGroup 240 = .ok (.iload_n 1, 1) := by decide +kernel
theorem dX9_reckonGroup_241 : decode cX9_reckonGroup 241 = .ok (.iload 5, 2) := by decide +kernel
theorem dX9_reckonGroup_243 : decode cX9_reckonGroup 243 = .ok (.ifCond .eq 14, 3) := by decide +kernel
theorem dX9_reckonGroup_246 : decode cX9_reckonGroup 246 = .ok (.iload 4, 2) := by decide +kernel
theorem dX9_reckonGroup_248 : decode cX9_reckonGroup 248 = .ok (.iload 8, 2) := by decide +kernel
theorem dX9_reckonGroup_250 : decode cX9_reckonGroup 250 = .ok (.if_icmp .lt 7, 3) := by decide +kernel
theorem dX9_reckonGroup_253 : decode cX9_reckonGroup 253 = .ok (.iconst 1, 1) := by decide +kernel
theorem dX9_reckonGroup_254 : decode cX9_reckonGroup 254 = .ok (.goto 4, 3) := by decide +kernel
theorem dX9_reckonGroup_257 : decode cX9_reckonGroup 257 = .ok (.iconst 0, 1) := by decide +kernel
theorem dX9_reckonGroup_258 : decode cX9_reckonGroup 258 = .ok (.bastore, 1) := by decide +kernel
theorem dX9_reckonGroup_259 : decode cX9_reckonGroup 259 = .ok (.aload_n 0, 1) := by decide +kernel
theorem dX9_reckonGroup_260 : decode cX9_reckonGroup 260 = .ok (.getfield 99, 3) := by decide +kernel
theorem dX9_reckonGroup_263 : decode cX9_reckonGroup 263 = .ok (.iload_n 1, 1) := by decide +kernel
theorem dX9_reckonGroup_264 : decode cX9_reckonGroup 264 = .ok (.aload_n 0, 1) := by decide +kernel
theorem dX9_reckonGroup_265 : decode cX9_reckonGroup 265 = .ok (.getfield 95, 3) := by decide +kernel
theorem dX9_reckonGroup_268 : decode cX9_reckonGroup 268 = .ok (.iload_n 1, 1) := by decide +kernel
theorem dX9_reckonGroup_269 : decode cX9_reckonGroup 269 = .ok (.baload, 1) := by decide +kernel
theorem dX9_reckonGroup_270 : decode cX9_reckonGroup 270 = .ok (.ifCond .eq 16, 3) := by decide +kernel
theorem dX9_reckonGroup_273 : decode cX9_reckonGroup 273 = .ok (.aload_n 0, 1) := by decide +kernel
theorem dX9_reckonGroup_274 : decode cX9_reckonGroup 274 = .ok (.getfield 50, 3) := by decide +kernel
theorem dX9_reckonGroup_277 : decode cX9_reckonGroup 277 = .ok (.iload_n 1, 1) := by decide +kernel
theorem dX9_reckonGroup_278 : decode cX9_reckonGroup 278 = .ok (.iaload, 1) := by decide +kernel
theorem dX9_reckonGroup_279 : decode cX9_reckonGroup 279 = .ok (.i2l, 1) := by decide +kernel
theorem dX9_reckonGroup_280 : decode cX9_reckonGroup 280 = .ok (.lload 6, 2) := by decide +kernel
theorem dX9_reckonGroup_282 : decode cX9_reckonGroup 282 = .ok (.lmul, 1) := by decide +kernel
theorem dX9_reckonGroup_283 : decode cX9_reckonGroup 283 = .ok (.goto 4, 3) := by decide +kernel
theorem dX9_reckonGroup_286 : decode cX9_reckonGroup 286 = .ok (.lconst 0, 1) := by decide +kernel
theorem dX9_reckonGroup_287 : decode cX9_reckonGroup 287 = .ok (.lastore, 1) := by decide +kernel
theorem dX9_reckonGroup_288 : decode cX9_reckonGroup 288 = .ok (.return_, 1) := by decide +kernel
theorem dX9_reckon_0 : decode cX9_reckon 0 = .ok (.iconst 0, 1) := by decide +kernel
theorem dX9_reckon_1 : decode cX9_reckon 1 = .ok (.istore_n 2, 1) := by decide +kernel
theorem dX9_reckon_2 : decode cX9_reckon 2 = .ok (.iload_n 2, 1) := by decide +kernel
theorem dX9_reckon_3 : decode cX9_reckon 3 = .ok (.aload_n 0, 1) := by decide +kernel
theorem dX9_reckon_4 : decode cX9_reckon 4 = .ok (.getfield 112, 3) := by decide +kernel
theorem dX9_reckon_7 : decode cX9_reckon 7 = .ok (.if_icmp .ge 49, 3) := by decide +kernel
theorem dX9_reckon_10 : decode cX9_reckon 10 = .ok (.aload_n 0, 1) := by decide +kernel
theorem dX9_reckon_11 : decode cX9_reckon 11 = .ok (.getfield 103, 3) := by decide +kernel
theorem dX9_reckon_14 : decode cX9_reckon 14 = .ok (.iload_n 2, 1) := by decide +kernel
theorem dX9_reckon_15 : decode cX9_reckon 15 = .ok (.aload_n 0, 1) := by decide +kernel
theorem dX9_reckon_16 : decode cX9_reckon 16 = .ok (.getfield 53, 3) := by decide +kernel
theorem dX9_reckon_19 : decode cX9_reckon 19 = .ok (.iload_n 2, 1) := by decide +kernel
theorem dX9_reckon_20 : decode cX9_reckon 20 = .ok (.iaload, 1) := by decide +kernel
theorem dX9_reckon_21 : decode cX9_reckon 21 = .ok (.iconst (-1), 1) := by decide +kernel
theorem dX9_reckon_22 : decode cX9_reckon 22 = .ok (.if_icmp .ne 7, 3) := by decide +kernel
theorem dX9_reckon_25 : decode cX9_reckon 25 = .ok (.iload_n 2, 1) := by decide +kernel
theorem dX9_reckon_26 : decode cX9_reckon 26 = .ok (.ifCond .ne 12, 3) := by decide +kernel
theorem dX9_reckon_29 : decode cX9_reckon 29 = .ok (.aload_n 0, 1) := by decide +kernel
theorem dX9_reckon_30 : decode cX9_reckon 30 = .ok (.getfield 53, 3) := by decide +kernel
theorem dX9_reckon_33 : decode cX9_reckon 33 = .ok (.iload_n 2, 1) := by decide +kernel
theorem dX9_reckon_34 : decode cX9_reckon 34 = .ok (.iaload, 1) := by decide +kernel
theorem dX9_reckon_35 : decode cX9_reckon 35 = .ok (.goto 14, 3) := by decide +kernel
theorem dX9_reckon_38 : decode cX9_reckon 38 = .ok (.aload_n 0, 1) := by decide +kernel
theorem dX9_reckon_39 : decode cX9_reckon 39 = .ok (.getfield 103, 3) := by decide +kernel
theorem dX9_reckon_42 : decode cX9_reckon 42 = .ok (.aload_n 0, 1) := by decide +kernel
theorem dX9_reckon_43 : decode cX9_reckon 43 = .ok (.getfield 59, 3) := by decide +kernel
theorem dX9_reckon_46 : decode cX9_reckon 46 = .ok (.iload_n 2, 1) := by decide +kernel
theorem dX9_reckon_47 : decode cX9_reckon 47 = .ok (.iaload, 1) := by decide +kernel
theorem dX9_reckon_48 : decode cX9_reckon 48 = .ok (.iaload, 1) := by decide +kernel
theorem dX9_reckon_49 : decode cX9_reckon 49 = .ok (.iastore, 1) := by decide +kernel
theorem dX9_reckon_50 : decode cX9_reckon 50 = .ok (.iinc 2 1, 3) := by decide +kernel
theorem dX9_reckon_53 : decode cX9_reckon 53 = .ok (.goto (-51), 3) := by decide +kernel
theorem dX9_reckon_56 : decode cX9_reckon 56 = .ok (.aload_n 0, 1) := by decide +kernel
theorem dX9_reckon_57 : decode cX9_reckon 57 = .ok (.getfield 112, 3) := by decide +kernel
theorem dX9_reckon_60 : decode cX9_reckon 60 = .ok (.iconst 1, 1) := by decide +kernel
theorem dX9_reckon_61 : decode cX9_reckon 61 = .ok (.isub, 1) := by decide +kernel
theorem dX9_reckon_62 : decode cX9_reckon 62 = .ok (.istore_n 2, 1) := by decide +kernel
theorem dX9_reckon_63 : decode cX9_reckon 63 = .ok (.iload_n 2, 1) := by decide +kernel
theorem dX9_reckon_64 : decode cX9_reckon 64 = .ok (.ifCond .lt 65, 3) := by decide +kernel
theorem dX9_reckon_67 : decode cX9_reckon 67 = .ok (.aload_n 0, 1) := by decide +kernel
theorem dX9_reckon_68 : decode cX9_reckon 68 = .ok (.getfield 44, 3) := by decide +kernel
theorem dX9_reckon_71 : decode cX9_reckon 71 = .ok (.iload_n 2, 1) := by decide +kernel
theorem dX9_reckon_72 : decode cX9_reckon 72 = .ok (.iaload, 1) := by decide +kernel
theorem dX9_reckon_73 : decode cX9_reckon 73 = .ok (.iconst 3, 1) := by decide +kernel
theorem dX9_reckon_74 : decode cX9_reckon 74 = .ok (.if_icmp .ne 11, 3) := by decide +kernel
theorem dX9_reckon_77 : decode cX9_reckon 77 = .ok (.aload_n 0, 1) := by decide +kernel
theorem dX9_reckon_78 : decode cX9_reckon 78 = .ok (.iload_n 2, 1) := by decide +kernel
theorem dX9_reckon_79 : decode cX9_reckon 79 = .ok (.invokevirtual 239, 3) := by decide +kernel
theorem dX9_reckon_82 : decode cX9_reckon 82 = .ok (.goto 41, 3) := by decide +kernel
theorem dX9_reckon_85 : decode cX9_reckon 85 = .ok (.aload_n 0, 1) := by decide +kernel
theorem dX9_reckon_86 : decode cX9_reckon 86 = .ok (.iload_n 2, 1) := by decide +kernel
theorem dX9_reckon_87 : decode cX9_reckon 87 = .ok (.iload_n 1, 1) := by decide +kernel
theorem dX9_reckon_88 : decode cX9_reckon 88 = .ok (.invokevirtual 242, 3) := by decide +kernel
theorem dX9_reckon_91 : decode cX9_reckon 91 = .ok (.istore_n 3, 1) := by decide +kernel
theorem dX9_reckon_92 : decode cX9_reckon 92 = .ok (.aload_n 0, 1) := by decide +kernel
theorem dX9_reckon_93 : decode cX9_reckon 93 = .ok (.getfield 95, 3) := by decide +kernel
theorem dX9_reckon_96 : decode cX9_reckon 96 = .ok (.iload_n 2, 1) := by decide +kernel
theorem dX9_reckon_97 : decode cX9_reckon 97 = .ok (.iload_n 3, 1) := by decide +kernel
theorem dX9_reckon_98 : decode cX9_reckon 98 = .ok (.ifCond .le 7, 3) := by decide +kernel
theorem dX9_reckon_101 : decode cX9_reckon 101 = .ok (.iconst 1, 1) := by decide +kernel
theorem dX9_reckon_102 : decode cX9_reckon 102 = .ok (.goto 4, 3) := by decide +kernel
theorem dX9_reckon_105 : decode cX9_reckon 105 = .ok (.iconst 0, 1) := by decide +kernel
theorem dX9_reckon_106 : decode cX9_reckon 106 = .ok (.bastore, 1) := by decide +kernel
theorem dX9_reckon_107 : decode cX9_reckon 107 = .ok (.aload_n 0, 1) := by decide +kernel
theorem dX9_reckon_108 : decode cX9_reckon 108 = .ok (.getfield 99, 3) := by decide +kernel
theorem dX9_reckon_111 : decode cX9_reckon 111 = .ok (.iload_n 2, 1) := by decide +kernel
theorem dX9_reckon_112 : decode cX9_reckon 112 = .ok (.aload_n 0, 1) := by decide +kernel
theorem dX9_reckon_113 : decode cX9_reckon 113 = .ok (.getfield 50, 3) := by decide +kernel
theorem dX9_reckon_116 : decode cX9_reckon 116 = .ok (.iload_n 2, 1) := by decide +kernel
theorem dX9_reckon_117 : decode cX9_reckon 117 = .ok (.iaload, 1) := by decide +kernel
theorem dX9_reckon_118 : decode cX9_reckon 118 = .ok (.i2l, 1) := by decide +kernel
theorem dX9_reckon_119 : decode cX9_reckon 119 = .ok (.iload_n 3, 1) := by decide +kernel
theorem dX9_reckon_120 : decode cX9_reckon 120 = .ok (.i2l, 1) := by decide +kernel
theorem dX9_reckon_121 : decode cX9_reckon 121 = .ok (.lmul, 1) := by decide +kernel
theorem dX9_reckon_122 : decode cX9_reckon 122 = .ok (.lastore, 1) := by decide +kernel
theorem dX9_reckon_123 : decode cX9_reckon 123 = .ok (.iinc 2 (-1), 3) := by decide +kernel
theorem dX9_reckon_126 : decode cX9_reckon 126 = .ok (.goto (-63), 3) := by decide +kernel
theorem dX9_reckon_129 : decode cX9_reckon 129 = .ok (.return_, 1) := by decide +kernel
theorem dX9_fits_0 : decode cX9_fits 0 = .ok (.aload_n 0, 1) := by decide +kernel
theorem dX9_fits_1 : decode cX9_fits 1 = .ok (.iconst 0, 1) := by decide +kernel
theorem dX9_fits_2 : decode cX9_fits 2 = .ok (.putfield 1, 3) := by decide +kernel
theorem dX9_fits_5 : decode cX9_fits 5 = .ok (.aload_n 0, 1) := by decide +kernel
theorem dX9_fits_6 : decode cX9_fits 6 = .ok (.iload_n 1, 1) := by decide +kernel
theorem dX9_fits_7 : decode cX9_fits 7 = .ok (.invokevirtual 193, 3) := by decide +kernel
theorem dX9_fits_10 : decode cX9_fits 10 = .ok (.ifCond .eq 10, 3) := by decide +kernel
theorem dX9_fits_13 : decode cX9_fits 13 = .ok (.iload_n 2, 1) := by decide +kernel
theorem dX9_fits_14 : decode cX9_fits 14 = .ok (.invokestatic 214, 3) := by decide +kernel
theorem dX9_fits_17 : decode cX9_fits 17 = .ok (.ifCond .ne 6, 3) := by decide +kernel
theorem dX9_fits_20 : decode cX9_fits 20 = .ok (.bipush (-101), 2) := by decide +kernel
theorem dX9_fits_22 : decode cX9_fits 22 = .ok (.ireturn, 1) := by decide +kernel
theorem dX9_fits_23 : decode cX9_fits 23 = .ok (.aload_n 0, 1) := by decide +kernel
theorem dX9_fits_24 : decode cX9_fits 24 = .ok (.iload_n 2, 1) := by decide +kernel
theorem dX9_fits_25 : decode cX9_fits 25 = .ok (.invokevirtual 245, 3) := by decide +kernel
theorem dX9_fits_28 : decode cX9_fits 28 = .ok (.aload_n 0, 1) := by decide +kernel
theorem dX9_fits_29 : decode cX9_fits 29 = .ok (.getfield 95, 3) := by decide +kernel
theorem dX9_fits_32 : decode cX9_fits 32 = .ok (.iload_n 1, 1) := by decide +kernel
theorem dX9_fits_33 : decode cX9_fits 33 = .ok (.baload, 1) := by decide +kernel
theorem dX9_fits_34 : decode cX9_fits 34 = .ok (.ifCond .eq 7, 3) := by decide +kernel
theorem dX9_fits_37 : decode cX9_fits 37 = .ok (.iconst 1, 1) := by decide +kernel
theorem dX9_fits_38 : decode cX9_fits 38 = .ok (.goto 4, 3) := by decide +kernel
theorem dX9_fits_41 : decode cX9_fits 41 = .ok (.iconst 0, 1) := by decide +kernel
theorem dX9_fits_42 : decode cX9_fits 42 = .ok (.ireturn, 1) := by decide +kernel
theorem dX9_worth_0 : decode cX9_worth 0 = .ok (.aload_n 0, 1) := by decide +kernel
theorem dX9_worth_1 : decode cX9_worth 1 = .ok (.iconst 0, 1) := by decide +kernel
theorem dX9_worth_2 : decode cX9_worth 2 = .ok (.putfield 1, 3) := by decide +kernel
theorem dX9_worth_5 : decode cX9_worth 5 = .ok (.aload_n 0, 1) := by decide +kernel
theorem dX9_worth_6 : decode cX9_worth 6 = .ok (.iload_n 1, 1) := by decide +kernel
theorem dX9_worth_7 : decode cX9_worth 7 = .ok (.invokevirtual 193, 3) := by decide +kernel
theorem dX9_worth_10 : decode cX9_worth 10 = .ok (.ifCond .eq 10, 3) := by decide +kernel
theorem dX9_worth_13 : decode cX9_worth 13 = .ok (.iload_n 2, 1) := by decide +kernel
theorem dX9_worth_14 : decode cX9_worth 14 = .ok (.invokestatic 214, 3) := by decide +kernel
theorem dX9_worth_17 : decode cX9_worth 17 = .ok (.ifCond .ne 7, 3) := by decide +kernel
theorem dX9_worth_20 : decode cX9_worth 20 = .ok (.ldc2_w 248, 3) := by decide +kernel
theorem dX9_worth_23 : decode cX9_worth 23 = .ok (.lreturn, 1) := by decide +kernel
theorem dX9_worth_24 : decode cX9_worth 24 = .ok (.aload_n 0, 1) := by decide +kernel
theorem dX9_worth_25 : decode cX9_worth 25 = .ok (.iload_n 2, 1) := by decide +kernel
theorem dX9_worth_26 : decode cX9_worth 26 = .ok (.invokevirtual 245, 3) := by decide +kernel
theorem dX9_worth_29 : decode cX9_worth 29 = .ok (.aload_n 0, 1) := by decide +kernel
theorem dX9_worth_30 : decode cX9_worth 30 = .ok (.getfield 99, 3) := by decide +kernel
theorem dX9_worth_33 : decode cX9_worth 33 = .ok (.iload_n 1, 1) := by decide +kernel
theorem dX9_worth_34 : decode cX9_worth 34 = .ok (.laload, 1) := by decide +kernel
theorem dX9_worth_35 : decode cX9_worth 35 = .ok (.lreturn, 1) := by decide +kernel
theorem dX9_ratio_0 : decode cX9_ratio 0 = .ok (.aload_n 0, 1) := by decide +kernel
theorem dX9_ratio_1 : decode cX9_ratio 1 = .ok (.iconst 0, 1) := by decide +kernel
theorem dX9_ratio_2 : decode cX9_ratio 2 = .ok (.putfield 1, 3) := by decide +kernel
theorem dX9_ratio_5 : decode cX9_ratio 5 = .ok (.iload_n 1, 1) := by decide +kernel
theorem dX9_ratio_6 : decode cX9_ratio 6 = .ok (.invokestatic 214, 3) := by decide +kernel
theorem dX9_ratio_9 : decode cX9_ratio 9 = .ok (.ifCond .eq 10, 3) := by decide +kernel
theorem dX9_ratio_12 : decode cX9_ratio 12 = .ok (.iload_n 2, 1) := by decide +kernel
theorem dX9_ratio_13 : decode cX9_ratio 13 = .ok (.invokestatic 214, 3) := by decide +kernel
theorem dX9_ratio_16 : decode cX9_ratio 16 = .ok (.ifCond .ne 7, 3) := by decide +kernel
theorem dX9_ratio_19 : decode cX9_ratio 19 = .ok (.ldc2_w 248, 3) := by decide +kernel
theorem dX9_ratio_22 : decode cX9_ratio 22 = .ok (.lreturn, 1) := by decide +kernel
theorem dX9_ratio_23 : decode cX9_ratio 23 = .ok (.aload_n 0, 1) := by decide +kernel
theorem dX9_ratio_24 : decode cX9_ratio 24 = .ok (.getfield 112, 3) := by decide +kernel
theorem dX9_ratio_27 : decode cX9_ratio 27 = .ok (.ifCond .ne 7, 3) := by decide +kernel
theorem dX9_ratio_30 : decode cX9_ratio 30 = .ok (.ldc2_w 250, 3) := by decide +kernel
theorem dX9_ratio_33 : decode cX9_ratio 33 = .ok (.lreturn, 1) := by decide +kernel
theorem dX9_ratio_34 : decode cX9_ratio 34 = .ok (.aload_n 0, 1) := by decide +kernel
theorem dX9_ratio_35 : decode cX9_ratio 35 = .ok (.iload_n 2, 1) := by decide +kernel
theorem dX9_ratio_36 : decode cX9_ratio 36 = .ok (.invokevirtual 245, 3) := by decide +kernel
theorem dX9_ratio_39 : decode cX9_ratio 39 = .ok (.aload_n 0, 1) := by decide +kernel
theorem dX9_ratio_40 : decode cX9_ratio 40 = .ok (.getfield 99, 3) := by decide +kernel
theorem dX9_ratio_43 : decode cX9_ratio 43 = .ok (.iconst 0, 1) := by decide +kernel
theorem dX9_ratio_44 : decode cX9_ratio 44 = .ok (.laload, 1) := by decide +kernel
theorem dX9_ratio_45 : decode cX9_ratio 45 = .ok (.lstore_n 3, 1) := by decide +kernel
theorem dX9_ratio_46 : decode cX9_ratio 46 = .ok (.aload_n 0, 1) := by decide +kernel
theorem dX9_ratio_47 : decode cX9_ratio 47 = .ok (.iload_n 1, 1) := by decide +kernel
theorem dX9_ratio_48 : decode cX9_ratio 48 = .ok (.invokevirtual 245, 3) := by decide +kernel
theorem dX9_ratio_51 : decode cX9_ratio 51 = .ok (.aload_n 0, 1) := by decide +kernel
theorem dX9_ratio_52 : decode cX9_ratio 52 = .ok (.lload_n 3, 1) := by decide +kernel
theorem dX9_ratio_53 : decode cX9_ratio 53 = .ok (.lconst 0, 1) := by decide +kernel
theorem dX9_ratio_54 : decode cX9_ratio 54 = .ok (.lcmp, 1) := by decide +kernel
theorem dX9_ratio_55 : decode cX9_ratio 55 = .ok (.ifCond .ne 7, 3) := by decide +kernel
theorem dX9_ratio_58 : decode cX9_ratio 58 = .ok (.iconst 1, 1) := by decide +kernel
theorem dX9_ratio_59 : decode cX9_ratio 59 = .ok (.goto 4, 3) := by decide +kernel
theorem dX9_ratio_62 : decode cX9_ratio 62 = .ok (.iconst 0, 1) := by decide +kernel
theorem dX9_ratio_63 : decode cX9_ratio 63 = .ok (.putfield 1, 3) := by decide +kernel
theorem dX9_ratio_66 : decode cX9_ratio 66 = .ok (.aload_n 0, 1) := by decide +kernel
theorem dX9_ratio_67 : decode cX9_ratio 67 = .ok (.getfield 1, 3) := by decide +kernel
theorem dX9_ratio_70 : decode cX9_ratio 70 = .ok (.ifCond .le 7, 3) := by decide +kernel
theorem dX9_ratio_73 : decode cX9_ratio 73 = .ok (.lconst 0, 1) := by decide +kernel
theorem dX9_ratio_74 : decode cX9_ratio 74 = .ok (.goto 11, 3) := by decide +kernel
theorem dX9_ratio_77 : decode cX9_ratio 77 = .ok (.aload_n 0, 1) := by decide +kernel
theorem dX9_ratio_78 : decode cX9_ratio 78 = .ok (.getfield 99, 3) := by decide +kernel
theorem dX9_ratio_81 : decode cX9_ratio 81 = .ok (.iconst 0, 1) := by decide +kernel
theorem dX9_ratio_82 : decode cX9_ratio 82 = .ok (.laload, 1) := by decide +kernel
theorem dX9_ratio_83 : decode cX9_ratio 83 = .ok (.lload_n 3, 1) := by decide +kernel
theorem dX9_ratio_84 : decode cX9_ratio 84 = .ok (.ldiv, 1) := by decide +kernel
theorem dX9_ratio_85 : decode cX9_ratio 85 = .ok (.lreturn, 1) := by decide +kernel
theorem dX9_why_0 : decode cX9_why 0 = .ok (.aload_n 0, 1) := by decide +kernel
theorem dX9_why_1 : decode cX9_why 1 = .ok (.iconst 0, 1) := by decide +kernel
theorem dX9_why_2 : decode cX9_why 2 = .ok (.putfield 1, 3) := by decide +kernel
theorem dX9_why_5 : decode cX9_why 5 = .ok (.iload_n 1, 1) := by decide +kernel
theorem dX9_why_6 : decode cX9_why 6 = .ok (.invokestatic 214, 3) := by decide +kernel
theorem dX9_why_9 : decode cX9_why 9 = .ok (.ifCond .ne 6, 3) := by decide +kernel
theorem dX9_why_12 : decode cX9_why 12 = .ok (.bipush (-101), 2) := by decide +kernel
theorem dX9_why_14 : decode cX9_why 14 = .ok (.ireturn, 1) := by decide +kernel
theorem dX9_why_15 : decode cX9_why 15 = .ok (.aload_n 0, 1) := by decide +kernel
theorem dX9_why_16 : decode cX9_why 16 = .ok (.getfield 112, 3) := by decide +kernel
theorem dX9_why_19 : decode cX9_why 19 = .ok (.ifCond .ne 6, 3) := by decide +kernel
theorem dX9_why_22 : decode cX9_why 22 = .ok (.bipush (-104), 2) := by decide +kernel
theorem dX9_why_24 : decode cX9_why 24 = .ok (.ireturn, 1) := by decide +kernel
theorem dX9_why_25 : decode cX9_why 25 = .ok (.aload_n 0, 1) := by decide +kernel
theorem dX9_why_26 : decode cX9_why 26 = .ok (.iload_n 1, 1) := by decide +kernel
theorem dX9_why_27 : decode cX9_why 27 = .ok (.invokevirtual 245, 3) := by decide +kernel
theorem dX9_why_30 : decode cX9_why 30 = .ok (.aload_n 0, 1) := by decide +kernel
theorem dX9_why_31 : decode cX9_why 31 = .ok (.getfield 95, 3) := by decide +kernel
theorem dX9_why_34 : decode cX9_why 34 = .ok (.iconst 0, 1) := by decide +kernel
theorem dX9_why_35 : decode cX9_why 35 = .ok (.baload, 1) := by decide +kernel
theorem dX9_why_36 : decode cX9_why 36 = .ok (.ifCond .eq 5, 3) := by decide +kernel
theorem dX9_why_39 : decode cX9_why 39 = .ok (.iconst (-1), 1) := by decide +kernel
theorem dX9_why_40 : decode cX9_why 40 = .ok (.ireturn, 1) := by decide +kernel
theorem dX9_why_41 : decode cX9_why 41 = .ok (.iconst (-1), 1) := by decide +kernel
theorem dX9_why_42 : decode cX9_why 42 = .ok (.istore_n 2, 1) := by decide +kernel
theorem dX9_why_43 : decode cX9_why 43 = .ok (.iconst 1, 1) := by decide +kernel
theorem dX9_why_44 : decode cX9_why 44 = .ok (.istore_n 3, 1) := by decide +kernel
theorem dX9_why_45 : decode cX9_why 45 = .ok (.iload_n 3, 1) := by decide +kernel
theorem dX9_why_46 : decode cX9_why 46 = .ok (.aload_n 0, 1) := by decide +kernel
theorem dX9_why_47 : decode cX9_why 47 = .ok (.getfield 112, 3) := by decide +kernel
theorem dX9_why_50 : decode cX9_why 50 = .ok (.if_icmp .ge 78, 3) := by decide +kernel
theorem dX9_why_53 : decode cX9_why 53 = .ok (.aload_n 0, 1) := by decide +kernel
theorem dX9_why_54 : decode cX9_why 54 = .ok (.getfield 59, 3) := by decide +kernel
theorem dX9_why_57 : decode cX9_why 57 = .ok (.iload_n 3, 1) := by decide +kernel
theorem dX9_why_58 : decode cX9_why 58 = .ok (.iaload, 1) := by decide +kernel
theorem dX9_why_59 : decode cX9_why 59 = .ok (.ifCond .ne 24, 3) := by decide +kernel
theorem dX9_why_62 : decode cX9_why 62 = .ok (.aload_n 0, 1) := by decide +kernel
theorem dX9_why_63 : decode cX9_why 63 = .ok (.getfield 47, 3) := by decide +kernel
theorem dX9_why_66 : decode cX9_why 66 = .ok (.iload_n 3, 1) := by decide +kernel
theorem dX9_why_67 : decode cX9_why 67 = .ok (.iaload, 1) := by decide +kernel
theorem dX9_why_68 : decode cX9_why 68 = .ok (.iconst 1, 1) := by decide +kernel
theorem dX9_why_69 : decode cX9_why 69 = .ok (.if_icmp .ne 14, 3) := by decide +kernel
theorem dX9_why_72 : decode cX9_why 72 = .ok (.aload_n 0, 1) := by decide +kernel
theorem dX9_why_73 : decode cX9_why 73 = .ok (.getfield 95, 3) := by decide +kernel
theorem dX9_why_76 : decode cX9_why 76 = .ok (.iload_n 3, 1) := by decide +kernel
theorem dX9_why_77 : decode cX9_why 77 = .ok (.baload, 1) := by decide +kernel
theorem dX9_why_78 : decode cX9_why 78 = .ok (.ifCond .ne 5, 3) := by decide +kernel
theorem dX9_why_81 : decode cX9_why 81 = .ok (.iload_n 3, 1) := by decide +kernel
theorem dX9_why_82 : decode cX9_why 82 = .ok (.ireturn, 1) := by decide +kernel
theorem dX9_why_83 : decode cX9_why 83 = .ok (.iload_n 2, 1) := by decide +kernel
theorem dX9_why_84 : decode cX9_why 84 = .ok (.iconst (-1), 1) := by decide +kernel
theorem dX9_why_85 : decode cX9_why 85 = .ok (.if_icmp .ne 35, 3) := by decide +kernel
theorem dX9_why_88 : decode cX9_why 88 = .ok (.aload_n 0, 1) := by decide +kernel
theorem dX9_why_89 : decode cX9_why 89 = .ok (.getfield 59, 3) := by decide +kernel
theorem dX9_why_92 : decode cX9_why 92 = .ok (.iload_n 3, 1) := by decide +kernel
theorem dX9_why_93 : decode cX9_why 93 = .ok (.iaload, 1) := by decide +kernel
theorem dX9_why_94 : decode cX9_why 94 = .ok (.ifCond .ne 26, 3) := by decide +kernel
theorem dX9_why_97 : decode cX9_why 97 = .ok (.aload_n 0, 1) := by decide +kernel
theorem dX9_why_98 : decode cX9_why 98 = .ok (.getfield 47, 3) := by decide +kernel
theorem dX9_why_101 : decode cX9_why 101 = .ok (.iload_n 3, 1) := by decide +kernel
theorem dX9_why_102 : decode cX9_why 102 = .ok (.iaload, 1) := by decide +kernel
theorem dX9_why_103 : decode cX9_why 103 = .ok (.iconst 2, 1) := by decide +kernel
theorem dX9_why_104 : decode cX9_why 104 = .ok (.if_icmp .ne 16, 3) := by decide +kernel
theorem dX9_why_107 : decode cX9_why 107 = .ok (.aload_n 0, 1) := by decide +kernel
theorem dX9_why_108 : decode cX9_why 108 = .ok (.getfield 95, 3) := by decide +kernel
theorem dX9_why_111 : decode cX9_why 111 = .ok (.iload_n 3, 1) := by decide +kernel
theorem dX9_why_112 : decode cX9_why 112 = .ok (.baload, 1) := by decide +kernel
theorem dX9_why_113 : decode cX9_why 113 = .ok (.ifCond .eq 7, 3) := by decide +kernel
theorem dX9_why_116 : decode cX9_why 116 = .ok (.iload_n 3, 1) := by decide +kernel
theorem dX9_why_117 : decode cX9_why 117 = .ok (.goto 4, 3) := by decide +kernel
theorem dX9_why_120 : decode cX9_why 120 = .ok (.iload_n 2, 1) := by decide +kernel
theorem dX9_why_121 : decode cX9_why 121 = .ok (.istore_n 2, 1) := by decide +kernel
theorem dX9_why_122 : decode cX9_why 122 = .ok (.iinc 3 1, 3) := by decide +kernel
theorem dX9_why_125 : decode cX9_why 125 = .ok (.goto (-80), 3) := by decide +kernel
theorem dX9_why_128 : decode cX9_why 128 = .ok (.iload_n 2, 1) := by decide +kernel
theorem dX9_why_129 : decode cX9_why 129 = .ok (.iconst (-1), 1) := by decide +kernel
theorem dX9_why_130 : decode cX9_why 130 = .ok (.if_icmp .ne 7, 3) := by decide +kernel
theorem dX9_why_133 : decode cX9_why 133 = .ok (.iconst 0, 1) := by decide +kernel
theorem dX9_why_134 : decode cX9_why 134 = .ok (.goto 4, 3) := by decide +kernel
theorem dX9_why_137 : decode cX9_why 137 = .ok (.iload_n 2, 1) := by decide +kernel
theorem dX9_why_138 : decode cX9_why 138 = .ok (.ireturn, 1) := by decide +kernel
theorem dX9_rank_0 : decode cX9_rank 0 = .ok (.aload_n 0, 1) := by decide +kernel
theorem dX9_rank_1 : decode cX9_rank 1 = .ok (.iconst 0, 1) := by decide +kernel
theorem dX9_rank_2 : decode cX9_rank 2 = .ok (.putfield 1, 3) := by decide +kernel
theorem dX9_rank_5 : decode cX9_rank 5 = .ok (.aload_n 0, 1) := by decide +kernel
theorem dX9_rank_6 : decode cX9_rank 6 = .ok (.getfield 112, 3) := by decide +kernel
theorem dX9_rank_9 : decode cX9_rank 9 = .ok (.ifCond .ne 6, 3) := by decide +kernel
theorem dX9_rank_12 : decode cX9_rank 12 = .ok (.bipush (-104), 2) := by decide +kernel
theorem dX9_rank_14 : decode cX9_rank 14 = .ok (.ireturn, 1) := by decide +kernel
theorem dX9_rank_15 : decode cX9_rank 15 = .ok (.iconst 0, 1) := by decide +kernel
theorem dX9_rank_16 : decode cX9_rank 16 = .ok (.istore_n 2, 1) := by decide +kernel
theorem dX9_rank_17 : decode cX9_rank 17 = .ok (.iload_n 2, 1) := by decide +kernel
theorem dX9_rank_18 : decode cX9_rank 18 = .ok (.bipush 8, 2) := by decide +kernel
theorem dX9_rank_20 : decode cX9_rank 20 = .ok (.if_icmp .ge 38, 3) := by decide +kernel
theorem dX9_rank_23 : decode cX9_rank 23 = .ok (.aload_n 0, 1) := by decide +kernel
theorem dX9_rank_24 : decode cX9_rank 24 = .ok (.iload_n 2, 1) := by decide +kernel
theorem dX9_rank_25 : decode cX9_rank 25 = .ok (.invokevirtual 245, 3) := by decide +kernel
theorem dX9_rank_28 : decode cX9_rank 28 = .ok (.aload_n 0, 1) := by decide +kernel
theorem dX9_rank_29 : decode cX9_rank 29 = .ok (.getfield 106, 3) := by decide +kernel
theorem dX9_rank_32 : decode cX9_rank 32 = .ok (.iload_n 2, 1) := by decide +kernel
theorem dX9_rank_33 : decode cX9_rank 33 = .ok (.aload_n 0, 1) := by decide +kernel
theorem dX9_rank_34 : decode cX9_rank 34 = .ok (.getfield 95, 3) := by decide +kernel
theorem dX9_rank_37 : decode cX9_rank 37 = .ok (.iconst 0, 1) := by decide +kernel
theorem dX9_rank_38 : decode cX9_rank 38 = .ok (.baload, 1) := by decide +kernel
theorem dX9_rank_39 : decode cX9_rank 39 = .ok (.bastore, 1) := by decide +kernel
theorem dX9_rank_40 : decode cX9_rank 40 = .ok (.aload_n 0, 1) := by decide +kernel
theorem dX9_rank_41 : decode cX9_rank 41 = .ok (.getfield 109, 3) := by decide +kernel
theorem dX9_rank_44 : decode cX9_rank 44 = .ok (.iload_n 2, 1) := by decide +kernel
theorem dX9_rank_45 : decode cX9_rank 45 = .ok (.aload_n 0, 1) := by decide +kernel
theorem dX9_rank_46 : decode cX9_rank 46 = .ok (.getfield 99, 3) := by decide +kernel
theorem dX9_rank_49 : decode cX9_rank 49 = .ok (.iconst 0, 1) := by decide +kernel
theorem dX9_rank_50 : decode cX9_rank 50 = .ok (.laload, 1) := by decide +kernel
theorem dX9_rank_51 : decode cX9_rank 51 = .ok (.lastore, 1) := by decide +kernel
theorem dX9_rank_52 : decode cX9_rank 52 = .ok (.iinc 2 1, 3) := by decide +kernel
theorem dX9_rank_55 : decode cX9_rank 55 = .ok (.goto (-38), 3) := by decide +kernel
theorem dX9_rank_58 : decode cX9_rank 58 = .ok (.iconst 0, 1) := by decide +kernel
theorem dX9_rank_59 : decode cX9_rank 59 = .ok (.istore_n 2, 1) := by decide +kernel
theorem dX9_rank_60 : decode cX9_rank 60 = .ok (.iload_n 2, 1) := by decide +kernel
theorem dX9_rank_61 : decode cX9_rank 61 = .ok (.bipush 8, 2) := by decide +kernel
theorem dX9_rank_63 : decode cX9_rank 63 = .ok (.if_icmp .ge 113, 3) := by decide +kernel
theorem dX9_rank_66 : decode cX9_rank 66 = .ok (.iconst 0, 1) := by decide +kernel
theorem dX9_rank_67 : decode cX9_rank 67 = .ok (.istore_n 3, 1) := by decide +kernel
theorem dX9_rank_68 : decode cX9_rank 68 = .ok (.iconst 0, 1) := by decide +kernel
theorem dX9_rank_69 : decode cX9_rank 69 = .ok (.istore 4, 2) := by decide +kernel
theorem dX9_rank_71 : decode cX9_rank 71 = .ok (.iload 4, 2) := by decide +kernel
theorem dX9_rank_73 : decode cX9_rank 73 = .ok (.bipush 8, 2) := by decide +kernel
theorem dX9_rank_75 : decode cX9_rank 75 = .ok (.if_icmp .ge 79, 3) := by decide +kernel
theorem dX9_rank_78 : decode cX9_rank 78 = .ok (.aload_n 0, 1) := by decide +kernel
theorem dX9_rank_79 : decode cX9_rank 79 = .ok (.getfield 106, 3) := by decide +kernel
theorem dX9_rank_82 : decode cX9_rank 82 = .ok (.iload 4, 2) := by decide +kernel
theorem dX9_rank_84 : decode cX9_rank 84 = .ok (.baload, 1) := by decide +kernel
theorem dX9_rank_85 : decode cX9_rank 85 = .ok (.ifCond .eq 47, 3) := by decide +kernel
theorem dX9_rank_88 : decode cX9_rank 88 = .ok (.aload_n 0, 1) := by decide +kernel
theorem dX9_rank_89 : decode cX9_rank 89 = .ok (.getfield 109, 3) := by decide +kernel
theorem dX9_rank_92 : decode cX9_rank 92 = .ok (.iload 4, 2) := by decide +kernel
theorem dX9_rank_94 : decode cX9_rank 94 = .ok (.laload, 1) := by decide +kernel
theorem dX9_rank_95 : decode cX9_rank 95 = .ok (.aload_n 0, 1) := by decide +kernel
theorem dX9_rank_96 : decode cX9_rank 96 = .ok (.getfield 109, 3) := by decide +kernel
theorem dX9_rank_99 : decode cX9_rank 99 = .ok (.iload_n 2, 1) := by decide +kernel
theorem dX9_rank_100 : decode cX9_rank 100 = .ok (.laload, 1) := by decide +kernel
theorem dX9_rank_101 : decode cX9_rank 101 = .ok (.lcmp, 1) := by decide +kernel
theorem dX9_rank_102 : decode cX9_rank 102 = .ok (.ifCond .gt 26, 3) := by decide +kernel
theorem dX9_rank_105 : decode cX9_rank 105 = .ok (.aload_n 0, 1) := by decide +kernel
theorem dX9_rank_106 : decode cX9_rank 106 = .ok (.getfield 109, 3) := by decide +kernel
theorem dX9_rank_109 : decode cX9_rank 109 = .ok (.iload 4, 2) := by decide +kernel
theorem dX9_rank_111 : decode cX9_rank 111 = .ok (.laload, 1) := by decide +kernel
theorem dX9_rank_112 : decode cX9_rank 112 = .ok (.aload_n 0, 1) := by decide +kernel
theorem dX9_rank_113 : decode cX9_rank 113 = .ok (.getfield 109, 3) := by decide +kernel
theorem dX9_rank_116 : decode cX9_rank 116 = .ok (.iload_n 2, 1) := by decide +kernel
theorem dX9_rank_117 : decode cX9_rank 117 = .ok (.laload, 1) := by decide +kernel
theorem dX9_rank_118 : decode cX9_rank 118 = .ok (.lcmp, 1) := by decide +kernel
theorem dX9_rank_119 : decode cX9_rank 119 = .ok (.ifCond .ne 13, 3) := by decide +kernel
theorem dX9_rank_122 : decode cX9_rank 122 = .ok (.iload 4, 2) := by decide +kernel
theorem dX9_rank_124 : decode cX9_rank 124 = .ok (.iload_n 2, 1) := by decide +kernel
theorem dX9_rank_125 : decode cX9_rank 125 = .ok (.if_icmp .ge 7, 3) := by decide +kernel
theorem dX9_rank_128 : decode cX9_rank 128 = .ok (.iconst 1, 1) := by decide +kernel
theorem dX9_rank_129 : decode cX9_rank 129 = .ok (.goto 4, 3) := by decide +kernel
theorem dX9_rank_132 : decode cX9_rank 132 = .ok (.iconst 0, 1) := by decide +kernel
theorem dX9_rank_133 : decode cX9_rank 133 = .ok (.istore 5, 2) := by decide +kernel
theorem dX9_rank_135 : decode cX9_rank 135 = .ok (.iload_n 3, 1) := by decide +kernel
theorem dX9_rank_136 : decode cX9_rank 136 = .ok (.iload 5, 2) := by decide +kernel
theorem dX9_rank_138 : decode cX9_rank 138 = .ok (.ifCond .eq 7, 3) := by decide +kernel
theorem dX9_rank_141 : decode cX9_rank 141 = .ok (.iconst 1, 1) := by decide +kernel
theorem dX9_rank_142 : decode cX9_rank 142 = .ok (.goto 4, 3) := by decide +kernel
theorem dX9_rank_145 : decode cX9_rank 145 = .ok (.iconst 0, 1) := by decide +kernel
theorem dX9_rank_146 : decode cX9_rank 146 = .ok (.iadd, 1) := by decide +kernel
theorem dX9_rank_147 : decode cX9_rank 147 = .ok (.istore_n 3, 1) := by decide +kernel
theorem dX9_rank_148 : decode cX9_rank 148 = .ok (.iinc 4 1, 3) := by decide +kernel
theorem dX9_rank_151 : decode cX9_rank 151 = .ok (.goto (-80), 3) := by decide +kernel
theorem dX9_rank_154 : decode cX9_rank 154 = .ok (.aload_n 0, 1) := by decide +kernel
theorem dX9_rank_155 : decode cX9_rank 155 = .ok (.getfield 106, 3) := by decide +kernel
theorem dX9_rank_158 : decode cX9_rank 158 = .ok (.iload_n 2, 1) := by decide +kernel
theorem dX9_rank_159 : decode cX9_rank 159 = .ok (.baload, 1) := by decide +kernel
theorem dX9_rank_160 : decode cX9_rank 160 = .ok (.ifCond .eq 10, 3) := by decide +kernel
theorem dX9_rank_163 : decode cX9_rank 163 = .ok (.iload_n 3, 1) := by decide +kernel
theorem dX9_rank_164 : decode cX9_rank 164 = .ok (.iload_n 1, 1) := by decide +kernel
theorem dX9_rank_165 : decode cX9_rank 165 = .ok (.if_icmp .ne 5, 3) := by decide +kernel
theorem dX9_rank_168 : decode cX9_rank 168 = .ok (.iload_n 2, 1) := by decide +kernel
theorem dX9_rank_169 : decode cX9_rank 169 = .ok (.ireturn, 1) := by decide +kernel
theorem dX9_rank_170 : decode cX9_rank 170 = .ok (.iinc 2 1, 3) := by decide +kernel
theorem dX9_rank_173 : decode cX9_rank 173 = .ok (.goto (-113), 3) := by decide +kernel
theorem dX9_rank_176 : decode cX9_rank 176 = .ok (.iconst (-1), 1) := by decide +kernel
theorem dX9_rank_177 : decode cX9_rank 177 = .ok (.ireturn, 1) := by decide +kernel
theorem dJx00060_init_a7421_0 : decode cJx00060_init_a7421 0 = .ok (.aload_n 0, 1) := by decide +kernel
theorem dJx00060_init_a7421_1 : decode cJx00060_init_a7421 1 = .ok (.aload_n 1, 1) := by decide +kernel
theorem dJx00060_init_a7421_2 : decode cJx00060_init_a7421 2 = .ok (.invokespecial 7, 3) := by decide +kernel
theorem dJx00060_init_a7421_5 : decode cJx00060_init_a7421 5 = .ok (.return_, 1) := by decide +kernel
theorem dJx3273f_init_a7421_0 : decode cJx3273f_init_a7421 0 = .ok (.aload_n 0, 1) := by decide +kernel
theorem dJx3273f_init_a7421_1 : decode cJx3273f_init_a7421 1 = .ok (.aload_n 1, 1) := by decide +kernel
theorem dJx3273f_init_a7421_2 : decode cJx3273f_init_a7421 2 = .ok (.invokespecial 7, 3) := by decide +kernel
theorem dJx3273f_init_a7421_5 : decode cJx3273f_init_a7421 5 = .ok (.return_, 1) := by decide +kernel
theorem dJ9_floorDiv_f86c9_0 : decode cJ9_floorDiv_f86c9 0 = .ok (.lload_n 0, 1) := by decide +kernel
theorem dJ9_floorDiv_f86c9_1 : decode cJ9_floorDiv_f86c9 1 = .ok (.lload_n 2, 1) := by decide +kernel
theorem dJ9_floorDiv_f86c9_2 : decode cJ9_floorDiv_f86c9 2 = .ok (.ldiv, 1) := by decide +kernel
theorem dJ9_floorDiv_f86c9_3 : decode cJ9_floorDiv_f86c9 3 = .ok (.lstore 4, 2) := by decide +kernel
theorem dJ9_floorDiv_f86c9_5 : decode cJ9_floorDiv_f86c9 5 = .ok (.lload_n 0, 1) := by decide +kernel
theorem dJ9_floorDiv_f86c9_6 : decode cJ9_floorDiv_f86c9 6 = .ok (.lload_n 2, 1) := by decide +kernel
theorem dJ9_floorDiv_f86c9_7 : decode cJ9_floorDiv_f86c9 7 = .ok (.lxor, 1) := by decide +kernel
theorem dJ9_floorDiv_f86c9_8 : decode cJ9_floorDiv_f86c9 8 = .ok (.lconst 0, 1) := by decide +kernel
theorem dJ9_floorDiv_f86c9_9 : decode cJ9_floorDiv_f86c9 9 = .ok (.lcmp, 1) := by decide +kernel
theorem dJ9_floorDiv_f86c9_10 : decode cJ9_floorDiv_f86c9 10 = .ok (.ifCond .ge 17, 3) := by decide +kernel
theorem dJ9_floorDiv_f86c9_13 : decode cJ9_floorDiv_f86c9 13 = .ok (.lload 4, 2) := by decide +kernel
theorem dJ9_floorDiv_f86c9_15 : decode cJ9_floorDiv_f86c9 15 = .ok (.lload_n 2, 1) := by decide +kernel
theorem dJ9_floorDiv_f86c9_16 : decode cJ9_floorDiv_f86c9 16 = .ok (.lmul, 1) := by decide +kernel
theorem dJ9_floorDiv_f86c9_17 : decode cJ9_floorDiv_f86c9 17 = .ok (.lload_n 0, 1) := by decide +kernel
theorem dJ9_floorDiv_f86c9_18 : decode cJ9_floorDiv_f86c9 18 = .ok (.lcmp, 1) := by decide +kernel
theorem dJ9_floorDiv_f86c9_19 : decode cJ9_floorDiv_f86c9 19 = .ok (.ifCond .eq 8, 3) := by decide +kernel
theorem dJ9_floorDiv_f86c9_22 : decode cJ9_floorDiv_f86c9 22 = .ok (.lload 4, 2) := by decide +kernel
theorem dJ9_floorDiv_f86c9_24 : decode cJ9_floorDiv_f86c9 24 = .ok (.lconst 1, 1) := by decide +kernel
theorem dJ9_floorDiv_f86c9_25 : decode cJ9_floorDiv_f86c9 25 = .ok (.lsub, 1) := by decide +kernel
theorem dJ9_floorDiv_f86c9_26 : decode cJ9_floorDiv_f86c9 26 = .ok (.lreturn, 1) := by decide +kernel
theorem dJ9_floorDiv_f86c9_27 : decode cJ9_floorDiv_f86c9 27 = .ok (.lload 4, 2) := by decide +kernel
theorem dJ9_floorDiv_f86c9_29 : decode cJ9_floorDiv_f86c9 29 = .ok (.lreturn, 1) := by decide +kernel
theorem dJ9_max_f86c9_0 : decode cJ9_max_f86c9 0 = .ok (.lload_n 0, 1) := by decide +kernel
theorem dJ9_max_f86c9_1 : decode cJ9_max_f86c9 1 = .ok (.lload_n 2, 1) := by decide +kernel
theorem dJ9_max_f86c9_2 : decode cJ9_max_f86c9 2 = .ok (.lcmp, 1) := by decide +kernel
theorem dJ9_max_f86c9_3 : decode cJ9_max_f86c9 3 = .ok (.ifCond .lt 7, 3) := by decide +kernel
theorem dJ9_max_f86c9_6 : decode cJ9_max_f86c9 6 = .ok (.lload_n 0, 1) := by decide +kernel
theorem dJ9_max_f86c9_7 : decode cJ9_max_f86c9 7 = .ok (.goto 4, 3) := by decide +kernel
theorem dJ9_max_f86c9_10 : decode cJ9_max_f86c9 10 = .ok (.lload_n 2, 1) := by decide +kernel
theorem dJ9_max_f86c9_11 : decode cJ9_max_f86c9 11 = .ok (.lreturn, 1) := by decide +kernel
theorem dJ9_min_7cf53_0 : decode cJ9_min_7cf53 0 = .ok (.iload_n 0, 1) := by decide +kernel
theorem dJ9_min_7cf53_1 : decode cJ9_min_7cf53 1 = .ok (.iload_n 1, 1) := by decide +kernel
theorem dJ9_min_7cf53_2 : decode cJ9_min_7cf53 2 = .ok (.if_icmp .gt 7, 3) := by decide +kernel
theorem dJ9_min_7cf53_5 : decode cJ9_min_7cf53 5 = .ok (.iload_n 0, 1) := by decide +kernel
theorem dJ9_min_7cf53_6 : decode cJ9_min_7cf53 6 = .ok (.goto 4, 3) := by decide +kernel
theorem dJ9_min_7cf53_9 : decode cJ9_min_7cf53 9 = .ok (.iload_n 1, 1) := by decide +kernel
theorem dJ9_min_7cf53_10 : decode cJ9_min_7cf53 10 = .ok (.ireturn, 1) := by decide +kernel
theorem dJx5d777_init_da8c8_0 : decode cJx5d777_init_da8c8 0 = .ok (.aload_n 0, 1) := by decide +kernel
theorem dJx5d777_init_da8c8_1 : decode cJx5d777_init_da8c8 1 = .ok (.invokespecial 1, 3) := by decide +kernel
theorem dJx5d777_init_da8c8_4 : decode cJx5d777_init_da8c8 4 = .ok (.return_, 1) := by decide +kernel
theorem dJx5d777_init_a7421_0 : decode cJx5d777_init_a7421 0 = .ok (.aload_n 0, 1) := by decide +kernel
theorem dJx5d777_init_a7421_1 : decode cJx5d777_init_a7421 1 = .ok (.aload_n 1, 1) := by decide +kernel
theorem dJx5d777_init_a7421_2 : decode cJx5d777_init_a7421 2 = .ok (.invokespecial 7, 3) := by decide +kernel
theorem dJx5d777_init_a7421_5 : decode cJx5d777_init_a7421 5 = .ok (.return_, 1) := by decide +kernel
theorem dJx5d777_fillInStackTrace_cddbd_0 : decode cJx5d777_fillInStackTrace_cddbd 0 = .ok (.aload_n 0, 1) := by decide +kernel
theorem dJx5d777_fillInStackTrace_cddbd_1 : decode cJx5d777_fillInStackTrace_cddbd 1 = .ok (.getfield 10, 3) := by decide +kernel
theorem dJx5d777_fillInStackTrace_cddbd_4 : decode cJx5d777_fillInStackTrace_cddbd 4 = .ok (.ifCond .ne 11, 3) := by decide +kernel
theorem dJx5d777_fillInStackTrace_cddbd_7 : decode cJx5d777_fillInStackTrace_cddbd 7 = .ok (.aload_n 0, 1) := by decide +kernel
theorem dJx5d777_fillInStackTrace_cddbd_8 : decode cJx5d777_fillInStackTrace_cddbd 8 = .ok (.iconst 1, 1) := by decide +kernel
theorem dJx5d777_fillInStackTrace_cddbd_9 : decode cJx5d777_fillInStackTrace_cddbd 9 = .ok (.putfield 10, 3) := by decide +kernel
theorem dJx5d777_fillInStackTrace_cddbd_12 : decode cJx5d777_fillInStackTrace_cddbd 12 = .ok (.goto 24, 3) := by decide +kernel
theorem dJx5d777_fillInStackTrace_cddbd_15 : decode cJx5d777_fillInStackTrace_cddbd 15 = .ok (.aload_n 0, 1) := by decide +kernel
theorem dJx5d777_fillInStackTrace_cddbd_16 : decode cJx5d777_fillInStackTrace_cddbd 16 = .ok (.getfield 10, 3) := by decide +kernel
theorem dJx5d777_fillInStackTrace_cddbd_19 : decode cJx5d777_fillInStackTrace_cddbd 19 = .ok (.iconst 1, 1) := by decide +kernel
theorem dJx5d777_fillInStackTrace_cddbd_20 : decode cJx5d777_fillInStackTrace_cddbd 20 = .ok (.if_icmp .ne 16, 3) := by decide +kernel
theorem dJx5d777_fillInStackTrace_cddbd_23 : decode cJx5d777_fillInStackTrace_cddbd 23 = .ok (.aload_n 0, 1) := by decide +kernel
theorem dJx5d777_fillInStackTrace_cddbd_24 : decode cJx5d777_fillInStackTrace_cddbd 24 = .ok (.aload_n 0, 1) := by decide +kernel
theorem dJx5d777_fillInStackTrace_cddbd_25 : decode cJx5d777_fillInStackTrace_cddbd 25 = .ok (.invokevirtual 16, 3) := by decide +kernel
theorem dJx5d777_fillInStackTrace_cddbd_28 : decode cJx5d777_fillInStackTrace_cddbd 28 = .ok (.putfield 20, 3) := by decide +kernel
theorem dJx5d777_fillInStackTrace_cddbd_31 : decode cJx5d777_fillInStackTrace_cddbd 31 = .ok (.aload_n 0, 1) := by decide +kernel
theorem dJx5d777_fillInStackTrace_cddbd_32 : decode cJx5d777_fillInStackTrace_cddbd 32 = .ok (.iconst 2, 1) := by decide +kernel
theorem dJx5d777_fillInStackTrace_cddbd_33 : decode cJx5d777_fillInStackTrace_cddbd 33 = .ok (.putfield 10, 3) := by decide +kernel
theorem dJx5d777_fillInStackTrace_cddbd_36 : decode cJx5d777_fillInStackTrace_cddbd 36 = .ok (.aload_n 0, 1) := by decide +kernel
theorem dJx5d777_fillInStackTrace_cddbd_37 : decode cJx5d777_fillInStackTrace_cddbd 37 = .ok (.invokespecial 24, 3) := by decide +kernel
theorem dJx5d777_fillInStackTrace_cddbd_40 : decode cJx5d777_fillInStackTrace_cddbd 40 = .ok (.areturn, 1) := by decide +kernel
theorem dJ7_fill_d0a16_0 : decode cJ7_fill_d0a16 0 = .ok (.iconst 0, 1) := by decide +kernel
theorem dJ7_fill_d0a16_1 : decode cJ7_fill_d0a16 1 = .ok (.istore_n 3, 1) := by decide +kernel
theorem dJ7_fill_d0a16_2 : decode cJ7_fill_d0a16 2 = .ok (.aload_n 0, 1) := by decide +kernel
theorem dJ7_fill_d0a16_3 : decode cJ7_fill_d0a16 3 = .ok (.arraylength, 1) := by decide +kernel
theorem dJ7_fill_d0a16_4 : decode cJ7_fill_d0a16 4 = .ok (.istore 4, 2) := by decide +kernel
theorem dJ7_fill_d0a16_6 : decode cJ7_fill_d0a16 6 = .ok (.iload_n 3, 1) := by decide +kernel
theorem dJ7_fill_d0a16_7 : decode cJ7_fill_d0a16 7 = .ok (.iload 4, 2) := by decide +kernel
theorem dJ7_fill_d0a16_9 : decode cJ7_fill_d0a16 9 = .ok (.if_icmp .ge 13, 3) := by decide +kernel
theorem dJ7_fill_d0a16_12 : decode cJ7_fill_d0a16 12 = .ok (.aload_n 0, 1) := by decide +kernel
theorem dJ7_fill_d0a16_13 : decode cJ7_fill_d0a16 13 = .ok (.iload_n 3, 1) := by decide +kernel
theorem dJ7_fill_d0a16_14 : decode cJ7_fill_d0a16 14 = .ok (.lload_n 1, 1) := by decide +kernel
theorem dJ7_fill_d0a16_15 : decode cJ7_fill_d0a16 15 = .ok (.lastore, 1) := by decide +kernel
theorem dJ7_fill_d0a16_16 : decode cJ7_fill_d0a16 16 = .ok (.iinc 3 1, 3) := by decide +kernel
theorem dJ7_fill_d0a16_19 : decode cJ7_fill_d0a16 19 = .ok (.goto (-13), 3) := by decide +kernel
theorem dJ7_fill_d0a16_22 : decode cJ7_fill_d0a16 22 = .ok (.return_, 1) := by decide +kernel
theorem dL_node_0 : decode cL_node 0 = .ok (.aload_n 3, 1) := by decide +kernel
theorem dL_node_1 : decode cL_node 1 = .ok (.iconst 0, 1) := by decide +kernel
theorem dL_node_2 : decode cL_node 2 = .ok (.aload_n 0, 1) := by decide +kernel
theorem dL_node_3 : decode cL_node 3 = .ok (.iload_n 1, 1) := by decide +kernel
theorem dL_node_4 : decode cL_node 4 = .ok (.iload_n 2, 1) := by decide +kernel
theorem dL_node_5 : decode cL_node 5 = .ok (.invokevirtual 7, 3) := by decide +kernel
theorem dL_node_8 : decode cL_node 8 = .ok (.i2l, 1) := by decide +kernel
theorem dL_node_9 : decode cL_node 9 = .ok (.lastore, 1) := by decide +kernel
theorem dL_node_10 : decode cL_node 10 = .ok (.goto 7, 3) := by decide +kernel
theorem dL_node_13 : decode cL_node 13 = .ok (.astore 4, 2) := by decide +kernel
theorem dL_node_15 : decode cL_node 15 = .ok (.iconst 1, 1) := by decide +kernel
theorem dL_node_16 : decode cL_node 16 = .ok (.ireturn, 1) := by decide +kernel
theorem dL_node_17 : decode cL_node 17 = .ok (.iconst 0, 1) := by decide +kernel
theorem dL_node_18 : decode cL_node 18 = .ok (.ireturn, 1) := by decide +kernel
theorem dL_sign_0 : decode cL_sign 0 = .ok (.aload 4, 2) := by decide +kernel
theorem dL_sign_2 : decode cL_sign 2 = .ok (.iconst 0, 1) := by decide +kernel
theorem dL_sign_3 : decode cL_sign 3 = .ok (.aload_n 0, 1) := by decide +kernel
theorem dL_sign_4 : decode cL_sign 4 = .ok (.iload_n 1, 1) := by decide +kernel
theorem dL_sign_5 : decode cL_sign 5 = .ok (.iload_n 2, 1) := by decide +kernel
theorem dL_sign_6 : decode cL_sign 6 = .ok (.iload_n 3, 1) := by decide +kernel
theorem dL_sign_7 : decode cL_sign 7 = .ok (.invokevirtual 15, 3) := by decide +kernel
theorem dL_sign_10 : decode cL_sign 10 = .ok (.i2l, 1) := by decide +kernel
theorem dL_sign_11 : decode cL_sign 11 = .ok (.lastore, 1) := by decide +kernel
theorem dL_sign_12 : decode cL_sign 12 = .ok (.goto 11, 3) := by decide +kernel
theorem dL_sign_15 : decode cL_sign 15 = .ok (.astore 5, 2) := by decide +kernel
theorem dL_sign_17 : decode cL_sign 17 = .ok (.iconst 1, 1) := by decide +kernel
theorem dL_sign_18 : decode cL_sign 18 = .ok (.ireturn, 1) := by decide +kernel
theorem dL_sign_19 : decode cL_sign 19 = .ok (.astore 5, 2) := by decide +kernel
theorem dL_sign_21 : decode cL_sign 21 = .ok (.iconst 2, 1) := by decide +kernel
theorem dL_sign_22 : decode cL_sign 22 = .ok (.ireturn, 1) := by decide +kernel
theorem dL_sign_23 : decode cL_sign 23 = .ok (.iconst 0, 1) := by decide +kernel
theorem dL_sign_24 : decode cL_sign 24 = .ok (.ireturn, 1) := by decide +kernel
theorem dL_out_0 : decode cL_out 0 = .ok (.aload_n 2, 1) := by decide +kernel
theorem dL_out_1 : decode cL_out 1 = .ok (.iconst 0, 1) := by decide +kernel
theorem dL_out_2 : decode cL_out 2 = .ok (.aload_n 0, 1) := by decide +kernel
theorem dL_out_3 : decode cL_out 3 = .ok (.iload_n 1, 1) := by decide +kernel
theorem dL_out_4 : decode cL_out 4 = .ok (.invokevirtual 21, 3) := by decide +kernel
theorem dL_out_7 : decode cL_out 7 = .ok (.i2l, 1) := by decide +kernel
theorem dL_out_8 : decode cL_out 8 = .ok (.lastore, 1) := by decide +kernel
theorem dL_out_9 : decode cL_out 9 = .ok (.goto 9, 3) := by decide +kernel
theorem dL_out_12 : decode cL_out 12 = .ok (.astore_n 3, 1) := by decide +kernel
theorem dL_out_13 : decode cL_out 13 = .ok (.iconst 1, 1) := by decide +kernel
theorem dL_out_14 : decode cL_out 14 = .ok (.ireturn, 1) := by decide +kernel
theorem dL_out_15 : decode cL_out 15 = .ok (.astore_n 3, 1) := by decide +kernel
theorem dL_out_16 : decode cL_out 16 = .ok (.iconst 2, 1) := by decide +kernel
theorem dL_out_17 : decode cL_out 17 = .ok (.ireturn, 1) := by decide +kernel
theorem dL_out_18 : decode cL_out 18 = .ok (.iconst 0, 1) := by decide +kernel
theorem dL_out_19 : decode cL_out 19 = .ok (.ireturn, 1) := by decide +kernel
theorem dL_ratio_0 : decode cL_ratio 0 = .ok (.aload_n 3, 1) := by decide +kernel
theorem dL_ratio_1 : decode cL_ratio 1 = .ok (.iconst 0, 1) := by decide +kernel
theorem dL_ratio_2 : decode cL_ratio 2 = .ok (.aload_n 0, 1) := by decide +kernel
theorem dL_ratio_3 : decode cL_ratio 3 = .ok (.iload_n 1, 1) := by decide +kernel
theorem dL_ratio_4 : decode cL_ratio 4 = .ok (.iload_n 2, 1) := by decide +kernel
theorem dL_ratio_5 : decode cL_ratio 5 = .ok (.invokevirtual 27, 3) := by decide +kernel
theorem dL_ratio_8 : decode cL_ratio 8 = .ok (.lastore, 1) := by decide +kernel
theorem dL_ratio_9 : decode cL_ratio 9 = .ok (.goto 7, 3) := by decide +kernel
theorem dL_ratio_12 : decode cL_ratio 12 = .ok (.astore 4, 2) := by decide +kernel
theorem dL_ratio_14 : decode cL_ratio 14 = .ok (.iconst 1, 1) := by decide +kernel
theorem dL_ratio_15 : decode cL_ratio 15 = .ok (.ireturn, 1) := by decide +kernel
theorem dL_ratio_16 : decode cL_ratio 16 = .ok (.iconst 0, 1) := by decide +kernel
theorem dL_ratio_17 : decode cL_ratio 17 = .ok (.ireturn, 1) := by decide +kernel
theorem dL_law_0 : decode cL_law 0 = .ok (.new 8, 3) := by decide +kernel
theorem dL_law_3 : decode cL_law 3 = .ok (.dup, 1) := by decide +kernel
theorem dL_law_4 : decode cL_law 4 = .ok (.invokespecial 33, 3) := by decide +kernel
theorem dL_law_7 : decode cL_law 7 = .ok (.astore_n 1, 1) := by decide +kernel
theorem dL_law_8 : decode cL_law 8 = .ok (.new 34, 3) := by decide +kernel
theorem dL_law_11 : decode cL_law 11 = .ok (.dup, 1) := by decide +kernel
theorem dL_law_12 : decode cL_law 12 = .ok (.invokespecial 36, 3) := by decide +kernel
theorem dL_law_15 : decode cL_law 15 = .ok (.astore_n 2, 1) := by decide +kernel
theorem dL_law_16 : decode cL_law 16 = .ok (.iconst 1, 1) := by decide +kernel
theorem dL_law_17 : decode cL_law 17 = .ok (.newarray .long, 2) := by decide +kernel
theorem dL_law_19 : decode cL_law 19 = .ok (.astore_n 3, 1) := by decide +kernel
theorem dL_law_20 : decode cL_law 20 = .ok (.iconst 0, 1) := by decide +kernel
theorem dL_law_21 : decode cL_law 21 = .ok (.istore 4, 2) := by decide +kernel
theorem dL_law_23 : decode cL_law 23 = .ok (.iload 4, 2) := by decide +kernel
theorem dL_law_25 : decode cL_law 25 = .ok (.aload_n 0, 1) := by decide +kernel
theorem dL_law_26 : decode cL_law 26 = .ok (.arraylength, 1) := by decide +kernel
theorem dL_law_27 : decode cL_law 27 = .ok (.iconst 5, 1) := by decide +kernel
theorem dL_law_28 : decode cL_law 28 = .ok (.isub, 1) := by decide +kernel
theorem dL_law_29 : decode cL_law 29 = .ok (.if_icmp .gt 724, 3) := by decide +kernel
theorem dL_law_32 : decode cL_law 32 = .ok (.aload_n 0, 1) := by decide +kernel
theorem dL_law_33 : decode cL_law 33 = .ok (.iload 4, 2) := by decide +kernel
theorem dL_law_35 : decode cL_law 35 = .ok (.iaload, 1) := by decide +kernel
theorem dL_law_36 : decode cL_law 36 = .ok (.bipush 15, 2) := by decide +kernel
theorem dL_law_38 : decode cL_law 38 = .ok (.iand, 1) := by decide +kernel
theorem dL_law_39 : decode cL_law 39 = .ok (.tableswitch 708 0 14 #[73, 142, 155, 168, 193, 261, 341, 354, 410, 491, 516, 553, 591, 658, 683], 73) := by decide +kernel
theorem dL_law_112 : decode cL_law 112 = .ok (.aload_n 1, 1) := by decide +kernel
theorem dL_law_113 : decode cL_law 113 = .ok (.aload_n 0, 1) := by decide +kernel
theorem dL_law_114 : decode cL_law 114 = .ok (.iload 4, 2) := by decide +kernel
theorem dL_law_116 : decode cL_law 116 = .ok (.iconst 1, 1) := by decide +kernel
theorem dL_law_117 : decode cL_law 117 = .ok (.iadd, 1) := by decide +kernel
theorem dL_law_118 : decode cL_law 118 = .ok (.iaload, 1) := by decide +kernel
theorem dL_law_119 : decode cL_law 119 = .ok (.aload_n 0, 1) := by decide +kernel
theorem dL_law_120 : decode cL_law 120 = .ok (.iload 4, 2) := by decide +kernel
theorem dL_law_122 : decode cL_law 122 = .ok (.iconst 2, 1) := by decide +kernel
theorem dL_law_123 : decode cL_law 123 = .ok (.iadd, 1) := by decide +kernel
theorem dL_law_124 : decode cL_law 124 = .ok (.iaload, 1) := by decide +kernel
theorem dL_law_125 : decode cL_law 125 = .ok (.i2l, 1) := by decide +kernel
theorem dL_law_126 : decode cL_law 126 = .ok (.bipush 32, 2) := by decide +kernel
theorem dL_law_128 : decode cL_law 128 = .ok (.lshl, 1) := by decide +kernel
theorem dL_law_129 : decode cL_law 129 = .ok (.aload_n 0, 1) := by decide +kernel
theorem dL_law_130 : decode cL_law 130 = .ok (.iload 4, 2) := by decide +kernel
theorem dL_law_132 : decode cL_law 132 = .ok (.iconst 3, 1) := by decide +kernel
theorem dL_law_133 : decode cL_law 133 = .ok (.iadd, 1) := by decide +kernel
theorem dL_law_134 : decode cL_law 134 = .ok (.iaload, 1) := by decide +kernel
theorem dL_law_135 : decode cL_law 135 = .ok (.i2l, 1) := by decide +kernel
theorem dL_law_136 : decode cL_law 136 = .ok (.ldc2_w 37, 3) := by decide +kernel
theorem dL_law_139 : decode cL_law 139 = .ok (.land, 1) := by decide +kernel
theorem dL_law_140 : decode cL_law 140 = .ok (.lor, 1) := by decide +kernel
theorem dL_law_141 : decode cL_law 141 = .ok (.invokevirtual 39, 3) := by decide +kernel
theorem dL_law_144 : decode cL_law 144 = .ok (.aload_n 2, 1) := by decide +kernel
theorem dL_law_145 : decode cL_law 145 = .ok (.aload_n 0, 1) := by decide +kernel
theorem dL_law_146 : decode cL_law 146 = .ok (.iload 4, 2) := by decide +kernel
theorem dL_law_148 : decode cL_law 148 = .ok (.iconst 1, 1) := by decide +kernel
theorem dL_law_149 : decode cL_law 149 = .ok (.iadd, 1) := by decide +kernel
theorem dL_law_150 : decode cL_law 150 = .ok (.iaload, 1) := by decide +kernel
theorem dL_law_151 : decode cL_law 151 = .ok (.aload_n 0, 1) := by decide +kernel
theorem dL_law_152 : decode cL_law 152 = .ok (.iload 4, 2) := by decide +kernel
theorem dL_law_154 : decode cL_law 154 = .ok (.iconst 2, 1) := by decide +kernel
theorem dL_law_155 : decode cL_law 155 = .ok (.iadd, 1) := by decide +kernel
theorem dL_law_156 : decode cL_law 156 = .ok (.iaload, 1) := by decide +kernel
theorem dL_law_157 : decode cL_law 157 = .ok (.i2l, 1) := by decide +kernel
theorem dL_law_158 : decode cL_law 158 = .ok (.bipush 32, 2) := by decide +kernel
theorem dL_law_160 : decode cL_law 160 = .ok (.lshl, 1) := by decide +kernel
theorem dL_law_161 : decode cL_law 161 = .ok (.aload_n 0, 1) := by decide +kernel
theorem dL_law_162 : decode cL_law 162 = .ok (.iload 4, 2) := by decide +kernel
theorem dL_law_164 : decode cL_law 164 = .ok (.iconst 3, 1) := by decide +kernel
theorem dL_law_165 : decode cL_law 165 = .ok (.iadd, 1) := by decide +kernel
theorem dL_law_166 : decode cL_law 166 = .ok (.iaload, 1) := by decide +kernel
theorem dL_law_167 : decode cL_law 167 = .ok (.i2l, 1) := by decide +kernel
theorem dL_law_168 : decode cL_law 168 = .ok (.ldc2_w 37, 3) := by decide +kernel
theorem dL_law_171 : decode cL_law 171 = .ok (.land, 1) := by decide +kernel
theorem dL_law_172 : decode cL_law 172 = .ok (.lor, 1) := by decide +kernel
theorem dL_law_173 : decode cL_law 173 = .ok (.invokevirtual 43, 3) := by decide +kernel
theorem dL_law_176 : decode cL_law 176 = .ok (.if_icmp .eq 571, 3) := by decide +kernel
theorem dL_law_179 : decode cL_law 179 = .ok (.iconst 0, 1) := by decide +kernel
theorem dL_law_180 : decode cL_law 180 = .ok (.ireturn, 1) := by decide +kernel
theorem dL_law_181 : decode cL_law 181 = .ok (.aload_n 1, 1) := by decide +kernel
theorem dL_law_182 : decode cL_law 182 = .ok (.invokevirtual 44, 3) := by decide +kernel
theorem dL_law_185 : decode cL_law 185 = .ok (.aload_n 2, 1) := by decide +kernel
theorem dL_law_186 : decode cL_law 186 = .ok (.invokevirtual 48, 3) := by decide +kernel
theorem dL_law_189 : decode cL_law 189 = .ok (.if_icmp .eq 558, 3) := by decide +kernel
theorem dL_law_192 : decode cL_law 192 = .ok (.iconst 0, 1) := by decide +kernel
theorem dL_law_193 : decode cL_law 193 = .ok (.ireturn, 1) := by decide +kernel
theorem dL_law_194 : decode cL_law 194 = .ok (.aload_n 1, 1) := by decide +kernel
theorem dL_law_195 : decode cL_law 195 = .ok (.invokevirtual 49, 3) := by decide +kernel
theorem dL_law_198 : decode cL_law 198 = .ok (.aload_n 2, 1) := by decide +kernel
theorem dL_law_199 : decode cL_law 199 = .ok (.invokevirtual 52, 3) := by decide +kernel
theorem dL_law_202 : decode cL_law 202 = .ok (.if_icmp .eq 545, 3) := by decide +kernel
theorem dL_law_205 : decode cL_law 205 = .ok (.iconst 0, 1) := by decide +kernel
theorem dL_law_206 : decode cL_law 206 = .ok (.ireturn, 1) := by decide +kernel
theorem dL_law_207 : decode cL_law 207 = .ok (.aload_n 1, 1) := by decide +kernel
theorem dL_law_208 : decode cL_law 208 = .ok (.aload_n 0, 1) := by decide +kernel
theorem dL_law_209 : decode cL_law 209 = .ok (.iload 4, 2) := by decide +kernel
theorem dL_law_211 : decode cL_law 211 = .ok (.iconst 1, 1) := by decide +kernel
theorem dL_law_212 : decode cL_law 212 = .ok (.iadd, 1) := by decide +kernel
theorem dL_law_213 : decode cL_law 213 = .ok (.iaload, 1) := by decide +kernel
theorem dL_law_214 : decode cL_law 214 = .ok (.invokevirtual 53, 3) := by decide +kernel
theorem dL_law_217 : decode cL_law 217 = .ok (.aload_n 2, 1) := by decide +kernel
theorem dL_law_218 : decode cL_law 218 = .ok (.aload_n 0, 1) := by decide +kernel
theorem dL_law_219 : decode cL_law 219 = .ok (.iload 4, 2) := by decide +kernel
theorem dL_law_221 : decode cL_law 221 = .ok (.iconst 1, 1) := by decide +kernel
theorem dL_law_222 : decode cL_law 222 = .ok (.iadd, 1) := by decide +kernel
theorem dL_law_223 : decode cL_law 223 = .ok (.iaload, 1) := by decide +kernel
theorem dL_law_224 : decode cL_law 224 = .ok (.invokevirtual 56, 3) := by decide +kernel
theorem dL_law_227 : decode cL_law 227 = .ok (.if_icmp .eq 520, 3) := by decide +kernel
theorem dL_law_230 : decode cL_law 230 = .ok (.iconst 0, 1) := by decide +kernel
theorem dL_law_231 : decode cL_law 231 = .ok (.ireturn, 1) := by decide +kernel
theorem dL_law_232 : decode cL_law 232 = .ok (.aload_n 1, 1) := by decide +kernel
theorem dL_law_233 : decode cL_law 233 = .ok (.aload_n 0, 1) := by decide +kernel
theorem dL_law_234 : decode cL_law 234 = .ok (.iload 4, 2) := by decide +kernel
theorem dL_law_236 : decode cL_law 236 = .ok (.iconst 1, 1) := by decide +kernel
theorem dL_law_237 : decode cL_law 237 = .ok (.iadd, 1) := by decide +kernel
theorem dL_law_238 : decode cL_law 238 = .ok (.iaload, 1) := by decide +kernel
theorem dL_law_239 : decode cL_law 239 = .ok (.aload_n 0, 1) := by decide +kernel
theorem dL_law_240 : decode cL_law 240 = .ok (.iload 4, 2) := by decide +kernel
theorem dL_law_242 : decode cL_law 242 = .ok (.iconst 2, 1) := by decide +kernel
theorem dL_law_243 : decode cL_law 243 = .ok (.iadd, 1) := by decide +kernel
theorem dL_law_244 : decode cL_law 244 = .ok (.iaload, 1) := by decide +kernel
theorem dL_law_245 : decode cL_law 245 = .ok (.aload_n 3, 1) := by decide +kernel
theorem dL_law_246 : decode cL_law 246 = .ok (.invokestatic 57, 3) := by decide +kernel
theorem dL_law_249 : decode cL_law 249 = .ok (.istore 5, 2) := by decide +kernel
theorem dL_law_251 : decode cL_law 251 = .ok (.aload_n 2, 1) := by decide +kernel
theorem dL_law_252 : decode cL_law 252 = .ok (.aload_n 0, 1) := by decide +kernel
theorem dL_law_253 : decode cL_law 253 = .ok (.iload 4, 2) := by decide +kernel
theorem dL_law_255 : decode cL_law 255 = .ok (.iconst 1, 1) := by decide +kernel
theorem dL_law_256 : decode cL_law 256 = .ok (.iadd, 1) := by decide +kernel
theorem dL_law_257 : decode cL_law 257 = .ok (.iaload, 1) := by decide +kernel
theorem dL_law_258 : decode cL_law 258 = .ok (.aload_n 0, 1) := by decide +kernel
theorem dL_law_259 : decode cL_law 259 = .ok (.iload 4, 2) := by decide +kernel
theorem dL_law_261 : decode cL_law 261 = .ok (.iconst 2, 1) := by decide +kernel
theorem dL_law_262 : decode cL_law 262 = .ok (.iadd, 1) := by decide +kernel
theorem dL_law_263 : decode cL_law 263 = .ok (.iaload, 1) := by decide +kernel
theorem dL_law_264 : decode cL_law 264 = .ok (.invokevirtual 62, 3) := by decide +kernel
theorem dL_law_267 : decode cL_law 267 = .ok (.istore 6, 2) := by decide +kernel
theorem dL_law_269 : decode cL_law 269 = .ok (.aload_n 2, 1) := by decide +kernel
theorem dL_law_270 : decode cL_law 270 = .ok (.invokevirtual 63, 3) := by decide +kernel
theorem dL_law_273 : decode cL_law 273 = .ok (.iload 5, 2) := by decide +kernel
theorem dL_law_275 : decode cL_law 275 = .ok (.if_icmp .eq 5, 3) := by decide +kernel
theorem dL_law_278 : decode cL_law 278 = .ok (.iconst 0, 1) := by decide +kernel
theorem dL_law_279 : decode cL_law 279 = .ok (.ireturn, 1) := by decide +kernel
theorem dL_law_280 : decode cL_law 280 = .ok (.iload 5, 2) := by decide +kernel
theorem dL_law_282 : decode cL_law 282 = .ok (.ifCond .ne 15, 3) := by decide +kernel
theorem dL_law_285 : decode cL_law 285 = .ok (.aload_n 3, 1) := by decide +kernel
theorem dL_law_286 : decode cL_law 286 = .ok (.iconst 0, 1) := by decide +kernel
theorem dL_law_287 : decode cL_law 287 = .ok (.laload, 1) := by decide +kernel
theorem dL_law_288 : decode cL_law 288 = .ok (.iload 6, 2) := by decide +kernel
theorem dL_law_290 : decode cL_law 290 = .ok (.i2l, 1) := by decide +kernel
theorem dL_law_291 : decode cL_law 291 = .ok (.lcmp, 1) := by decide +kernel
theorem dL_law_292 : decode cL_law 292 = .ok (.ifCond .eq 5, 3) := by decide +kernel
theorem dL_law_295 : decode cL_law 295 = .ok (.iconst 0, 1) := by decide +kernel
theorem dL_law_296 : decode cL_law 296 = .ok (.ireturn, 1) := by decide +kernel
theorem dL_law_297 : decode cL_law 297 = .ok (.goto 450, 3) := by decide +kernel
theorem dL_law_300 : decode cL_law 300 = .ok (.aload_n 1, 1) := by decide +kernel
theorem dL_law_301 : decode cL_law 301 = .ok (.aload_n 0, 1) := by decide +kernel
theorem dL_law_302 : decode cL_law 302 = .ok (.iload 4, 2) := by decide +kernel
theorem dL_law_304 : decode cL_law 304 = .ok (.iconst 1, 1) := by decide +kernel
theorem dL_law_305 : decode cL_law 305 = .ok (.iadd, 1) := by decide +kernel
theorem dL_law_306 : decode cL_law 306 = .ok (.iaload, 1) := by decide +kernel
theorem dL_law_307 : decode cL_law 307 = .ok (.aload_n 0, 1) := by decide +kernel
theorem dL_law_308 : decode cL_law 308 = .ok (.iload 4, 2) := by decide +kernel
theorem dL_law_310 : decode cL_law 310 = .ok (.iconst 2, 1) := by decide +kernel
theorem dL_law_311 : decode cL_law 311 = .ok (.iadd, 1) := by decide +kernel
theorem dL_law_312 : decode cL_law 312 = .ok (.iaload, 1) := by decide +kernel
theorem dL_law_313 : decode cL_law 313 = .ok (.aload_n 0, 1) := by decide +kernel
theorem dL_law_314 : decode cL_law 314 = .ok (.iload 4, 2) := by decide +kernel
theorem dL_law_316 : decode cL_law 316 = .ok (.iconst 3, 1) := by decide +kernel
theorem dL_law_317 : decode cL_law 317 = .ok (.iadd, 1) := by decide +kernel
theorem dL_law_318 : decode cL_law 318 = .ok (.iaload, 1) := by decide +kernel
theorem dL_law_319 : decode cL_law 319 = .ok (.aload_n 3, 1) := by decide +kernel
theorem dL_law_320 : decode cL_law 320 = .ok (.invokestatic 66, 3) := by decide +kernel
theorem dL_law_323 : decode cL_law 323 = .ok (.istore 5, 2) := by decide +kernel
theorem dL_law_325 : decode cL_law 325 = .ok (.aload_n 2, 1) := by decide +kernel
theorem dL_law_326 : decode cL_law 326 = .ok (.aload_n 0, 1) := by decide +kernel
theorem dL_law_327 : decode cL_law 327 = .ok (.iload 4, 2) := by decide +kernel
theorem dL_law_329 : decode cL_law 329 = .ok (.iconst 1, 1) := by decide +kernel
theorem dL_law_330 : decode cL_law 330 = .ok (.iadd, 1) := by decide +kernel
theorem dL_law_331 : decode cL_law 331 = .ok (.iaload, 1) := by decide +kernel
theorem dL_law_332 : decode cL_law 332 = .ok (.aload_n 0, 1) := by decide +kernel
theorem dL_law_333 : decode cL_law 333 = .ok (.iload 4, 2) := by decide +kernel
theorem dL_law_335 : decode cL_law 335 = .ok (.iconst 2, 1) := by decide +kernel
theorem dL_law_336 : decode cL_law 336 = .ok (.iadd, 1) := by decide +kernel
theorem dL_law_337 : decode cL_law 337 = .ok (.iaload, 1) := by decide +kernel
theorem dL_law_338 : decode cL_law 338 = .ok (.aload_n 0, 1) := by decide +kernel
theorem dL_law_339 : decode cL_law 339 = .ok (.iload 4, 2) := by decide +kernel
theorem dL_law_341 : decode cL_law 341 = .ok (.iconst 3, 1) := by decide +kernel
theorem dL_law_342 : decode cL_law 342 = .ok (.iadd, 1) := by decide +kernel
theorem dL_law_343 : decode cL_law 343 = .ok (.iaload, 1) := by decide +kernel
theorem dL_law_344 : decode cL_law 344 = .ok (.invokevirtual 69, 3) := by decide +kernel
theorem dL_law_347 : decode cL_law 347 = .ok (.istore 6, 2) := by decide +kernel
theorem dL_law_349 : decode cL_law 349 = .ok (.aload_n 2, 1) := by decide +kernel
theorem dL_law_350 : decode cL_law 350 = .ok (.invokevirtual 63, 3) := by decide +kernel
theorem dL_law_353 : decode cL_law 353 = .ok (.iload 5, 2) := by decide +kernel
theorem dL_law_355 : decode cL_law 355 = .ok (.if_icmp .eq 5, 3) := by decide +kernel
theorem dL_law_358 : decode cL_law 358 = .ok (.iconst 0, 1) := by decide +kernel
theorem dL_law_359 : decode cL_law 359 = .ok (.ireturn, 1) := by decide +kernel
theorem dL_law_360 : decode cL_law 360 = .ok (.iload 5, 2) := by decide +kernel
theorem dL_law_362 : decode cL_law 362 = .ok (.ifCond .ne 15, 3) := by decide +kernel
theorem dL_law_365 : decode cL_law 365 = .ok (.aload_n 3, 1) := by decide +kernel
theorem dL_law_366 : decode cL_law 366 = .ok (.iconst 0, 1) := by decide +kernel
theorem dL_law_367 : decode cL_law 367 = .ok (.laload, 1) := by decide +kernel
theorem dL_law_368 : decode cL_law 368 = .ok (.iload 6, 2) := by decide +kernel
theorem dL_law_370 : decode cL_law 370 = .ok (.i2l, 1) := by decide +kernel
theorem dL_law_371 : decode cL_law 371 = .ok (.lcmp, 1) := by decide +kernel
theorem dL_law_372 : decode cL_law 372 = .ok (.ifCond .eq 5, 3) := by decide +kernel
theorem dL_law_375 : decode cL_law 375 = .ok (.iconst 0, 1) := by decide +kernel
theorem dL_law_376 : decode cL_law 376 = .ok (.ireturn, 1) := by decide +kernel
theorem dL_law_377 : decode cL_law 377 = .ok (.goto 370, 3) := by decide +kernel
theorem dL_law_380 : decode cL_law 380 = .ok (.aload_n 1, 1) := by decide +kernel
theorem dL_law_381 : decode cL_law 381 = .ok (.invokevirtual 70, 3) := by decide +kernel
theorem dL_law_384 : decode cL_law 384 = .ok (.aload_n 2, 1) := by decide +kernel
theorem dL_law_385 : decode cL_law 385 = .ok (.invokevirtual 73, 3) := by decide +kernel
theorem dL_law_388 : decode cL_law 388 = .ok (.if_icmp .eq 359, 3) := by decide +kernel
theorem dL_law_391 : decode cL_law 391 = .ok (.iconst 0, 1) := by decide +kernel
theorem dL_law_392 : decode cL_law 392 = .ok (.ireturn, 1) := by decide +kernel
theorem dL_law_393 : decode cL_law 393 = .ok (.aload_n 1, 1) := by decide +kernel
theorem dL_law_394 : decode cL_law 394 = .ok (.aload_n 0, 1) := by decide +kernel
theorem dL_law_395 : decode cL_law 395 = .ok (.iload 4, 2) := by decide +kernel
theorem dL_law_397 : decode cL_law 397 = .ok (.iconst 1, 1) := by decide +kernel
theorem dL_law_398 : decode cL_law 398 = .ok (.iadd, 1) := by decide +kernel
theorem dL_law_399 : decode cL_law 399 = .ok (.iaload, 1) := by decide +kernel
theorem dL_law_400 : decode cL_law 400 = .ok (.aload_n 3, 1) := by decide +kernel
theorem dL_law_401 : decode cL_law 401 = .ok (.invokestatic 74, 3) := by decide +kernel
theorem dL_law_404 : decode cL_law 404 = .ok (.istore 5, 2) := by decide +kernel
theorem dL_law_406 : decode cL_law 406 = .ok (.aload_n 2, 1) := by decide +kernel
theorem dL_law_407 : decode cL_law 407 = .ok (.aload_n 0, 1) := by decide +kernel
theorem dL_law_408 : decode cL_law 408 = .ok (.iload 4, 2) := by decide +kernel
theorem dL_law_410 : decode cL_law 410 = .ok (.iconst 1, 1) := by decide +kernel
theorem dL_law_411 : decode cL_law 411 = .ok (.iadd, 1) := by decide +kernel
theorem dL_law_412 : decode cL_law 412 = .ok (.iaload, 1) := by decide +kernel
theorem dL_law_413 : decode cL_law 413 = .ok (.invokevirtual 77, 3) := by decide +kernel
theorem dL_law_416 : decode cL_law 416 = .ok (.istore 6, 2) := by decide +kernel
theorem dL_law_418 : decode cL_law 418 = .ok (.aload_n 2, 1) := by decide +kernel
theorem dL_law_419 : decode cL_law 419 = .ok (.invokevirtual 63, 3) := by decide +kernel
theorem dL_law_422 : decode cL_law 422 = .ok (.iload 5, 2) := by decide +kernel
theorem dL_law_424 : decode cL_law 424 = .ok (.if_icmp .eq 5, 3) := by decide +kernel
theorem dL_law_427 : decode cL_law 427 = .ok (.iconst 0, 1) := by decide +kernel
theorem dL_law_428 : decode cL_law 428 = .ok (.ireturn, 1) := by decide +kernel
theorem dL_law_429 : decode cL_law 429 = .ok (.iload 5, 2) := by decide +kernel
theorem dL_law_431 : decode cL_law 431 = .ok (.ifCond .ne 15, 3) := by decide +kernel
theorem dL_law_434 : decode cL_law 434 = .ok (.aload_n 3, 1) := by decide +kernel
theorem dL_law_435 : decode cL_law 435 = .ok (.iconst 0, 1) := by decide +kernel
theorem dL_law_436 : decode cL_law 436 = .ok (.laload, 1) := by decide +kernel
theorem dL_law_437 : decode cL_law 437 = .ok (.iload 6, 2) := by decide +kernel
theorem dL_law_439 : decode cL_law 439 = .ok (.i2l, 1) := by decide +kernel
theorem dL_law_440 : decode cL_law 440 = .ok (.lcmp, 1) := by decide +kernel
theorem dL_law_441 : decode cL_law 441 = .ok (.ifCond .eq 5, 3) := by decide +kernel
theorem dL_law_444 : decode cL_law 444 = .ok (.iconst 0, 1) := by decide +kernel
theorem dL_law_445 : decode cL_law 445 = .ok (.ireturn, 1) := by decide +kernel
theorem dL_law_446 : decode cL_law 446 = .ok (.goto 301, 3) := by decide +kernel
theorem dL_law_449 : decode cL_law 449 = .ok (.aload_n 1, 1) := by decide +kernel
theorem dL_law_450 : decode cL_law 450 = .ok (.aload_n 0, 1) := by decide +kernel
theorem dL_law_451 : decode cL_law 451 = .ok (.iload 4, 2) := by decide +kernel
theorem dL_law_453 : decode cL_law 453 = .ok (.iconst 1, 1) := by decide +kernel
theorem dL_law_454 : decode cL_law 454 = .ok (.iadd, 1) := by decide +kernel
theorem dL_law_455 : decode cL_law 455 = .ok (.iaload, 1) := by decide +kernel
theorem dL_law_456 : decode cL_law 456 = .ok (.aload_n 0, 1) := by decide +kernel
theorem dL_law_457 : decode cL_law 457 = .ok (.iload 4, 2) := by decide +kernel
theorem dL_law_459 : decode cL_law 459 = .ok (.iconst 2, 1) := by decide +kernel
theorem dL_law_460 : decode cL_law 460 = .ok (.iadd, 1) := by decide +kernel
theorem dL_law_461 : decode cL_law 461 = .ok (.iaload, 1) := by decide +kernel
theorem dL_law_462 : decode cL_law 462 = .ok (.aload_n 0, 1) := by decide +kernel
theorem dL_law_463 : decode cL_law 463 = .ok (.iload 4, 2) := by decide +kernel
theorem dL_law_465 : decode cL_law 465 = .ok (.iconst 3, 1) := by decide +kernel
theorem dL_law_466 : decode cL_law 466 = .ok (.iadd, 1) := by decide +kernel
theorem dL_law_467 : decode cL_law 467 = .ok (.iaload, 1) := by decide +kernel
theorem dL_law_468 : decode cL_law 468 = .ok (.i2l, 1) := by decide +kernel
theorem dL_law_469 : decode cL_law 469 = .ok (.bipush 32, 2) := by decide +kernel
theorem dL_law_471 : decode cL_law 471 = .ok (.lshl, 1) := by decide +kernel
theorem dL_law_472 : decode cL_law 472 = .ok (.aload_n 0, 1) := by decide +kernel
theorem dL_law_473 : decode cL_law 473 = .ok (.iload 4, 2) := by decide +kernel
theorem dL_law_475 : decode cL_law 475 = .ok (.iconst 4, 1) := by decide +kernel
theorem dL_law_476 : decode cL_law 476 = .ok (.iadd, 1) := by decide +kernel
theorem dL_law_477 : decode cL_law 477 = .ok (.iaload, 1) := by decide +kernel
theorem dL_law_478 : decode cL_law 478 = .ok (.i2l, 1) := by decide +kernel
theorem dL_law_479 : decode cL_law 479 = .ok (.ldc2_w 37, 3) := by decide +kernel
theorem dL_law_482 : decode cL_law 482 = .ok (.land, 1) := by decide +kernel
theorem dL_law_483 : decode cL_law 483 = .ok (.lor, 1) := by decide +kernel
theorem dL_law_484 : decode cL_law 484 = .ok (.invokevirtual 78, 3) := by decide +kernel
theorem dL_law_487 : decode cL_law 487 = .ok (.aload_n 2, 1) := by decide +kernel
theorem dL_law_488 : decode cL_law 488 = .ok (.aload_n 0, 1) := by decide +kernel
theorem dL_law_489 : decode cL_law 489 = .ok (.iload 4, 2) := by decide +kernel
theorem dL_law_491 : decode cL_law 491 = .ok (.iconst 1, 1) := by decide +kernel
theorem dL_law_492 : decode cL_law 492 = .ok (.iadd, 1) := by decide +kernel
theorem dL_law_493 : decode cL_law 493 = .ok (.iaload, 1) := by decide +kernel
theorem dL_law_494 : decode cL_law 494 = .ok (.aload_n 0, 1) := by decide +kernel
theorem dL_law_495 : decode cL_law 495 = .ok (.iload 4, 2) := by decide +kernel
theorem dL_law_497 : decode cL_law 497 = .ok (.iconst 2, 1) := by decide +kernel
theorem dL_law_498 : decode cL_law 498 = .ok (.iadd, 1) := by decide +kernel
theorem dL_law_499 : decode cL_law 499 = .ok (.iaload, 1) := by decide +kernel
theorem dL_law_500 : decode cL_law 500 = .ok (.aload_n 0, 1) := by decide +kernel
theorem dL_law_501 : decode cL_law 501 = .ok (.iload 4, 2) := by decide +kernel
theorem dL_law_503 : decode cL_law 503 = .ok (.iconst 3, 1) := by decide +kernel
theorem dL_law_504 : decode cL_law 504 = .ok (.iadd, 1) := by decide +kernel
theorem dL_law_505 : decode cL_law 505 = .ok (.iaload, 1) := by decide +kernel
theorem dL_law_506 : decode cL_law 506 = .ok (.i2l, 1) := by decide +kernel
theorem dL_law_507 : decode cL_law 507 = .ok (.bipush 32, 2) := by decide +kernel
theorem dL_law_509 : decode cL_law 509 = .ok (.lshl, 1) := by decide +kernel
theorem dL_law_510 : decode cL_law 510 = .ok (.aload_n 0, 1) := by decide +kernel
theorem dL_law_511 : decode cL_law 511 = .ok (.iload 4, 2) := by decide +kernel
theorem dL_law_513 : decode cL_law 513 = .ok (.iconst 4, 1) := by decide +kernel
theorem dL_law_514 : decode cL_law 514 = .ok (.iadd, 1) := by decide +kernel
theorem dL_law_515 : decode cL_law 515 = .ok (.iaload, 1) := by decide +kernel
theorem dL_law_516 : decode cL_law 516 = .ok (.i2l, 1) := by decide +kernel
theorem dL_law_517 : decode cL_law 517 = .ok (.ldc2_w 37, 3) := by decide +kernel
theorem dL_law_520 : decode cL_law 520 = .ok (.land, 1) := by decide +kernel
theorem dL_law_521 : decode cL_law 521 = .ok (.lor, 1) := by decide +kernel
theorem dL_law_522 : decode cL_law 522 = .ok (.invokevirtual 82, 3) := by decide +kernel
theorem dL_law_525 : decode cL_law 525 = .ok (.if_icmp .eq 222, 3) := by decide +kernel
theorem dL_law_528 : decode cL_law 528 = .ok (.iconst 0, 1) := by decide +kernel
theorem dL_law_529 : decode cL_law 529 = .ok (.ireturn, 1) := by decide +kernel
theorem dL_law_530 : decode cL_law 530 = .ok (.aload_n 1, 1) := by decide +kernel
theorem dL_law_531 : decode cL_law 531 = .ok (.aload_n 0, 1) := by decide +kernel
theorem dL_law_532 : decode cL_law 532 = .ok (.iload 4, 2) := by decide +kernel
theorem dL_law_534 : decode cL_law 534 = .ok (.iconst 1, 1) := by decide +kernel
theorem dL_law_535 : decode cL_law 535 = .ok (.iadd, 1) := by decide +kernel
theorem dL_law_536 : decode cL_law 536 = .ok (.iaload, 1) := by decide +kernel
theorem dL_law_537 : decode cL_law 537 = .ok (.invokevirtual 83, 3) := by decide +kernel
theorem dL_law_540 : decode cL_law 540 = .ok (.aload_n 2, 1) := by decide +kernel
theorem dL_law_541 : decode cL_law 541 = .ok (.aload_n 0, 1) := by decide +kernel
theorem dL_law_542 : decode cL_law 542 = .ok (.iload 4, 2) := by decide +kernel
theorem dL_law_544 : decode cL_law 544 = .ok (.iconst 1, 1) := by decide +kernel
theorem dL_law_545 : decode cL_law 545 = .ok (.iadd, 1) := by decide +kernel
theorem dL_law_546 : decode cL_law 546 = .ok (.iaload, 1) := by decide +kernel
theorem dL_law_547 : decode cL_law 547 = .ok (.invokevirtual 86, 3) := by decide +kernel
theorem dL_law_550 : decode cL_law 550 = .ok (.if_icmp .eq 197, 3) := by decide +kernel
theorem dL_law_553 : decode cL_law 553 = .ok (.iconst 0, 1) := by decide +kernel
theorem dL_law_554 : decode cL_law 554 = .ok (.ireturn, 1) := by decide +kernel
theorem dL_law_555 : decode cL_law 555 = .ok (.aload_n 1, 1) := by decide +kernel
theorem dL_law_556 : decode cL_law 556 = .ok (.aload_n 0, 1) := by decide +kernel
theorem dL_law_557 : decode cL_law 557 = .ok (.iload 4, 2) := by decide +kernel
theorem dL_law_559 : decode cL_law 559 = .ok (.iconst 1, 1) := by decide +kernel
theorem dL_law_560 : decode cL_law 560 = .ok (.iadd, 1) := by decide +kernel
theorem dL_law_561 : decode cL_law 561 = .ok (.iaload, 1) := by decide +kernel
theorem dL_law_562 : decode cL_law 562 = .ok (.aload_n 0, 1) := by decide +kernel
theorem dL_law_563 : decode cL_law 563 = .ok (.iload 4, 2) := by decide +kernel
theorem dL_law_565 : decode cL_law 565 = .ok (.iconst 2, 1) := by decide +kernel
theorem dL_law_566 : decode cL_law 566 = .ok (.iadd, 1) := by decide +kernel
theorem dL_law_567 : decode cL_law 567 = .ok (.iaload, 1) := by decide +kernel
theorem dL_law_568 : decode cL_law 568 = .ok (.invokevirtual 87, 3) := by decide +kernel
theorem dL_law_571 : decode cL_law 571 = .ok (.aload_n 2, 1) := by decide +kernel
theorem dL_law_572 : decode cL_law 572 = .ok (.aload_n 0, 1) := by decide +kernel
theorem dL_law_573 : decode cL_law 573 = .ok (.iload 4, 2) := by decide +kernel
theorem dL_law_575 : decode cL_law 575 = .ok (.iconst 1, 1) := by decide +kernel
theorem dL_law_576 : decode cL_law 576 = .ok (.iadd, 1) := by decide +kernel
theorem dL_law_577 : decode cL_law 577 = .ok (.iaload, 1) := by decide +kernel
theorem dL_law_578 : decode cL_law 578 = .ok (.aload_n 0, 1) := by decide +kernel
theorem dL_law_579 : decode cL_law 579 = .ok (.iload 4, 2) := by decide +kernel
theorem dL_law_581 : decode cL_law 581 = .ok (.iconst 2, 1) := by decide +kernel
theorem dL_law_582 : decode cL_law 582 = .ok (.iadd, 1) := by decide +kernel
theorem dL_law_583 : decode cL_law 583 = .ok (.iaload, 1) := by decide +kernel
theorem dL_law_584 : decode cL_law 584 = .ok (.invokevirtual 90, 3) := by decide +kernel
theorem dL_law_587 : decode cL_law 587 = .ok (.if_icmp .eq 160, 3) := by decide +kernel
theorem dL_law_590 : decode cL_law 590 = .ok (.iconst 0, 1) := by decide +kernel
theorem dL_law_591 : decode cL_law 591 = .ok (.ireturn, 1) := by decide +kernel
theorem dL_law_592 : decode cL_law 592 = .ok (.aload_n 1, 1) := by decide +kernel
theorem dL_law_593 : decode cL_law 593 = .ok (.aload_n 0, 1) := by decide +kernel
theorem dL_law_594 : decode cL_law 594 = .ok (.iload 4, 2) := by decide +kernel
theorem dL_law_596 : decode cL_law 596 = .ok (.iconst 1, 1) := by decide +kernel
theorem dL_law_597 : decode cL_law 597 = .ok (.iadd, 1) := by decide +kernel
theorem dL_law_598 : decode cL_law 598 = .ok (.iaload, 1) := by decide +kernel
theorem dL_law_599 : decode cL_law 599 = .ok (.aload_n 0, 1) := by decide +kernel
theorem dL_law_600 : decode cL_law 600 = .ok (.iload 4, 2) := by decide +kernel
theorem dL_law_602 : decode cL_law 602 = .ok (.iconst 2, 1) := by decide +kernel
theorem dL_law_603 : decode cL_law 603 = .ok (.iadd, 1) := by decide +kernel
theorem dL_law_604 : decode cL_law 604 = .ok (.iaload, 1) := by decide +kernel
theorem dL_law_605 : decode cL_law 605 = .ok (.invokevirtual 91, 3) := by decide +kernel
theorem dL_law_608 : decode cL_law 608 = .ok (.aload_n 2, 1) := by decide +kernel
theorem dL_law_609 : decode cL_law 609 = .ok (.aload_n 0, 1) := by decide +kernel
theorem dL_law_610 : decode cL_law 610 = .ok (.iload 4, 2) := by decide +kernel
theorem dL_law_612 : decode cL_law 612 = .ok (.iconst 1, 1) := by decide +kernel
theorem dL_law_613 : decode cL_law 613 = .ok (.iadd, 1) := by decide +kernel
theorem dL_law_614 : decode cL_law 614 = .ok (.iaload, 1) := by decide +kernel
theorem dL_law_615 : decode cL_law 615 = .ok (.aload_n 0, 1) := by decide +kernel
theorem dL_law_616 : decode cL_law 616 = .ok (.iload 4, 2) := by decide +kernel
theorem dL_law_618 : decode cL_law 618 = .ok (.iconst 2, 1) := by decide +kernel
theorem dL_law_619 : decode cL_law 619 = .ok (.iadd, 1) := by decide +kernel
theorem dL_law_620 : decode cL_law 620 = .ok (.iaload, 1) := by decide +kernel
theorem dL_law_621 : decode cL_law 621 = .ok (.invokevirtual 94, 3) := by decide +kernel
theorem dL_law_624 : decode cL_law 624 = .ok (.lcmp, 1) := by decide +kernel
theorem dL_law_625 : decode cL_law 625 = .ok (.ifCond .eq 122, 3) := by decide +kernel
theorem dL_law_628 : decode cL_law 628 = .ok (.iconst 0, 1) := by decide +kernel
theorem dL_law_629 : decode cL_law 629 = .ok (.ireturn, 1) := by decide +kernel
theorem dL_law_630 : decode cL_law 630 = .ok (.aload_n 1, 1) := by decide +kernel
theorem dL_law_631 : decode cL_law 631 = .ok (.aload_n 0, 1) := by decide +kernel
theorem dL_law_632 : decode cL_law 632 = .ok (.iload 4, 2) := by decide +kernel
theorem dL_law_634 : decode cL_law 634 = .ok (.iconst 1, 1) := by decide +kernel
theorem dL_law_635 : decode cL_law 635 = .ok (.iadd, 1) := by decide +kernel
theorem dL_law_636 : decode cL_law 636 = .ok (.iaload, 1) := by decide +kernel
theorem dL_law_637 : decode cL_law 637 = .ok (.aload_n 0, 1) := by decide +kernel
theorem dL_law_638 : decode cL_law 638 = .ok (.iload 4, 2) := by decide +kernel
theorem dL_law_640 : decode cL_law 640 = .ok (.iconst 2, 1) := by decide +kernel
theorem dL_law_641 : decode cL_law 641 = .ok (.iadd, 1) := by decide +kernel
theorem dL_law_642 : decode cL_law 642 = .ok (.iaload, 1) := by decide +kernel
theorem dL_law_643 : decode cL_law 643 = .ok (.aload_n 3, 1) := by decide +kernel
theorem dL_law_644 : decode cL_law 644 = .ok (.invokestatic 95, 3) := by decide +kernel
theorem dL_law_647 : decode cL_law 647 = .ok (.istore 5, 2) := by decide +kernel
theorem dL_law_649 : decode cL_law 649 = .ok (.aload_n 2, 1) := by decide +kernel
theorem dL_law_650 : decode cL_law 650 = .ok (.aload_n 0, 1) := by decide +kernel
theorem dL_law_651 : decode cL_law 651 = .ok (.iload 4, 2) := by decide +kernel
theorem dL_law_653 : decode cL_law 653 = .ok (.iconst 1, 1) := by decide +kernel
theorem dL_law_654 : decode cL_law 654 = .ok (.iadd, 1) := by decide +kernel
theorem dL_law_655 : decode cL_law 655 = .ok (.iaload, 1) := by decide +kernel
theorem dL_law_656 : decode cL_law 656 = .ok (.aload_n 0, 1) := by decide +kernel
theorem dL_law_657 : decode cL_law 657 = .ok (.iload 4, 2) := by decide +kernel
theorem dL_law_659 : decode cL_law 659 = .ok (.iconst 2, 1) := by decide +kernel
theorem dL_law_660 : decode cL_law 660 = .ok (.iadd, 1) := by decide +kernel
theorem dL_law_661 : decode cL_law 661 = .ok (.iaload, 1) := by decide +kernel
theorem dL_law_662 : decode cL_law 662 = .ok (.invokevirtual 97, 3) := by decide +kernel
theorem dL_law_665 : decode cL_law 665 = .ok (.lstore 6, 2) := by decide +kernel
theorem dL_law_667 : decode cL_law 667 = .ok (.aload_n 2, 1) := by decide +kernel
theorem dL_law_668 : decode cL_law 668 = .ok (.invokevirtual 63, 3) := by decide +kernel
theorem dL_law_671 : decode cL_law 671 = .ok (.iload 5, 2) := by decide +kernel
theorem dL_law_673 : decode cL_law 673 = .ok (.if_icmp .eq 5, 3) := by decide +kernel
theorem dL_law_676 : decode cL_law 676 = .ok (.iconst 0, 1) := by decide +kernel
theorem dL_law_677 : decode cL_law 677 = .ok (.ireturn, 1) := by decide +kernel
theorem dL_law_678 : decode cL_law 678 = .ok (.iload 5, 2) := by decide +kernel
theorem dL_law_680 : decode cL_law 680 = .ok (.ifCond .ne 14, 3) := by decide +kernel
theorem dL_law_683 : decode cL_law 683 = .ok (.aload_n 3, 1) := by decide +kernel
theorem dL_law_684 : decode cL_law 684 = .ok (.iconst 0, 1) := by decide +kernel
theorem dL_law_685 : decode cL_law 685 = .ok (.laload, 1) := by decide +kernel
theorem dL_law_686 : decode cL_law 686 = .ok (.lload 6, 2) := by decide +kernel
theorem dL_law_688 : decode cL_law 688 = .ok (.lcmp, 1) := by decide +kernel
theorem dL_law_689 : decode cL_law 689 = .ok (.ifCond .eq 5, 3) := by decide +kernel
theorem dL_law_692 : decode cL_law 692 = .ok (.iconst 0, 1) := by decide +kernel
theorem dL_law_693 : decode cL_law 693 = .ok (.ireturn, 1) := by decide +kernel
theorem dL_law_694 : decode cL_law 694 = .ok (.goto 53, 3) := by decide +kernel
theorem dL_law_697 : decode cL_law 697 = .ok (.aload_n 1, 1) := by decide +kernel
theorem dL_law_698 : decode cL_law 698 = .ok (.aload_n 0, 1) := by decide +kernel
theorem dL_law_699 : decode cL_law 699 = .ok (.iload 4, 2) := by decide +kernel
theorem dL_law_701 : decode cL_law 701 = .ok (.iconst 1, 1) := by decide +kernel
theorem dL_law_702 : decode cL_law 702 = .ok (.iadd, 1) := by decide +kernel
theorem dL_law_703 : decode cL_law 703 = .ok (.iaload, 1) := by decide +kernel
theorem dL_law_704 : decode cL_law 704 = .ok (.invokevirtual 98, 3) := by decide +kernel
theorem dL_law_707 : decode cL_law 707 = .ok (.aload_n 2, 1) := by decide +kernel
theorem dL_law_708 : decode cL_law 708 = .ok (.aload_n 0, 1) := by decide +kernel
theorem dL_law_709 : decode cL_law 709 = .ok (.iload 4, 2) := by decide +kernel
theorem dL_law_711 : decode cL_law 711 = .ok (.iconst 1, 1) := by decide +kernel
theorem dL_law_712 : decode cL_law 712 = .ok (.iadd, 1) := by decide +kernel
theorem dL_law_713 : decode cL_law 713 = .ok (.iaload, 1) := by decide +kernel
theorem dL_law_714 : decode cL_law 714 = .ok (.invokevirtual 101, 3) := by decide +kernel
theorem dL_law_717 : decode cL_law 717 = .ok (.if_icmp .eq 30, 3) := by decide +kernel
theorem dL_law_720 : decode cL_law 720 = .ok (.iconst 0, 1) := by decide +kernel
theorem dL_law_721 : decode cL_law 721 = .ok (.ireturn, 1) := by decide +kernel
theorem dL_law_722 : decode cL_law 722 = .ok (.aload_n 1, 1) := by decide +kernel
theorem dL_law_723 : decode cL_law 723 = .ok (.aload_n 0, 1) := by decide +kernel
theorem dL_law_724 : decode cL_law 724 = .ok (.iload 4, 2) := by decide +kernel
theorem dL_law_726 : decode cL_law 726 = .ok (.iconst 1, 1) := by decide +kernel
theorem dL_law_727 : decode cL_law 727 = .ok (.iadd, 1) := by decide +kernel
theorem dL_law_728 : decode cL_law 728 = .ok (.iaload, 1) := by decide +kernel
theorem dL_law_729 : decode cL_law 729 = .ok (.invokevirtual 102, 3) := by decide +kernel
theorem dL_law_732 : decode cL_law 732 = .ok (.aload_n 2, 1) := by decide +kernel
theorem dL_law_733 : decode cL_law 733 = .ok (.aload_n 0, 1) := by decide +kernel
theorem dL_law_734 : decode cL_law 734 = .ok (.iload 4, 2) := by decide +kernel
theorem dL_law_736 : decode cL_law 736 = .ok (.iconst 1, 1) := by decide +kernel
theorem dL_law_737 : decode cL_law 737 = .ok (.iadd, 1) := by decide +kernel
theorem dL_law_738 : decode cL_law 738 = .ok (.iaload, 1) := by decide +kernel
theorem dL_law_739 : decode cL_law 739 = .ok (.invokevirtual 105, 3) := by decide +kernel
theorem dL_law_742 : decode cL_law 742 = .ok (.if_icmp .eq 5, 3) := by decide +kernel
theorem dL_law_745 : decode cL_law 745 = .ok (.iconst 0, 1) := by decide +kernel
theorem dL_law_746 : decode cL_law 746 = .ok (.ireturn, 1) := by decide +kernel
theorem dL_law_747 : decode cL_law 747 = .ok (.iinc 4 5, 3) := by decide +kernel
theorem dL_law_750 : decode cL_law 750 = .ok (.goto (-727), 3) := by decide +kernel
theorem dL_law_753 : decode cL_law 753 = .ok (.iconst 1, 1) := by decide +kernel
theorem dL_law_754 : decode cL_law 754 = .ok (.ireturn, 1) := by decide +kernel
end
section
/-! ===== BEGIN words of one list among another's, by their places ===== -/
theorem goodIn_r {big : List Cond} (ws : List Cond) (ps : List Nat) (hp : ws = ps.filterMap (fun i => big[i]?)) (h : ws.all goodWord = true) : GoodIn big ws := by
  intro w hw
  have h1 := List.all_eq_true.mp h w hw
  rw [hp] at hw
  obtain ⟨i, -, hi⟩ := List.mem_filterMap.mp hw
  have hm : w ∈ big := by first | exact List.mem_of_getElem? hi | exact List.getElem?_mem hi
  exact ⟨hm, good_of_word h1⟩
theorem goodIn_app {big a b : List Cond} (ha : GoodIn big a) (hb : GoodIn big b) : GoodIn big (a ++ b) := fun w h => (List.mem_append.mp h).elim (ha w) (hb w)
theorem goodIn_ca {big a b : List Cond} {c : Cond} (ha : GoodIn big (c :: a)) (hb : GoodIn big b) : GoodIn big (c :: (a ++ b)) := fun w h => (List.mem_cons.mp h).elim (fun e => ha w (List.mem_cons.mpr (Or.inl e))) (fun h => (List.mem_append.mp h).elim (fun h => ha w (List.mem_cons.mpr (Or.inr h))) (hb w))
theorem goodIn_sub {big ws : List Cond} (hm : ∀ w ∈ ws, w ∈ big) (h : ws.all goodWord = true) : GoodIn big ws := fun w hw => ⟨hm w hw, good_of_word (List.all_eq_true.mp h w hw)⟩
/-! ===== END ===== -/

/-! ===== BEGIN exceptions that leave a method, and their catching by the caller (launches without stack traces) ===== -/
section VXA
/-! The laws vx_back, vx_callV, vx_callS, vx_callSW, vx_throw0, vx_throwS follow proofs of the library, with one case more: JvmDerived/Free/Laws.lean (Back.of_free), Shelf42/LK1.lean (callV, callS), Shelf/KitTraced.lean (throwNew0V, throwNewS). -/
/-- where a method has thrown q: the class by its name, the cell, what was written, the world -/
def vx_T (XC : String → State → State → Prop) (st : State) (q : Addr) (t : State) (mc ms : Nat) (free : Addr → Prop) : Prop :=
  ∃ (E : String) (ce : Cell) (L : List Loc), XC E st t ∧ t.heap[q]? = some ce ∧ ce.vm = .none ∧ st.vm.findClass E = some ce.cls ∧ st.WarmedH t.vm ∧ st.sameButNew ({ t with vm := st.vm } : State) L mc ms ∧ ∀ z ∈ L, free z.base
def vx_Q (Qc : Array Value → State → Outcome → State → Prop) (XC : String → State → State → Prop) (mc ms : Nat) (free : Addr → Prop) : Array Value → State → Outcome → State → Prop := fun a st o t =>
  (Qc a st o t ∧ ∃ L, FrameEnd st o t L mc ms ∧ ∀ q ∈ L, free q.base) ∨ ∃ q, o = .threw q ∧ vx_T XC st q t mc ms free
/-- a callee that returns or throws -/
def vx_Met (l : Launch) (y : MethodName) (ws : List Cond) (rm : Room) (Pc : Array Value → State → Prop) (Qc : Array Value → State → Outcome → State → Prop) (XC : String → State → State → Prop) (mc ms : Nat) (free : Addr → Prop) : Prop :=
  MetFree l y (headSpec ws rm) Pc (fun _ _ _ _ _ => True) (vx_Q Qc XC mc ms free)
def vx_Post (XC : String → State → State → Prop) (mc ms : Nat) (free : Addr → Prop) : Pt → Array Value → Addr → Pt → Prop := fun A a q B =>
  ∃ (g : JFrame) (mk : MethodId) (t : State) (L : List Loc) (E : String) (ce : Cell), B.U.heap = t.heap ∧ B.U.vm = t.vm ∧ XC E (A.U.calling g mk a) t ∧ t.heap[q]? = some ce ∧ ce.vm = .none ∧ A.U.vm.findClass E = some ce.cls ∧ B.locs = A.locs ++ L ∧ (∀ z ∈ L, free z.base) ∧ B.cells = A.cells + mc ∧ B.slots = A.slots + ms
def vx_Back (l : Launch) (R : Room) (p : Program) (e : Env) (below : List Frame) (s : State) (sargs : Array Value) (y : MethodName) (len W9 : Nat)
    (Pre : Pt → Array Value → Prop) (Post : Pt → Array Value → Option Value → Pt → Prop) (PostX : Pt → Array Value → Addr → Pt → Prop) : Prop :=
  ∀ (m : MethodId) (meth : Method) (c : Code) (A : Pt) (g : JFrame) (ig : Instr) (mk : MethodId) (a : Array Value),
    Stand p l e R s m sargs below meth c A.U A.locs A.cells A.slots → g.method = m → g.locals.size = c.maxLocals → decode c.code g.pc = .ok (ig, len) →
    2 * g.monitorRoom + (g.stack.map fun v => v.category).sum ≤ W9 → A.U.methodNamed? y = some mk → Pre A a →
    (∃ (v : Option Value) (B : Pt), Stand p l e R s m sargs below meth c B.U B.locs B.cells B.slots ∧ Post A a v B ∧
      Steps p.tables e below (doInvoke e (A.U.setTop g) [] mk a).1 (B.U.setTop { g with pc := g.pc + len, stack := v.toList ++ g.stack })) ∨
    (∃ (q : Addr) (B : Pt), Stand p l e R s m sargs below meth c B.U B.locs B.cells B.slots ∧ PostX A a q B ∧
      Steps p.tables e below (doInvoke e (A.U.setTop g) [] mk a).1 ((B.U.setTop g).pushFrame (.throwing q)))
section Payer
variable {l : Launch} {R : Room} {p : Program} {e : Env} {below : List Frame} {s : State} {sargs : Array Value} {y : MethodName} {len W9 : Nat}
theorem vx_back {ws : List Cond} {rm : Room} {Pc : Array Value → State → Prop} {Qc : Array Value → State → Outcome → State → Prop} {XC : String → State → State → Prop} {mc ms : Nat} {free : Addr → Prop} {bytes : ByteArray} {maxL : Nat} {ret : Option FieldType}
    (hM : vx_Met l y ws rm Pc Qc XC mc ms free) (hblind : FrameBlind Pc) (hrc : rm.cells = mc) (hrs : rm.slots = ms)
    (hframes : rm.frames + 1 ≤ R.frames) (hlocals : W9 + (maxL + 11) + rm.locals ≤ R.locals)
    (hws : ∀ w ∈ ws, ∀ a' U, s.WarmedH U.vm → w.before a' U = true) (hcode : Cond.code y bytes maxL ret ∈ ws) (hinit : ∀ a' U, s.WarmedH U.vm → (Cond.initialized y.cls).before a' U = true) :
    vx_Back l R p e below s sargs y len W9 (PreOf R mc ms Pc) (PostOf Qc mc ms free) (vx_Post XC mc ms free) := by
  intro m meth c A g ig mk a X hg hsize hdg hW hn hp
  have h1 : (headSpec ws rm).pre.before a A.U = true := atoms_intro fun w hw => hws w hw _ _ X.warmed
  have h2 : (Cond.code y bytes maxL ret).before a A.U = true := hws _ hcode _ _ X.warmed
  have h3 : (Cond.initialized y.cls).before a A.U = true := hinit _ _ X.warmed
  have h4 : A.cells + (headSpec ws rm).room.cells ≤ R.cells := by rw [show (headSpec ws rm).room.cells = mc from hrc]; exact hp.1
  have h5 : A.slots + (headSpec ws rm).room.slots ≤ R.slots := by rw [show (headSpec ws rm).room.slots = ms from hrs]; exact hp.2.1
  have hPc : Pc a (A.U.calling g mk a) := hblind _ _ _ _ hp.2.2
  obtain ⟨U, Ls, c0, s0⟩ := A
  dsimp only [Pt.U, Pt.locs, Pt.cells, Pt.slots] at h1 h2 h3 h4 h5 X hn hPc ⊢
  obtain ⟨methY, cY, hmY, hcY, -, hlY, -, -, -, -⟩ := Cond.code_spec hn h2
  obtain ⟨kY, hkY, -⟩ := className_of_methodNamed hn
  have hinitY : kY.init = .initialized := Cond.initialized_spec (findClass_of_methodNamed hn) hkY h3
  have h : At U g.method c below := by rw [hg]; exact X.here
  have hlocals9 : W9 + (maxL + 11) + (headSpec ws rm).room.locals ≤ R.locals := hlocals
  have happ : (headSpec ws rm).appliesLoose y e.platform (U.calling g mk a) = true :=
    Spec.appliesLoose_calling (g := g) h hdg hn hkY hinitY
      (X.room_calling (g := g) (R' := (headSpec ws rm).room) hsize hmY hcY hframes (by rw [hlY]; omega) h4 h5) h1
  obtain ⟨mid, hmid⟩ := h.above
  have hfr : (U.setTop g).frames = (.java g :: mid) ++ below := by rw [State.frames_setTop' g h.top, hmid]; rfl
  obtain ⟨o, s₂, hsteps, -, hend, hq⟩ := Steps.callFree hM p X.admits X.cas X.clock (acts := []) hfr happ hPc trivial
  have hq' : vx_Q Qc XC mc ms free a (U.calling g mk a) o s₂ := hq
  rw [State.frames_setTop' g h.top] at hend
  obtain ⟨g₀, hg0⟩ := Option.isSome_iff_exists.mp h.top
  obtain ⟨r, hr⟩ := State.topJava?_eq_some.mp hg0
  have hr' : (({ U with heap := s₂.heap, slotsUsed := s₂.slotsUsed } : State).setVm s₂.vm).frames = .java g₀ :: r := hr
  rcases hq' with ⟨hqc, L, hfe, hL⟩ | ⟨q, rfl, E, ce, L, hx, hce, hcv, hcl, hW₂, hsm, hL⟩
  · obtain ⟨⟨v, rfl⟩, hW₂, e2, q2, q3, q4, q5, q6⟩ := id hfe
    have e3 : s₂ = ({ (U.calling g mk a).setFrames s₂.frames with heap := s₂.heap, slotsUsed := s₂.slotsUsed } : State).setVm s₂.vm := by
      have : s₂ = ({ s₂ with vm := (U.calling g mk a).vm } : State).setVm s₂.vm := rfl
      rw [e2] at this
      exact this
    obtain ⟨c₂, i₂, len₂, hc₂, hd₂, hf₂⟩ := hend
    have hW' : U.WarmedH s₂.vm := hW₂
    have hcc : c₂ = c := by
      have h1 : s₂.code? g.method = U.code? g.method := by
        rw [State.code?_eq, State.code?_eq, hW'.alike.method?]
      exact Option.some.inj (hc₂.symm.trans (h1.trans h.code))
    subst hcc
    have hlen : len₂ = len := by rw [hdg] at hd₂; cases hd₂; rfl
    subst hlen
    have hs₂ : s₂ = (({ U with heap := s₂.heap, slotsUsed := s₂.slotsUsed } : State).setVm s₂.vm).setTop { g with pc := g.pc + len₂, stack := v.toList ++ g.stack } := by
      refine e3.trans ?_
      rw [hf₂, State.calling_eq h.top, State.setFrames_setFrames, State.setTop_of_frames _ hr', hr]
      rfl
    have hsame : U.sameButNew ({ U with heap := s₂.heap, slotsUsed := s₂.slotsUsed } : State) L mc ms := by
      refine ⟨?_, q2, q3, q4, q5, q6⟩
      obtain ⟨t, ht, -⟩ := State.frames_cons hr
      show ({ U with heap := s₂.heap, slotsUsed := s₂.slotsUsed } : State) = { U.setFrames U.frames with heap := s₂.heap, slotsUsed := s₂.slotsUsed }
      rw [State.setFrames_self ht]
    subst hg
    refine Or.inl ⟨v, ⟨(({ U with heap := s₂.heap, slotsUsed := s₂.slotsUsed } : State).setVm s₂.vm), Ls ++ L, c0 + mc, s0 + ms⟩,
      ⟨X.admits, X.cas, X.clock, X.frames, X.room, X.hears, X.method, X.code, (X.here.setHeapUsed s₂.heap s₂.slotsUsed).setVm hW'.alike, X.tail, State.WarmedH.trans X.warmed hW', X.limits, X.bytes, X.same.trans (hsame.setVm s.vm)⟩,
      ⟨g, mk, s₂, L, rfl, rfl, hqc, rfl, hL, rfl, rfl⟩, ?_⟩
    show Steps p.tables e below _ ((({ U with heap := s₂.heap, slotsUsed := s₂.slotsUsed } : State).setVm s₂.vm).setTop { g with pc := g.pc + len₂, stack := v.toList ++ g.stack })
    rw [← hs₂]
    exact hsteps
  · obtain ⟨e2, q2, q3, q4, q5, q6⟩ := id hsm
    have e3 : s₂ = ({ (U.calling g mk a).setFrames s₂.frames with heap := s₂.heap, slotsUsed := s₂.slotsUsed } : State).setVm s₂.vm := by
      have : s₂ = ({ s₂ with vm := (U.calling g mk a).vm } : State).setVm s₂.vm := rfl
      rw [e2] at this
      exact this
    have hf₂ : s₂.frames = .throwing q :: .java g :: U.frames.tail := hend
    have hW' : U.WarmedH s₂.vm := hW₂
    have hs₂ : s₂ = ((({ U with heap := s₂.heap, slotsUsed := s₂.slotsUsed } : State).setVm s₂.vm).setTop g).pushFrame (.throwing q) := by
      refine e3.trans ?_
      rw [hf₂, State.calling_eq h.top, State.setFrames_setFrames, State.pushFrame, State.frames_setTop _ hr', State.setTop_of_frames _ hr', State.setFrames_setFrames, hr]
      rfl
    have hsame : U.sameButNew ({ U with heap := s₂.heap, slotsUsed := s₂.slotsUsed } : State) L mc ms := by
      refine ⟨?_, q2, q3, q4, q5, q6⟩
      obtain ⟨t, ht, -⟩ := State.frames_cons hr
      show ({ U with heap := s₂.heap, slotsUsed := s₂.slotsUsed } : State) = { U.setFrames U.frames with heap := s₂.heap, slotsUsed := s₂.slotsUsed }
      rw [State.setFrames_self ht]
    subst hg
    refine Or.inr ⟨q, ⟨(({ U with heap := s₂.heap, slotsUsed := s₂.slotsUsed } : State).setVm s₂.vm), Ls ++ L, c0 + mc, s0 + ms⟩,
      ⟨X.admits, X.cas, X.clock, X.frames, X.room, X.hears, X.method, X.code, (X.here.setHeapUsed s₂.heap s₂.slotsUsed).setVm hW'.alike, X.tail, State.WarmedH.trans X.warmed hW', X.limits, X.bytes, X.same.trans (hsame.setVm s.vm)⟩,
      ⟨g, mk, s₂, L, E, ce, rfl, rfl, hx, hce, hcv, hcl, rfl, hL, rfl, rfl⟩, ?_⟩
    show Steps p.tables e below _ (((({ U with heap := s₂.heap, slotsUsed := s₂.slotsUsed } : State).setVm s₂.vm).setTop g).pushFrame (.throwing q))
    rw [← hs₂]
    exact hsteps
end Payer
section Calls
variable {p : Program} {l : Launch} {e : Env} {R : Room} {s : State} {m : MethodId} {args : Array Value} {below : List Frame} {meth : Method} {c : Code} {T : State} {locs : List Loc} {cells slots : Nat}
theorem vx_callV (X : Stand p l e R s m args below meth c T locs cells slots) (hexec : p.tables.exec = Jvm.exec) {own C : String} {index : Nat} {y : MethodName} {bytes : ByteArray} {maxL : Nat} {ret : Option FieldType}
    (hown : s.vm.findClass own = some m.cls) (hlink : (Cond.methodLink own index y).before args s = true) (hinst : (Cond.instanceMethod y).before args s = true) (hsel : (Cond.selects C y y).before args s = true)
    (hcode : (Cond.code y bytes maxL ret).before args s = true) (hy : y.cls ≠ "java/lang/invoke/MethodHandle" ∧ y.cls ≠ "java/lang/invoke/VarHandle")
    {W9 : Nat} {Pre : Pt → Array Value → Prop} {Post : Pt → Array Value → Option Value → Pt → Prop} {PostX : Pt → Array Value → Addr → Pt → Prop} (hK : vx_Back l R p e below s args y 3 W9 Pre Post PostX)
    {b : Addr} {cellB : Cell} (hcell : T.heap[b]? = some cellB) (hobj : cellB.vm.isStatics = false) (hcls : s.vm.findClass C = some cellB.cls)
    {g : JFrame} (hg : g.method = m) (hsize : g.locals.size = c.maxLocals) {argsL rest : List Value} (hlen : ∀ sig, parseMethodDescriptor y.desc = some sig → argsL.length = sig.parameters.length)
    (hstack : g.stack = argsL.reverse ++ .ref b :: rest) (hW : 2 * g.monitorRoom + (rest.map fun v => v.category).sum ≤ W9) (hdg : decode c.code g.pc = .ok (.invokevirtual index, 3))
    (hpre : ∀ vm₁, s.WarmedH vm₁ → Pre ⟨T.setVm vm₁, locs, cells, slots⟩ (Value.ref b :: argsL).toArray) :
    (∃ (v : Option Value) (vm₁ : Vm) (B : Pt), s.WarmedH vm₁ ∧ Stand p l e R s m args below meth c B.U B.locs B.cells B.slots ∧ Post ⟨T.setVm vm₁, locs, cells, slots⟩ (Value.ref b :: argsL).toArray v B ∧
      ∀ target, Steps p.tables e below (B.U.setTop { g with pc := g.pc + 3, stack := v.toList ++ rest }) target → Steps p.tables e below (T.setTop g) target) ∨
    (∃ (q : Addr) (vm₁ : Vm) (B : Pt), s.WarmedH vm₁ ∧ Stand p l e R s m args below meth c B.U B.locs B.cells B.slots ∧ PostX ⟨T.setVm vm₁, locs, cells, slots⟩ (Value.ref b :: argsL).toArray q B ∧
      Steps p.tables e below (T.setTop g) ((B.U.setTop { g with stack := rest }).pushFrame (.throwing q))) := by
  obtain ⟨mk, methM, hnamed, hmethM, hstM, habM⟩ := Cond.instanceMethod_spec hinst
  obtain ⟨methM', cM, hmethM', -, -, -, -, -, -, hsigM⟩ := Cond.code_spec hnamed hcode
  cases hmethM.symm.trans hmethM'
  obtain ⟨c2, r2, m2, q1, q2, q3, q4, kP, hkP, hkPi⟩ := Cond.selects_spec hsel
  cases hcls.symm.trans q1
  cases (State.methodFound?_of_named hnamed hy).symm.trans q2
  cases hnamed.symm.trans q3
  have hselP : selectMethod e.platform s.vm cellB.cls mk = .method mk := by rw [Launch.admits_selectMethod X.admits]; exact q4
  obtain ⟨vm₁, X₁, hstep₁⟩ := X.invokevirtual hexec hown hlink hnamed hmethM hstM hkP hkPi hy (a := b) (cell := cellB) hcell
    (fun z h => by rw [h] at hobj; cases hobj) hselP hmethM habM hkP hkPi (g := g) hg (argsL := argsL) (rest := rest) (hlen _ hsigM) hstack hdg
  rcases hK m meth c ⟨T.setVm vm₁, locs, cells, slots⟩ { g with stack := rest } (.invokevirtual index) mk (Value.ref b :: argsL).toArray X₁ hg hsize hdg hW (X₁.named hnamed) (hpre vm₁ X₁.warmed) with ⟨v, B, X', hpost, hsteps⟩ | ⟨q, B, X', hpost, hsteps⟩
  · exact Or.inl ⟨v, vm₁, B, X₁.warmed, X', hpost, fun target h => hstep₁ _ fun acts => by rw [doInvoke_state]; exact hsteps.trans h⟩
  · exact Or.inr ⟨q, vm₁, B, X₁.warmed, X', hpost, hstep₁ _ fun acts => by rw [doInvoke_state]; exact hsteps⟩
theorem vx_callS (X : Stand p l e R s m args below meth c T locs cells slots) (hexec : p.tables.exec = Jvm.exec) {own : String} {index : Nat} {y : MethodName} {bytes : ByteArray} {maxL : Nat} {ret : Option FieldType}
    (hown : s.vm.findClass own = some m.cls) (hlink : (Cond.methodLink own index y).before args s = true) (hstat : (Cond.static y).before args s = true) (hinit : (Cond.initialized y.cls).before args s = true)
    (hcode : (Cond.code y bytes maxL ret).before args s = true) (hy : y.cls ≠ "java/lang/invoke/MethodHandle" ∧ y.cls ≠ "java/lang/invoke/VarHandle")
    {W9 : Nat} {Pre : Pt → Array Value → Prop} {Post : Pt → Array Value → Option Value → Pt → Prop} {PostX : Pt → Array Value → Addr → Pt → Prop} (hK : vx_Back l R p e below s args y 3 W9 Pre Post PostX)
    {g : JFrame} (hg : g.method = m) (hsize : g.locals.size = c.maxLocals) {argsL rest : List Value} (hlen : ∀ sig, parseMethodDescriptor y.desc = some sig → argsL.length = sig.parameters.length)
    (hstack : g.stack = argsL.reverse ++ rest) (hW : 2 * g.monitorRoom + (rest.map fun v => v.category).sum ≤ W9) (hdg : decode c.code g.pc = .ok (.invokestatic index, 3))
    (hpre : ∀ vm₁, s.WarmedH vm₁ → Pre ⟨T.setVm vm₁, locs, cells, slots⟩ argsL.toArray) :
    (∃ (v : Option Value) (vm₁ : Vm) (B : Pt), s.WarmedH vm₁ ∧ Stand p l e R s m args below meth c B.U B.locs B.cells B.slots ∧ Post ⟨T.setVm vm₁, locs, cells, slots⟩ argsL.toArray v B ∧
      ∀ target, Steps p.tables e below (B.U.setTop { g with pc := g.pc + 3, stack := v.toList ++ rest }) target → Steps p.tables e below (T.setTop g) target) ∨
    (∃ (q : Addr) (vm₁ : Vm) (B : Pt), s.WarmedH vm₁ ∧ Stand p l e R s m args below meth c B.U B.locs B.cells B.slots ∧ PostX ⟨T.setVm vm₁, locs, cells, slots⟩ argsL.toArray q B ∧
      Steps p.tables e below (T.setTop g) ((B.U.setTop { g with stack := rest }).pushFrame (.throwing q))) := by
  obtain ⟨mk, hnamed⟩ := Cond.code_named hcode
  obtain ⟨methM, cM, hmethM, -, -, -, -, -, -, hsigM⟩ := Cond.code_spec hnamed hcode
  have hstatic : methM.isStatic = true := Cond.static_spec hnamed hmethM hstat
  obtain ⟨kP, hkP, -⟩ := className_of_methodNamed hnamed
  have hinitP : kP.init = .initialized := Cond.initialized_spec (findClass_of_methodNamed hnamed) hkP hinit
  obtain ⟨vm₁, X₁, hstep₁⟩ := X.invokestatic hexec hown hlink hnamed hmethM hstatic hkP hinitP hy (g := g) hg (argsL := argsL) (rest := rest) (hlen _ hsigM) hstack hdg
  rcases hK m meth c ⟨T.setVm vm₁, locs, cells, slots⟩ { g with stack := rest } (.invokestatic index) mk argsL.toArray X₁ hg hsize hdg hW (X₁.named hnamed) (hpre vm₁ X₁.warmed) with ⟨v, B, X', hpost, hsteps⟩ | ⟨q, B, X', hpost, hsteps⟩
  · exact Or.inl ⟨v, vm₁, B, X₁.warmed, X', hpost, fun target h => hstep₁ _ fun acts => by rw [doInvoke_state]; exact hsteps.trans h⟩
  · exact Or.inr ⟨q, vm₁, B, X₁.warmed, X', hpost, hstep₁ _ fun acts => by rw [doInvoke_state]; exact hsteps⟩
end Calls
theorem vx_cls {s : State} {T : State} {vm₁ : Vm} {E : String} {k : ClassId} (hW : s.WarmedH vm₁) (h : (T.setVm vm₁).vm.findClass E = some k) : s.vm.findClass E = some k := by
  have h1 : vm₁.findClass E = some k := h
  rw [hW.alike.findClass] at h1
  exact h1
/-- the method's frame g, with q thrown over it -/
def vx_W (p : Program) (l : Launch) (e : Env) (R : Room) (s : State) (m : MethodId) (args : Array Value) (below : List Frame) (meth : Method) (c : Code) (H : Heap) (locs : List Loc) (cells slots : Nat) (Q : State → Prop) (g : JFrame) (q : Addr) : Prop :=
  ∀ T : State, T.heap = H → Stand p l e R s m args below meth c T locs cells slots → ∃ t, Steps p.tables e below ((T.setTop g).pushFrame (.throwing q)) t ∧ Q t
def vx_Run (p : Program) (l : Launch) (e : Env) (R : Room) (s : State) (m : MethodId) (args : Array Value) (below : List Frame) (meth : Method) (c : Code) (H : Heap) (locs : List Loc) (cells slots mc ms : Nat) (g : JFrame) (rest : List Value) (Qa : State → Outcome → State → Prop) (XC : String → State → State → Prop) (free : Addr → Prop) : Prop :=
  ∀ T : State, T.heap = H → Stand p l e R s m args below meth c T locs cells slots →
    (∃ (v : Option Value) (st₀ t T' : State) (L : List Loc), st₀.heap = H ∧ Stand p l e R s m args below meth c T' (locs ++ L) (cells + mc) (slots + ms) ∧ (∀ q ∈ L, free q.base) ∧ T'.heap = t.heap ∧ T'.vm = t.vm ∧ Qa st₀ (.returned v) t ∧
      Goes p e below T g T' { g with pc := g.pc + 3, stack := v.toList ++ rest }) ∨
    (∃ (q : Addr) (st₀ t T' : State) (L : List Loc) (E : String) (ce : Cell), st₀.heap = H ∧ Stand p l e R s m args below meth c T' (locs ++ L) (cells + mc) (slots + ms) ∧ (∀ z ∈ L, free z.base) ∧ T'.heap = t.heap ∧ T'.vm = t.vm ∧ XC E st₀ t ∧ t.heap[q]? = some ce ∧ ce.vm = .none ∧ s.vm.findClass E = some ce.cls ∧
      Steps p.tables e below (T.setTop g) ((T'.setTop { g with stack := rest }).pushFrame (.throwing q)))
def vx_X {S : Type} (px : S → Prop) (B : String → S → State → Prop) (A : Nat → Prop) : String → State → State → Prop := fun E st t => ∃ u : S, px u ∧ B E u t ∧ va_F A st t
section Runs
variable {p : Program} {l : Launch} {e : Env} {R : Room} {s : State} {m : MethodId} {args : Array Value} {below : List Frame} {meth : Method} {c : Code} {H : Heap} {locs : List Loc} {cells slots : Nat}
variable {y : MethodName} {bytes cc : ByteArray} {maxL nL mc ms n index : Nat} {ret : Option FieldType} {ws : List Cond} {rm : Room} {Pc : Array Value → State → Prop} {Qc : Array Value → State → Outcome → State → Prop} {XC : String → State → State → Prop} {free : Addr → Prop} {Ts : List Cond} {own C : String} {b : Addr} {As rest : List Value} {g : JFrame}
theorem vx_callBack (cb : CallB R s args own index y bytes maxL ret ws rm mc ms n) (hM : vx_Met l y ws rm Pc Qc XC mc ms free) (hbl : FrameBlind Pc) : vx_Back l R p e below s args y 3 8 (PreOf R mc ms Pc) (PostOf Qc mc ms free) (vx_Post XC mc ms free) := by
  obtain ⟨hrc, hrs, hfr, hlo, hws, hcw, -, hini, -⟩ := cb
  exact vx_back (bytes := bytes) (maxL := maxL) (ret := ret) hM hbl hrc hrs hfr hlo hws hcw (fun a' U hW => word_at hW (Or.inl (by first | rfl | simp [Cond.onTables, Cond.keeps, Cond.steady])) hini)
theorem vx_runV (S : CallFix p m c cc nL s args Ts own) (hM : vx_Met l y ws rm Pc Qc XC mc ms free) (cw : CallW R s args own C index y bytes maxL ret ws rm mc ms n) (hp : PreV s H C b Pc As)
    (hg : g.method = m) (hn : As.length = n) (hsize : g.locals.size = nL) (hstack : g.stack = As.reverse ++ .ref b :: rest) (hW : 2 * g.monitorRoom + (rest.map fun v => v.category).sum ≤ 8) (hdg : decode cc g.pc = .ok (.invokevirtual index, 3)) (hf : cells + mc ≤ R.cells ∧ slots + ms ≤ R.slots) :
    vx_Run p l e R s m args below meth c H locs cells slots mc ms g rest (Qc (Value.ref b :: As).toArray) XC free := by
  have hK : vx_Back l R p e below s args y 3 8 (PreOf R mc ms Pc) (PostOf Qc mc ms free) (vx_Post XC mc ms free) := vx_callBack cw.1 hM hp.1
  obtain ⟨⟨-, -, -, -, -, -, hcode, -, hy, hlen, hl⟩, hin, hse⟩ := cw
  obtain ⟨hx, hb, hml, ho, -⟩ := S
  obtain ⟨-, ⟨cellB, hcB, hoB, hclB⟩, hPc⟩ := hp
  intro T hT X
  rcases vx_callV X hx (C := C) (bytes := bytes) (maxL := maxL) (ret := ret) ho hl hin hse hcode hy hK (by rw [hT]; exact hcB) hoB hclB hg (hsize.trans hml.symm) (argsL := As) (rest := rest) (fun sig h => hn.trans (hlen sig h)) hstack hW (by rw [hb]; exact hdg)
    (fun vm₁ hW₁ => ⟨hf.1, hf.2, hPc (T.setVm vm₁) hT hW₁⟩) with ⟨v, vm₁, ⟨U', l2, c2, s2⟩, hW₁, X', ⟨g', mk, t, L, e1, e2, hq, h1, hL, h2, h3⟩, st⟩ | ⟨q, vm₁, ⟨U', l2, c2, s2⟩, hW₁, X', ⟨g', mk, t, L, E, ce, e1, e2, hq, hce, hcv, hcl, h1, hL, h2, h3⟩, st⟩
  · dsimp only [Pt.U, Pt.locs, Pt.cells, Pt.slots] at X' e1 e2 h1 h2 h3 st
    subst h1; subst h2; subst h3
    exact Or.inl ⟨v, (T.setVm vm₁).calling g' mk (Value.ref b :: As).toArray, t, U', L, hT, X', hL, e1, e2, hq, st⟩
  · dsimp only [Pt.U, Pt.locs, Pt.cells, Pt.slots] at X' e1 e2 h1 h2 h3 st hcl
    subst h1; subst h2; subst h3
    exact Or.inr ⟨q, (T.setVm vm₁).calling g' mk (Value.ref b :: As).toArray, t, U', L, E, ce, hT, X', hL, e1, e2, hq, hce, hcv, vx_cls hW₁ hcl, st⟩
theorem vx_runS (S : CallFix p m c cc nL s args Ts own) (hM : vx_Met l y ws rm Pc Qc XC mc ms free) (cw : CallB R s args own index y bytes maxL ret ws rm mc ms n ∧ (Cond.static y).before args s = true) (hp : PreS s H Pc As)
    (hg : g.method = m) (hn : As.length = n) (hsize : g.locals.size = nL) (hstack : g.stack = As.reverse ++ rest) (hW : 2 * g.monitorRoom + (rest.map fun v => v.category).sum ≤ 8) (hdg : decode cc g.pc = .ok (.invokestatic index, 3)) (hf : cells + mc ≤ R.cells ∧ slots + ms ≤ R.slots) :
    vx_Run p l e R s m args below meth c H locs cells slots mc ms g rest (Qc As.toArray) XC free := by
  have hK : vx_Back l R p e below s args y 3 8 (PreOf R mc ms Pc) (PostOf Qc mc ms free) (vx_Post XC mc ms free) := vx_callBack cw.1 hM hp.1
  obtain ⟨⟨-, -, -, -, -, -, hcode, hini, hy, hlen, hl⟩, hstt⟩ := cw
  obtain ⟨hx, hb, hml, ho, -⟩ := S
  intro T hT X
  rcases vx_callS X hx (bytes := bytes) (maxL := maxL) (ret := ret) ho hl hstt hini hcode hy hK hg (hsize.trans hml.symm) (argsL := As) (rest := rest) (fun sig h => hn.trans (hlen sig h)) hstack hW (by rw [hb]; exact hdg)
    (fun vm₁ hW₁ => ⟨hf.1, hf.2, hp.2 (T.setVm vm₁) hT hW₁⟩) with ⟨v, vm₁, ⟨U', l2, c2, s2⟩, hW₁, X', ⟨g', mk, t, L, e1, e2, hq, h1, hL, h2, h3⟩, st⟩ | ⟨q, vm₁, ⟨U', l2, c2, s2⟩, hW₁, X', ⟨g', mk, t, L, E, ce, e1, e2, hq, hce, hcv, hcl, h1, hL, h2, h3⟩, st⟩
  · dsimp only [Pt.U, Pt.locs, Pt.cells, Pt.slots] at X' e1 e2 h1 h2 h3 st
    subst h1; subst h2; subst h3
    exact Or.inl ⟨v, (T.setVm vm₁).calling g' mk As.toArray, t, U', L, hT, X', hL, e1, e2, hq, st⟩
  · dsimp only [Pt.U, Pt.locs, Pt.cells, Pt.slots] at X' e1 e2 h1 h2 h3 st hcl
    subst h1; subst h2; subst h3
    exact Or.inr ⟨q, (T.setVm vm₁).calling g' mk As.toArray, t, U', L, E, ce, hT, X', hL, e1, e2, hq, hce, hcv, vx_cls hW₁ hcl, st⟩
end Runs
section Rows
variable {p : Program} {l : Launch} {e : Env} {R : Room} {s : State} {m : MethodId} {args : Array Value} {below : List Frame} {meth : Method} {c : Code} {H : Heap} {locs : List Loc} {cells slots : Nat} {Q : State → Prop}
variable {mc ms : Nat} {free : Addr → Prop} {A0 A1 : Nat → Prop} {H0 : Heap} {a : Array Value} {pc : Nat} {ls : Array Slot} {st0 rest : List Value}
theorem vx_keep {st₀ t T' : State} {L : List Loc} (h0 : st₀.heap = H) (e1 : T'.heap = t.heap) (hS : va_S A0 H0 H locs) (hA : ∀ q, q < H.size → A1 q → A0 q) (hf : ∀ q, free q → A0 q) (hL : ∀ q ∈ L, free q.base) (hF : va_F A1 st₀ t) :
    H.size ≤ T'.heap.size ∧ (∀ q : Nat, q < H.size → ¬ A1 q → T'.heap[q]? = H[q]?) ∧ va_S A0 H0 T'.heap (locs ++ L) := by
  obtain ⟨hz, hk⟩ := hF
  rw [h0] at hz hk
  exact ⟨by rw [e1]; exact hz, fun q h1 h2 => by rw [e1]; exact hk q h1 h2,
    ⟨Nat.le_trans hS.1 (by rw [e1]; exact hz), fun q h1 h2 => by rw [e1, hk q (Nat.lt_of_lt_of_le h1 hS.1) (fun z => h2 (hA q (Nat.lt_of_lt_of_le h1 hS.1) z))]; exact hS.2.1 q h1 h2, fun q hq => by
      rcases List.mem_append.mp hq with h | h
      · exact hS.2.2 q h
      · exact hf _ (hL q h)⟩⟩
theorem vx_calli {S SX : Type} {post : Int32 → S → Prop} {px : SX → Prop} {B : S → State → Prop} {BX : String → SX → State → Prop} {AX : Nat → Prop} (hr : vx_Run p l e R s m args below meth c H locs cells slots mc ms (F0 m pc ls st0) rest (va_Qi post B A1 a) (vx_X px BX AX) free) (hS : va_S A0 H0 H locs) (hA : ∀ q, q < H.size → A1 q → A0 q) (hf : ∀ q, free q → A0 q) (hAX : ∀ q, q < H.size → AX q → A0 q)
    (kx : ∀ (E : String) (ce : Cell) (q9 : Addr) (u : SX) (t : State) (H1 : Heap) (locs1 : List Loc), t.heap = H1 → s.vm.Alike t.vm → px u → BX E u t → H.size ≤ H1.size → (∀ q : Nat, q < H.size → ¬ AX q → H1[q]? = H[q]?) → va_S A0 H0 H1 locs1 → H1[q9]? = some ce → ce.vm = .none → s.vm.findClass E = some ce.cls → vx_W p l e R s m args below meth c H1 locs1 (cells + mc) (slots + ms) Q (F0 m pc ls rest) q9)
    (kk : ∀ (r : Int32) (u : S) (t : State) (H1 : Heap) (locs1 : List Loc), t.heap = H1 → s.vm.Alike t.vm → post r u → B u t → H.size ≤ H1.size → (∀ q : Nat, q < H.size → ¬ A1 q → H1[q]? = H[q]?) → va_S A0 H0 H1 locs1 → W p l e R s m args below meth c H1 locs1 (cells + mc) (slots + ms) Q (F0 m (pc + 3) ls (.int r :: rest))) : W p l e R s m args below meth c H locs cells slots Q (F0 m pc ls st0) := by
  intro T hT X
  rcases hr T hT X with ⟨v, st₀, t, T', L, h0, X', hL, e1, e2, ⟨⟨r, u, hv, hp, hb⟩, hF⟩, st⟩ | ⟨q, st₀, t, T', L, E, ce, h0, X', hL, e1, e2, ⟨u, hp, hb, hF⟩, hce, hcv, hcl, st⟩
  · cases hv
    obtain ⟨k1, k2, k3⟩ := vx_keep h0 e1 hS hA hf hL hF
    obtain ⟨t2, a1, b1⟩ := kk r u t T'.heap (locs ++ L) e1.symm (by rw [← e2]; exact X'.warmed.alike) hp hb k1 k2 k3 T' rfl X'
    exact ⟨t2, st t2 a1, b1⟩
  · obtain ⟨k1, k2, k3⟩ := vx_keep h0 e1 hS hAX hf hL hF
    obtain ⟨t2, a1, b1⟩ := kx E ce q u t T'.heap (locs ++ L) e1.symm (by rw [← e2]; exact X'.warmed.alike) hp hb k1 k2 k3 (by rw [e1]; exact hce) hcv hcl T' rfl X'
    exact ⟨t2, st.trans a1, b1⟩
theorem vx_calll {S SX : Type} {post : Int64 → S → Prop} {px : SX → Prop} {B : S → State → Prop} {BX : String → SX → State → Prop} {AX : Nat → Prop} (hr : vx_Run p l e R s m args below meth c H locs cells slots mc ms (F0 m pc ls st0) rest (va_Ql post B A1 a) (vx_X px BX AX) free) (hS : va_S A0 H0 H locs) (hA : ∀ q, q < H.size → A1 q → A0 q) (hf : ∀ q, free q → A0 q) (hAX : ∀ q, q < H.size → AX q → A0 q)
    (kx : ∀ (E : String) (ce : Cell) (q9 : Addr) (u : SX) (t : State) (H1 : Heap) (locs1 : List Loc), t.heap = H1 → s.vm.Alike t.vm → px u → BX E u t → H.size ≤ H1.size → (∀ q : Nat, q < H.size → ¬ AX q → H1[q]? = H[q]?) → va_S A0 H0 H1 locs1 → H1[q9]? = some ce → ce.vm = .none → s.vm.findClass E = some ce.cls → vx_W p l e R s m args below meth c H1 locs1 (cells + mc) (slots + ms) Q (F0 m pc ls rest) q9)
    (kk : ∀ (r : Int64) (u : S) (t : State) (H1 : Heap) (locs1 : List Loc), t.heap = H1 → s.vm.Alike t.vm → post r u → B u t → H.size ≤ H1.size → (∀ q : Nat, q < H.size → ¬ A1 q → H1[q]? = H[q]?) → va_S A0 H0 H1 locs1 → W p l e R s m args below meth c H1 locs1 (cells + mc) (slots + ms) Q (F0 m (pc + 3) ls (.long r :: rest))) : W p l e R s m args below meth c H locs cells slots Q (F0 m pc ls st0) := by
  intro T hT X
  rcases hr T hT X with ⟨v, st₀, t, T', L, h0, X', hL, e1, e2, ⟨⟨r, u, hv, hp, hb⟩, hF⟩, st⟩ | ⟨q, st₀, t, T', L, E, ce, h0, X', hL, e1, e2, ⟨u, hp, hb, hF⟩, hce, hcv, hcl, st⟩
  · cases hv
    obtain ⟨k1, k2, k3⟩ := vx_keep h0 e1 hS hA hf hL hF
    obtain ⟨t2, a1, b1⟩ := kk r u t T'.heap (locs ++ L) e1.symm (by rw [← e2]; exact X'.warmed.alike) hp hb k1 k2 k3 T' rfl X'
    exact ⟨t2, st t2 a1, b1⟩
  · obtain ⟨k1, k2, k3⟩ := vx_keep h0 e1 hS hAX hf hL hF
    obtain ⟨t2, a1, b1⟩ := kx E ce q u t T'.heap (locs ++ L) e1.symm (by rw [← e2]; exact X'.warmed.alike) hp hb k1 k2 k3 (by rw [e1]; exact hce) hcv hcl T' rfl X'
    exact ⟨t2, st.trans a1, b1⟩
theorem vx_callf {S SX : Type} {post : UInt32 → S → Prop} {px : SX → Prop} {B : S → State → Prop} {BX : String → SX → State → Prop} {AX : Nat → Prop} (hr : vx_Run p l e R s m args below meth c H locs cells slots mc ms (F0 m pc ls st0) rest (va_Qf post B A1 a) (vx_X px BX AX) free) (hS : va_S A0 H0 H locs) (hA : ∀ q, q < H.size → A1 q → A0 q) (hf : ∀ q, free q → A0 q) (hAX : ∀ q, q < H.size → AX q → A0 q)
    (kx : ∀ (E : String) (ce : Cell) (q9 : Addr) (u : SX) (t : State) (H1 : Heap) (locs1 : List Loc), t.heap = H1 → s.vm.Alike t.vm → px u → BX E u t → H.size ≤ H1.size → (∀ q : Nat, q < H.size → ¬ AX q → H1[q]? = H[q]?) → va_S A0 H0 H1 locs1 → H1[q9]? = some ce → ce.vm = .none → s.vm.findClass E = some ce.cls → vx_W p l e R s m args below meth c H1 locs1 (cells + mc) (slots + ms) Q (F0 m pc ls rest) q9)
    (kk : ∀ (r : UInt32) (u : S) (t : State) (H1 : Heap) (locs1 : List Loc), t.heap = H1 → s.vm.Alike t.vm → post r u → B u t → H.size ≤ H1.size → (∀ q : Nat, q < H.size → ¬ A1 q → H1[q]? = H[q]?) → va_S A0 H0 H1 locs1 → W p l e R s m args below meth c H1 locs1 (cells + mc) (slots + ms) Q (F0 m (pc + 3) ls (.float r :: rest))) : W p l e R s m args below meth c H locs cells slots Q (F0 m pc ls st0) := by
  intro T hT X
  rcases hr T hT X with ⟨v, st₀, t, T', L, h0, X', hL, e1, e2, ⟨⟨r, u, hv, hp, hb⟩, hF⟩, st⟩ | ⟨q, st₀, t, T', L, E, ce, h0, X', hL, e1, e2, ⟨u, hp, hb, hF⟩, hce, hcv, hcl, st⟩
  · cases hv
    obtain ⟨k1, k2, k3⟩ := vx_keep h0 e1 hS hA hf hL hF
    obtain ⟨t2, a1, b1⟩ := kk r u t T'.heap (locs ++ L) e1.symm (by rw [← e2]; exact X'.warmed.alike) hp hb k1 k2 k3 T' rfl X'
    exact ⟨t2, st t2 a1, b1⟩
  · obtain ⟨k1, k2, k3⟩ := vx_keep h0 e1 hS hAX hf hL hF
    obtain ⟨t2, a1, b1⟩ := kx E ce q u t T'.heap (locs ++ L) e1.symm (by rw [← e2]; exact X'.warmed.alike) hp hb k1 k2 k3 (by rw [e1]; exact hce) hcv hcl T' rfl X'
    exact ⟨t2, st.trans a1, b1⟩
theorem vx_calld {S SX : Type} {post : UInt64 → S → Prop} {px : SX → Prop} {B : S → State → Prop} {BX : String → SX → State → Prop} {AX : Nat → Prop} (hr : vx_Run p l e R s m args below meth c H locs cells slots mc ms (F0 m pc ls st0) rest (va_Qd post B A1 a) (vx_X px BX AX) free) (hS : va_S A0 H0 H locs) (hA : ∀ q, q < H.size → A1 q → A0 q) (hf : ∀ q, free q → A0 q) (hAX : ∀ q, q < H.size → AX q → A0 q)
    (kx : ∀ (E : String) (ce : Cell) (q9 : Addr) (u : SX) (t : State) (H1 : Heap) (locs1 : List Loc), t.heap = H1 → s.vm.Alike t.vm → px u → BX E u t → H.size ≤ H1.size → (∀ q : Nat, q < H.size → ¬ AX q → H1[q]? = H[q]?) → va_S A0 H0 H1 locs1 → H1[q9]? = some ce → ce.vm = .none → s.vm.findClass E = some ce.cls → vx_W p l e R s m args below meth c H1 locs1 (cells + mc) (slots + ms) Q (F0 m pc ls rest) q9)
    (kk : ∀ (r : UInt64) (u : S) (t : State) (H1 : Heap) (locs1 : List Loc), t.heap = H1 → s.vm.Alike t.vm → post r u → B u t → H.size ≤ H1.size → (∀ q : Nat, q < H.size → ¬ A1 q → H1[q]? = H[q]?) → va_S A0 H0 H1 locs1 → W p l e R s m args below meth c H1 locs1 (cells + mc) (slots + ms) Q (F0 m (pc + 3) ls (.double r :: rest))) : W p l e R s m args below meth c H locs cells slots Q (F0 m pc ls st0) := by
  intro T hT X
  rcases hr T hT X with ⟨v, st₀, t, T', L, h0, X', hL, e1, e2, ⟨⟨r, u, hv, hp, hb⟩, hF⟩, st⟩ | ⟨q, st₀, t, T', L, E, ce, h0, X', hL, e1, e2, ⟨u, hp, hb, hF⟩, hce, hcv, hcl, st⟩
  · cases hv
    obtain ⟨k1, k2, k3⟩ := vx_keep h0 e1 hS hA hf hL hF
    obtain ⟨t2, a1, b1⟩ := kk r u t T'.heap (locs ++ L) e1.symm (by rw [← e2]; exact X'.warmed.alike) hp hb k1 k2 k3 T' rfl X'
    exact ⟨t2, st t2 a1, b1⟩
  · obtain ⟨k1, k2, k3⟩ := vx_keep h0 e1 hS hAX hf hL hF
    obtain ⟨t2, a1, b1⟩ := kx E ce q u t T'.heap (locs ++ L) e1.symm (by rw [← e2]; exact X'.warmed.alike) hp hb k1 k2 k3 (by rw [e1]; exact hce) hcv hcl T' rfl X'
    exact ⟨t2, st.trans a1, b1⟩
theorem vx_callv {S SX : Type} {post : S → Prop} {px : SX → Prop} {B : S → State → Prop} {BX : String → SX → State → Prop} {AX : Nat → Prop} (hr : vx_Run p l e R s m args below meth c H locs cells slots mc ms (F0 m pc ls st0) rest (va_Qv post B A1 a) (vx_X px BX AX) free) (hS : va_S A0 H0 H locs) (hA : ∀ q, q < H.size → A1 q → A0 q) (hf : ∀ q, free q → A0 q) (hAX : ∀ q, q < H.size → AX q → A0 q)
    (kx : ∀ (E : String) (ce : Cell) (q9 : Addr) (u : SX) (t : State) (H1 : Heap) (locs1 : List Loc), t.heap = H1 → s.vm.Alike t.vm → px u → BX E u t → H.size ≤ H1.size → (∀ q : Nat, q < H.size → ¬ AX q → H1[q]? = H[q]?) → va_S A0 H0 H1 locs1 → H1[q9]? = some ce → ce.vm = .none → s.vm.findClass E = some ce.cls → vx_W p l e R s m args below meth c H1 locs1 (cells + mc) (slots + ms) Q (F0 m pc ls rest) q9)
    (kk : ∀ (u : S) (t : State) (H1 : Heap) (locs1 : List Loc), t.heap = H1 → s.vm.Alike t.vm → post u → B u t → H.size ≤ H1.size → (∀ q : Nat, q < H.size → ¬ A1 q → H1[q]? = H[q]?) → va_S A0 H0 H1 locs1 → W p l e R s m args below meth c H1 locs1 (cells + mc) (slots + ms) Q (F0 m (pc + 3) ls (rest))) : W p l e R s m args below meth c H locs cells slots Q (F0 m pc ls st0) := by
  intro T hT X
  rcases hr T hT X with ⟨v, st₀, t, T', L, h0, X', hL, e1, e2, ⟨⟨u, hv, hp, hb⟩, hF⟩, st⟩ | ⟨q, st₀, t, T', L, E, ce, h0, X', hL, e1, e2, ⟨u, hp, hb, hF⟩, hce, hcv, hcl, st⟩
  · cases hv
    obtain ⟨k1, k2, k3⟩ := vx_keep h0 e1 hS hA hf hL hF
    obtain ⟨t2, a1, b1⟩ := kk u t T'.heap (locs ++ L) e1.symm (by rw [← e2]; exact X'.warmed.alike) hp hb k1 k2 k3 T' rfl X'
    exact ⟨t2, st t2 a1, b1⟩
  · obtain ⟨k1, k2, k3⟩ := vx_keep h0 e1 hS hAX hf hL hF
    obtain ⟨t2, a1, b1⟩ := kx E ce q u t T'.heap (locs ++ L) e1.symm (by rw [← e2]; exact X'.warmed.alike) hp hb k1 k2 k3 (by rw [e1]; exact hce) hcv hcl T' rfl X'
    exact ⟨t2, st.trans a1, b1⟩
/-- caught by the row x of this method's table; the rows ahead don't take it -/
theorem vx_catch {own name : String} {E : String} {ce : Cell} {q : Addr} (hown : s.vm.findClass own = some m.cls) (pre : List ExceptionTableEntry) (x : ExceptionTableEntry) (suf : List ExceptionTableEntry) (hsplit : c.exceptionTable.toList = pre ++ x :: suf)
    (hpass : ∀ z ∈ pre, covers z pc = false ∨ (z.catchType ≠ 0 ∧ ∃ nm : String, (Cond.classLink own z.catchType nm).before args s = true ∧ va_Nc E nm s)) (hx : covers x pc = true) (h0 : x.catchType ≠ 0)
    (hlink : (Cond.classLink own x.catchType name).before args s = true) (hcast : (Cond.castable E name).before args s = true) (hcell : H[q]? = some ce) (hv : ce.vm = .none) (hcl : s.vm.findClass E = some ce.cls)
    (kk : W p l e R s m args below meth c H locs cells slots Q (F0 m x.handlerPc ls [.ref q])) : vx_W p l e R s m args below meth c H locs cells slots Q (F0 m pc ls rest) q := by
  intro T hT X
  have hpl : e.platform.magicAccessors = ({} : Platform).magicAccessors := by rw [X.admits.platform]
  obtain ⟨c3, c4, hc3, hc4, hasg⟩ := Cond.castable_spec hcast
  cases Option.some.inj (hc3.symm.trans hcl)
  obtain ⟨c5, hc5, hcl5⟩ := Cond.classLink_spec hown hlink e.platform hpl
  cases Option.some.inj (hc4.symm.trans hc5)
  obtain ⟨vm', X', st⟩ := Stand.thenCaughtThrough X q (g := F0 m pc ls rest) rfl (Steps.refl _) (by rw [hT]; exact hcell) (by rw [hv]; rfl) (by obtain ⟨k9, h9, -⟩ := Vm.findClass_spec hcl; exact ⟨k9, h9⟩) pre x suf hsplit
    (fun z hz => by
      rcases hpass z hz with h | ⟨hz0, nm, hl1, hn1⟩
      · exact Or.inl h
      · obtain ⟨c6, hc6, hcl6⟩ := Cond.classLink_spec hown hl1 e.platform hpl
        obtain ⟨a8, b8, h1, h2, h3⟩ := hn1
        cases Option.some.inj (h1.symm.trans hcl)
        cases Option.some.inj (h2.symm.trans hc6)
        exact Or.inr ⟨hz0, _, hcl6, h3⟩) hx (Or.inr ⟨h0, c4, hcl5, hasg⟩)
  obtain ⟨t, a1, b1⟩ := kk (T.setVm vm') hT X'
  exact ⟨t, st.trans a1, b1⟩
end Rows
section Ends
variable {p : Program} {l : Launch} {e : Env} {R : Room} {s : State} {m : MethodId} {args : Array Value} {below : List Frame} {meth : Method} {c : Code} {H : Heap} {locs : List Loc} {cells slots : Nat} {Q : State → Prop}
variable {mc ms : Nat} {free : Addr → Prop} {A0 A1 : Nat → Prop} {H0 : Heap} {a : Array Value} {ls : Array Slot} {st0 rest : List Value}
variable {Qc : Array Value → State → Outcome → State → Prop} {XC : String → State → State → Prop}
/-- what a body that may throw owes at its end -/
def vx_MQ (below : List Frame) (Qc : Array Value → State → Outcome → State → Prop) (XC : String → State → State → Prop) (a : Array Value) (s : State) (mc ms : Nat) (free : Addr → Prop) : State → Prop := fun t =>
  ∃ o, t.status = .running ∧ Ended t below o ∧ vx_Q Qc XC mc ms free a s o t
theorem vx_ret {g : JFrame} {mc ms : Nat} (k : W p l e R s m args below meth c H locs cells slots (MQ below Qc args s mc ms free) g) : W p l e R s m args below meth c H locs cells slots (vx_MQ below Qc XC args s mc ms free) g := by
  intro T hT X
  obtain ⟨t, a1, o, b1, b2, b3, b4⟩ := k T hT X
  exact ⟨t, a1, o, b1, b2, Or.inl ⟨b3, b4⟩⟩
/-- not caught here: it goes on to the caller -/
theorem vx_widen {g : JFrame} {q : Addr} {k n : Nat} (h1 : cells ≤ k) (h2 : slots ≤ n) (kk : vx_W p l e R s m args below meth c H locs k n Q g q) : vx_W p l e R s m args below meth c H locs cells slots Q g q := fun T hT X => kk T hT (stand_widen X h1 h2)
theorem vx_out {pc : Nat} {E : String} {ce : Cell} {q : Addr} {mc ms : Nat} (hout : ∀ x ∈ c.exceptionTable.toList, covers x pc = false) (hlocks : meth.locks = false) (hcell : H[q]? = some ce) (hv : ce.vm = .none) (hcl : s.vm.findClass E = some ce.cls)
    (hx : ∀ t : State, t.heap = H → s.vm.Alike t.vm → XC E s t) (hf : ∀ z ∈ locs, free z.base) (hc : cells ≤ mc) (hs : slots ≤ ms) :
    vx_W p l e R s m args below meth c H locs cells slots (vx_MQ below Qc XC args s mc ms free) (F0 m pc ls rest) q := by
  intro T hT X
  obtain ⟨st1, hrun, hend, hW, hsm⟩ := X.leaveThrown q (g := F0 m pc ls rest) rfl rfl rfl hout hlocks
  have hcell9 : (T.setFrames (.throwing q :: below)).heap[q]? = some ce := by
    show T.heap[q]? = some ce
    rw [hT]; exact hcell
  exact ⟨_, st1, .threw q, hrun, hend, Or.inr ⟨q, rfl, E, ce, locs, hx _ hT hW.alike, hcell9, hv, hcl, hW, hsm.mono hc hs, hf⟩⟩
theorem vx_frame {U : State} {k n : Nat} (h : s.sameButNew ({ U with vm := s.vm } : State) locs k n) : s.heap.size ≤ U.heap.size ∧ ∀ q : Nat, q < s.heap.size → (∀ z ∈ locs, z.base ≠ q) → U.heap[q]? = s.heap[q]? := by
  obtain ⟨-, h2, -, -, -, h6⟩ := h
  refine ⟨h2, fun q hq hz => ?_⟩
  obtain ⟨c9, e1, e2, e3, e4⟩ := h6 q _ (Array.getElem?_eq_getElem hq)
  have hs : c9.slots = (s.heap[q]).slots := Array.ext_getElem? fun i => e4 i fun hm => hz _ hm rfl
  have h9 : c9 = s.heap[q] := by
    rw [hs] at e2
    exact e2
  have e5 : U.heap[q]? = some c9 := e1
  rw [e5, h9, Array.getElem?_eq_getElem hq]
/-- the words of a throw but the four that speak of the heap -/
def vx_no (w : Cond) : Bool := decide (w ≠ .isRef (.static Bundle.tN "UNASSIGNED_STACK" Bundle.steD)) && decide (w ≠ .isRef (.static Bundle.tN "SUPPRESSED_SENTINEL" Bundle.listD)) && decide (w ≠ .laysStatic Bundle.tN "UNASSIGNED_STACK" Bundle.steD) && decide (w ≠ .laysStatic Bundle.tN "SUPPRESSED_SENTINEL" Bundle.listD)
def vx_at0 (own : String) (ic : Nat) (X : String) (names : List String) : List Cond := (Bundle.ownAtoms0 own ic X names).filter vx_no
def vx_atS (own : String) (ic : Nat) (X : String) (names : List String) : List Cond := (Bundle.ownAtoms own ic X names).filter vx_no
/-- a word that the tables alone decide, or a good one -/
def vx_ot (w : Cond) : Bool := w.onTables || goodWord w
theorem vx_ot_at {args a' : Array Value} {s U : State} {w : Cond} (hW : s.WarmedH U.vm) (hvm : s.vm = U.vm) (hg : vx_ot w = true) (h : w.before args s = true) : w.before a' U = true := by
  simp only [vx_ot, Bool.or_eq_true] at hg
  rcases hg with hg | hg
  · exact va_tabs hg hvm h
  · exact word_at hW (good_of_word hg) h
/-- a list's words: the good ones out of the method's own list, the others by premises of their own -/
theorem vx_hat {args : Array Value} {s : State} {L B : List Cond} (h1 : ∀ w ∈ L.filter goodWord, w.before args s = true) (h2 : ∀ w ∈ L.filter (fun w => !goodWord w), w ∈ B) (h3 : ∀ w ∈ B, w.before args s = true) : ∀ w ∈ L, w.before args s = true := by
  intro w hw
  by_cases g : goodWord w = true
  · exact h1 w (List.mem_filter.mpr ⟨hw, g⟩)
  · refine h3 w (h2 w (List.mem_filter.mpr ⟨hw, ?_⟩))
    show (!goodWord w) = true
    cases hgw : goodWord w
    · rfl
    · exact absurd hgw g
theorem vx_c {args : Array Value} {s : State} {w : Cond} {B : List Cond} (h : w.before args s = true) (t : ∀ w ∈ B, w.before args s = true) : ∀ w' ∈ w :: B, w'.before args s = true := fun w' h' => (List.mem_cons.mp h').elim (fun e => by rw [e]; exact h) (t w')
theorem vx_n {args : Array Value} {s : State} : ∀ w ∈ ([] : List Cond), w.before args s = true := fun _ h => nomatch h
theorem vx_own {args : Array Value} {s : State} {L : List Cond} (h1 : ∀ w ∈ L.filter vx_no, w.before args s = true)
    (hU : (Cond.isRef (.static Bundle.tN "UNASSIGNED_STACK" Bundle.steD)).before args s = true) (hN : (Cond.isRef (.static Bundle.tN "SUPPRESSED_SENTINEL" Bundle.listD)).before args s = true)
    (lU : (Cond.laysStatic Bundle.tN "UNASSIGNED_STACK" Bundle.steD).before args s = true) (lN : (Cond.laysStatic Bundle.tN "SUPPRESSED_SENTINEL" Bundle.listD).before args s = true) : ∀ w ∈ L, w.before args s = true := by
  intro w hw
  by_cases e1 : w = .isRef (.static Bundle.tN "UNASSIGNED_STACK" Bundle.steD)
  · rw [e1]; exact hU
  · by_cases e2 : w = .isRef (.static Bundle.tN "SUPPRESSED_SENTINEL" Bundle.listD)
    · rw [e2]; exact hN
    · by_cases e3 : w = .laysStatic Bundle.tN "UNASSIGNED_STACK" Bundle.steD
      · rw [e3]; exact lU
      · by_cases e4 : w = .laysStatic Bundle.tN "SUPPRESSED_SENTINEL" Bundle.listD
        · rw [e4]; exact lN
        · exact h1 w (List.mem_filter.mpr ⟨hw, by unfold vx_no; rw [decide_eq_true e1, decide_eq_true e2, decide_eq_true e3, decide_eq_true e4]; rfl⟩)
/-- where a static field lies, its class's statics cell in H -/
def vx_L (C n d : String) (A : Nat → Prop) (U : State) (H : Heap) : Prop := ∃ (c : ClassId) (k : Class) (i : Nat) (f : Field) (a : Nat) (cell : Cell), U.vm.findClass C = some c ∧ U.fieldFound? C n d = some (c, k, i, f) ∧ f.isStatic = true ∧ k.statics = some a ∧ H[a]? = some cell ∧ cell.vm.isStatics = true ∧ cell.cls = c ∧ f.slot < cell.slots.size ∧ k.staticTypes[f.slot]? = some f.type ∧ ¬ A a
theorem vx_L.moved {C n d : String} {A : Nat → Prop} {u U : State} {H : Heap} (hvm : u.vm.Alike U.vm) (h : vx_L C n d A u H) : vx_L C n d A U H := by
  obtain ⟨c, k, i, f, a, cell, h1, h2, h3, h4, h5, h6, h7, h8, h9, h10⟩ := h
  obtain ⟨k', hi', he⟩ := State.fieldFound?_setVm hvm h2
  exact ⟨c, k', i, f, a, cell, by rw [hvm.findClass]; exact h1, hi', h3, by rw [he]; exact h4, h5, h6, h7, h8, by rw [he]; exact h9, h10⟩
theorem vx_L.kept {C n d : String} {A : Nat → Prop} {U : State} {H H1 : Heap} (h : vx_L C n d A U H) (hq : ∀ a : Nat, a < H.size → ¬ A a → H1[a]? = H[a]?) : vx_L C n d A U H1 := by
  obtain ⟨c, k, i, f, a, cell, h1, h2, h3, h4, h5, h6, h7, h8, h9, h10⟩ := h
  exact ⟨c, k, i, f, a, cell, h1, h2, h3, h4, by rw [hq a (Array.getElem?_eq_some_iff.mp h5).1 h10]; exact h5, h6, h7, h8, h9, h10⟩
theorem vx_L.narrow {C n d : String} {A B : Nat → Prop} {U : State} {H : Heap} (h : vx_L C n d A U H) (hAB : ∀ q, B q → A q) : vx_L C n d B U H := by
  obtain ⟨c, k, i, f, a, cell, h1, h2, h3, h4, h5, h6, h7, h8, h9, h10⟩ := h
  exact ⟨c, k, i, f, a, cell, h1, h2, h3, h4, h5, h6, h7, h8, h9, fun z => h10 (hAB _ z)⟩
theorem vx_L.word {C n d : String} {A : Nat → Prop} {s : State} {args : Array Value} (h : vx_L C n d A s s.heap) : (Cond.laysStatic C n d).before args s = true := by
  obtain ⟨c, k, i, f, a, cell, h1, h2, h3, h4, h5, h6, h7, h8, h9, -⟩ := h
  show (Cond.laysStatic C n d).holds args s none s [] = true
  exact Cond.laysStatic_of h1 h2 h3 h4 h5 h6 h7 h8 h9
/-- .. and what it holds: null or some reference -/
def vx_Zq (C n d : String) (A : Nat → Prop) (U : State) (H : Heap) : Prop := va_Zq C n d A U H ∧ vx_L C n d A U H
theorem vx_Zq.moved {C n d : String} {A : Nat → Prop} {u U : State} {H : Heap} (hvm : u.vm.Alike U.vm) (h : vx_Zq C n d A u H) : vx_Zq C n d A U H := ⟨va_Zq.moved hvm h.1, vx_L.moved hvm h.2⟩
theorem vx_Zq.kept {C n d : String} {A : Nat → Prop} {U : State} {H H1 : Heap} (h : vx_Zq C n d A U H) (hq : ∀ a : Nat, a < H.size → ¬ A a → H1[a]? = H[a]?) : vx_Zq C n d A U H1 := ⟨va_Zq.kept h.1 hq, vx_L.kept h.2 hq⟩
theorem vx_Zq.narrow {C n d : String} {A B : Nat → Prop} {U : State} {H : Heap} (h : vx_Zq C n d A U H) (hAB : ∀ q, B q → A q) : vx_Zq C n d B U H := ⟨va_Zq.narrow h.1 hAB, vx_L.narrow h.2 hAB⟩
theorem vx_Zqof {args : Array Value} {s : State} {C n d : String} {A : Nat → Prop} (hl : (Cond.laysStatic C n d).before args s = true) (hini : (Cond.initialized C).before args s = true) (h : (Cond.isRef (.static C n d)).before args s = true) (hA : ∀ a : Nat, a < s.heap.size → ¬ A a) : vx_Zq C n d A s s.heap := by
  refine ⟨va_Zqof hl hini h hA, ?_⟩
  obtain ⟨c, k, i, f, a, cell, h1, h2, h3, h4, h5, h6, h7, h8, h9⟩ := Cond.laysStatic_spec hl
  exact ⟨c, k, i, f, a, cell, h1, h2, h3, h4, h5, h6, h7, h8, h9, hA a (Array.getElem?_eq_some_iff.mp h5).1⟩
theorem vx_isRef {C n d : String} {v : Value} {A : Nat → Prop} {s : State} {args : Array Value} (h : va_Z C n d v A s s.heap) (hv : v.isRef = true) : (Cond.isRef (.static C n d)).before args s = true := by
  obtain ⟨cf, kf, fi, f, a, cell, h1, h2, h3, h4, h5, h6, h7, -⟩ := h
  have he : (Term.static C n d).eval args s none [] s = some v := by
    simp [Term.eval, State.fieldNamed?, h1, h2, h4, h5, h6, h7]
  simp only [Cond.before, Cond.holds, Cond.value, he]
  cases v <;> simp_all [Value.isRef]
theorem vx_isRefq {C n d : String} {A : Nat → Prop} {s : State} {args : Array Value} (h : va_Zq C n d A s s.heap) : (Cond.isRef (.static C n d)).before args s = true := by
  rcases h with h | ⟨t, h⟩
  · exact vx_isRef h rfl
  · exact vx_isRef h rfl
/-- the same frame, seen from here: as if the method were called anew in this heap -/
theorem vx_rebase {T : State} (X : Stand p l e R s m args below meth c T locs cells slots) {R' : Room} (hf : R'.frames ≤ R.frames) (hl : R'.locals ≤ R.locals) (hc : cells + R'.cells ≤ R.cells) (hs : slots + R'.slots ≤ R.slots) :
    Stand p l e R' ((T.setVm s.vm).setFrames (.invoking m args :: below)) m args below meth c T [] 0 0 := by
  have htop : (T.setVm s.vm).topJava?.isSome := X.here.top
  have hF : ((T.setVm s.vm).setFrames (.invoking m args :: below)).frames = .invoking m args :: below := State.frames_setFrames _ (State.cur_lt_of_top htop)
  obtain ⟨g₀, hg0⟩ := Option.isSome_iff_exists.mp htop
  obtain ⟨r, hr⟩ := State.topJava?_eq_some.mp hg0
  have hl9 : e.platform.stackLimits (T.setVm s.vm).me = e.platform.stackLimits s.me := X.limits
  have hb9 : (T.setVm s.vm).me.stackBytes = s.me.stackBytes := X.bytes
  refine ⟨X.admits, X.cas, X.clock, hF, ?_, X.hears, X.method, X.code, X.here, X.tail, X.warmed, ?_, ?_, ?_⟩
  · have h := X.room
    have hU : ((T.setVm s.vm).setFrames (.invoking m args :: below)).localsInUse = s.localsInUse := by
      rw [State.localsInUse_invoking hF (meth := meth) (c := c) X.method X.code, State.localsInUse_invoking X.frames X.method X.code]
    simp only [State.hasRoom, Bool.and_eq_true, decide_eq_true_eq] at h ⊢
    obtain ⟨⟨⟨⟨h1, h2, h3, h4, h5, h6⟩, h7⟩, h8⟩, h9⟩ := h
    rw [X.frames, List.length_cons] at h2 h3
    have q1 := X.heapSize
    have q2 := X.used
    simp only [hF, hU, List.length_cons, State.stackLimits_setFrames, State.stackBytes_setFrames, hl9, hb9]
    refine ⟨⟨⟨⟨by omega, by omega, by omega, by omega, by omega, h6⟩, ?_⟩, ?_⟩, X.book⟩
    · show T.heap.size + R'.cells ≤ e.platform.maxCells
      omega
    · show T.slotsUsed + R'.slots ≤ e.platform.maxSlots
      omega
  · rw [State.stackLimits_setFrames]; rfl
  · rw [State.stackBytes_setFrames]; rfl
  · refine ⟨?_, Nat.le_refl _, Nat.le_refl _, ?_, ?_, fun a c9 h9 => ⟨c9, h9, rfl, rfl, fun _ _ => rfl⟩⟩
    · obtain ⟨t, ht, -⟩ := State.frames_cons hr
      show T.setVm s.vm = { ((T.setVm s.vm).setFrames (.invoking m args :: below)).setFrames (T.setVm s.vm).frames with heap := T.heap, slotsUsed := T.slotsUsed }
      rw [State.setFrames_setFrames, State.setFrames_self ht]
      rfl
    · show T.slotsUsed = T.slotsUsed + ((T.heap.toList.drop T.heap.size).map (·.slots.size)).sum
      rw [List.drop_eq_nil_of_le (Nat.le_of_eq Array.length_toList)]
      rfl
    · show ((T.heap.toList.drop T.heap.size).map (·.slots.size)).sum ≤ 0
      rw [List.drop_eq_nil_of_le (Nat.le_of_eq Array.length_toList)]
      exact Nat.le_refl _
/-- 'throw new E()': new; dup; invokespecial; athrow -/
theorem vx_throw0 {cc : ByteArray} {pc : Nat} (hexec : p.tables.exec = Jvm.exec) (hb : c.code = cc) (hl : l.stackTraces = false) {own cls : String} {names : List String} {ik ic mc ms : Nat} {A : Nat → Prop}
    (hown : s.vm.findClass own = some m.cls) (hcls : Bundle.fit cls = true) (hnames : ∀ n ∈ names, Bundle.fit n = true)
    (hk : (Cond.classLink own ik cls).before args s = true) (hini : (Cond.initialized cls).before args s = true) (hat : ∀ w ∈ vx_at0 own ic cls names, w.before args s = true)
    (hgood : ∀ w ∈ Cond.classLink own ik cls :: Cond.initialized cls :: vx_at0 own ic cls names, vx_ot w = true)
    (hU : vx_Zq Bundle.tN "UNASSIGNED_STACK" Bundle.steD A s s.heap) (hN : vx_Zq Bundle.tN "SUPPRESSED_SENTINEL" Bundle.listD A s s.heap) (hS : va_S A s.heap H locs) (hsize : ls.size = c.maxLocals)
    (d0 : decode cc pc = .ok (.new ik, 3)) (d3 : decode cc (pc + 3) = .ok (.dup, 1)) (d4 : decode cc (pc + 4) = .ok (.invokespecial ic, 3)) (d7 : decode cc (pc + 7) = .ok (.athrow, 1))
    (hout : ∀ x ∈ c.exceptionTable.toList, covers x (pc + 7) = false)
    (hRframes : names.length + 3 < R.frames) (hRlocals : (rest.map fun v => v.category).sum + (13 * (names.length + 1) + 42) ≤ R.locals) (hRcells : cells + 1 ≤ R.cells) (hRslots : slots + 6 ≤ R.slots) (hlocks : meth.locks = false)
    (hx : ∀ t : State, s.vm.Alike t.vm → H.size ≤ t.heap.size → (∀ q : Nat, q < H.size → t.heap[q]? = H[q]?) → XC cls s t)
    (hf : ∀ z ∈ locs, free z.base) (hc : cells + 1 ≤ mc) (hs : slots + 6 ≤ ms) :
    W p l e R s m args below meth c H locs cells slots (vx_MQ below Qc XC args s mc ms free) (F0 m pc ls rest) := by
  intro T hT X
  have htr : e.platform.stackTraces = false := (show e.platform.stackTraces = l.stackTraces by rw [X.admits.platform]).trans hl
  have Y := vx_rebase X (R' := { frames := R.frames, locals := R.locals, cells := 1, slots := 6 }) (Nat.le_refl _) (Nat.le_refl _) hRcells hRslots
  obtain ⟨s', hA⟩ : ∃ z, z = (T.setVm s.vm).setFrames (.invoking m args :: below) := ⟨_, rfl⟩
  rw [← hA] at Y
  have hvm : s'.vm = s.vm := by rw [hA]; rfl
  have hhp : s'.heap = H := by rw [hA]; exact hT
  have hW0 : s.WarmedH s'.vm := by rw [hvm]; exact State.WarmedH.refl s
  have hat' : ∀ w ∈ vx_at0 own ic cls names, w.before args s' = true := fun w hw => vx_ot_at hW0 hvm.symm (hgood w (List.mem_cons_of_mem _ (List.mem_cons_of_mem _ hw))) (hat w hw)
  have hk' : (Cond.classLink own ik cls).before args s' = true := vx_ot_at hW0 hvm.symm (hgood _ List.mem_cons_self) hk
  have hini' : (Cond.initialized cls).before args s' = true := vx_ot_at hW0 hvm.symm (hgood _ (List.mem_cons_of_mem _ List.mem_cons_self)) hini
  have hU' : vx_Zq Bundle.tN "UNASSIGNED_STACK" Bundle.steD A s' s'.heap := by rw [hhp]; exact vx_Zq.moved hW0.alike (hU.kept hS.2.1)
  have hN' : vx_Zq Bundle.tN "SUPPRESSED_SENTINEL" Bundle.listD A s' s'.heap := by rw [hhp]; exact vx_Zq.moved hW0.alike (hN.kept hS.2.1)
  have h : ∀ w ∈ Bundle.ownAtoms0 own ic cls names, w.before args s' = true := vx_own hat' (vx_isRefq hU'.1) (vx_isRefq hN'.1) hU'.2.word hN'.2.word
  have hown' : s'.vm.findClass own = some m.cls := by rw [hvm]; exact hown
  have hins : (Cond.instantiable cls 6).before args s' = true := h _ (by simp [Bundle.ownAtoms0])
  obtain ⟨vm₁, cX, kX, hfX, hkX, -, -, X₁, st1⟩ := Y.newCold hexec (own := own) (C := cls) (index := ik) (n := 6) hown' hk' hins hini'
    (g := F0 m pc ls rest) rfl (by rw [hb]; exact d0) (Nat.le_refl _) (Nat.le_refl _)
  generalize hT1 : (T.setVm vm₁).pushCell { cls := cX, slots := kX.instanceTypes.map defaultValue, vm := .none } = T1 at X₁ st1
  have hcat : (Value.ref T.heap.size).category = 1 := rfl
  have hcellA : T1.heap[T.heap.size]? = some (freshCell cX kX) := by rw [← hT1]; exact State.heap_pushCell_size _ _
  have d3' : decode c.code (pc + 3) = .ok (.dup, 1) := by rw [hb]; exact d3
  obtain ⟨U, hsteps, hrun, hend, hW, hsame, ce, hce, hO⟩ := X₁.ctorThrow0 hexec htr (own := own) (cls := cls) (names := names) (ic := ic) hown' hcls hnames h (fun x hx => nomatch hx) hfX hkX hcellA (by rw [hhp, hT]; exact Nat.le_refl _)
    (g := { method := m, pc := pc + 4, locals := ls, stack := .ref T.heap.size :: .ref T.heap.size :: rest, locked := none }) rfl hsize rfl rfl (rest := rest) rfl
    (by rw [hb]; exact d4) (by rw [hb]; exact d7) hout hRframes (by simp only [List.map_cons, List.sum_cons, hcat]; omega) hlocks
  obtain ⟨f1, f2⟩ := vx_frame hsame
  rw [hhp] at f1 f2
  have hWs : s.WarmedH U.vm := State.WarmedH.trans hW0 hW
  have hcl : s.vm.findClass cls = some ce.cls := by
    have h9 := hO.cls
    rw [hvm] at h9
    exact h9
  have hall : s.sameButNew ({ U with vm := s.vm } : State) locs mc ms := by
    subst hA
    obtain ⟨e1, e2⟩ := hsame
    rw [State.setFrames_setFrames] at e1
    have h2 : (T.setVm s.vm).sameButNew ({ U with vm := s.vm } : State) [] (0 + 1) (0 + 6) := ⟨e1, e2⟩
    have h3 := X.same.trans h2
    rw [List.append_nil] at h3
    exact h3.mono hc hs
  refine ⟨U, ?_, .threw T.heap.size, hrun, hend, Or.inr ⟨T.heap.size, rfl, cls, ce, locs, hx U hWs.alike f1 (fun q hq => f2 q hq (fun z hz => nomatch hz)), hce, hO.vm, hcl, hWs, hall, hf⟩⟩
  refine st1 _ ?_
  show Steps p.tables e below (T1.setTop { method := m, pc := pc + 3, locals := ls, stack := .ref T.heap.size :: rest, locked := none }) _
  jvm_step X₁.here [X₁.here.top, hexec, d3', Value.category]
  exact hsteps
/-- 'throw new E("text")': new; dup; ldc; invokespecial; athrow -/
theorem vx_throwS {cc : ByteArray} {pc : Nat} (hexec : p.tables.exec = Jvm.exec) (hb : c.code = cc) (hl : l.stackTraces = false) {own cls text : String} {names : List String} {ik is ic mc ms sa : Nat} {A : Nat → Prop}
    (hown : s.vm.findClass own = some m.cls) (hcls : Bundle.fit cls = true) (hnames : ∀ n ∈ names, Bundle.fit n = true)
    (hk : (Cond.classLink own ik cls).before args s = true) (hini : (Cond.initialized cls).before args s = true) (hstr : vk_R own is text sa s) (hat : ∀ w ∈ vx_atS own ic cls names, w.before args s = true)
    (hgood : ∀ w ∈ Cond.classLink own ik cls :: Cond.initialized cls :: vx_atS own ic cls names, vx_ot w = true)
    (hU : vx_Zq Bundle.tN "UNASSIGNED_STACK" Bundle.steD A s s.heap) (hN : vx_Zq Bundle.tN "SUPPRESSED_SENTINEL" Bundle.listD A s s.heap) (hS : va_S A s.heap H locs) (hsize : ls.size = c.maxLocals)
    (d0 : decode cc pc = .ok (.new ik, 3)) (d3 : decode cc (pc + 3) = .ok (.dup, 1)) (d4 : decode cc (pc + 4) = .ok (.ldc is, 2)) (d6 : decode cc (pc + 6) = .ok (.invokespecial ic, 3)) (d9 : decode cc (pc + 9) = .ok (.athrow, 1))
    (hout : ∀ x ∈ c.exceptionTable.toList, covers x (pc + 9) = false)
    (hRframes : names.length + 3 < R.frames) (hRlocals : (rest.map fun v => v.category).sum + (13 * (names.length + 1) + 43) ≤ R.locals) (hRcells : cells + 1 ≤ R.cells) (hRslots : slots + 6 ≤ R.slots) (hlocks : meth.locks = false)
    (hx : ∀ t : State, s.vm.Alike t.vm → H.size ≤ t.heap.size → (∀ q : Nat, q < H.size → t.heap[q]? = H[q]?) → XC cls s t)
    (hf : ∀ z ∈ locs, free z.base) (hc : cells + 1 ≤ mc) (hs : slots + 6 ≤ ms) :
    W p l e R s m args below meth c H locs cells slots (vx_MQ below Qc XC args s mc ms free) (F0 m pc ls rest) := by
  intro T hT X
  have htr : e.platform.stackTraces = false := (show e.platform.stackTraces = l.stackTraces by rw [X.admits.platform]).trans hl
  have Y := vx_rebase X (R' := { frames := R.frames, locals := R.locals, cells := 1, slots := 6 }) (Nat.le_refl _) (Nat.le_refl _) hRcells hRslots
  obtain ⟨s', hA⟩ : ∃ z, z = (T.setVm s.vm).setFrames (.invoking m args :: below) := ⟨_, rfl⟩
  rw [← hA] at Y
  have hvm : s'.vm = s.vm := by rw [hA]; rfl
  have hhp : s'.heap = H := by rw [hA]; exact hT
  have hW0 : s.WarmedH s'.vm := by rw [hvm]; exact State.WarmedH.refl s
  have hat' : ∀ w ∈ vx_atS own ic cls names, w.before args s' = true := fun w hw => vx_ot_at hW0 hvm.symm (hgood w (List.mem_cons_of_mem _ (List.mem_cons_of_mem _ hw))) (hat w hw)
  have hk' : (Cond.classLink own ik cls).before args s' = true := vx_ot_at hW0 hvm.symm (hgood _ List.mem_cons_self) hk
  have hini' : (Cond.initialized cls).before args s' = true := vx_ot_at hW0 hvm.symm (hgood _ (List.mem_cons_of_mem _ List.mem_cons_self)) hini
  have hU' : vx_Zq Bundle.tN "UNASSIGNED_STACK" Bundle.steD A s' s'.heap := by rw [hhp]; exact vx_Zq.moved hW0.alike (hU.kept hS.2.1)
  have hN' : vx_Zq Bundle.tN "SUPPRESSED_SENTINEL" Bundle.listD A s' s'.heap := by rw [hhp]; exact vx_Zq.moved hW0.alike (hN.kept hS.2.1)
  have h : ∀ w ∈ Bundle.ownAtoms own ic cls names, w.before args s' = true := vx_own hat' (vx_isRefq hU'.1) (vx_isRefq hN'.1) hU'.2.word hN'.2.word
  have hown' : s'.vm.findClass own = some m.cls := by rw [hvm]; exact hown
  have hins : (Cond.instantiable cls 6).before args s' = true := h _ (by simp [Bundle.ownAtoms])
  obtain ⟨vm₁, cX, kX, hfX, hkX, -, -, X₁, st1⟩ := Y.newCold hexec (own := own) (C := cls) (index := ik) (n := 6) hown' hk' hins hini'
    (g := F0 m pc ls rest) rfl (by rw [hb]; exact d0) (Nat.le_refl _) (Nat.le_refl _)
  generalize hT1 : (T.setVm vm₁).pushCell { cls := cX, slots := kX.instanceTypes.map defaultValue, vm := .none } = T1 at X₁ st1
  have hcat : (Value.ref T.heap.size).category = 1 := rfl
  have hcellA : T1.heap[T.heap.size]? = some (freshCell cX kX) := by rw [← hT1]; exact State.heap_pushCell_size _ _
  have d3' : decode c.code (pc + 3) = .ok (.dup, 1) := by rw [hb]; exact d3
  have d4' : decode c.code (pc + 4) = .ok (.ldc is, 2) := by rw [hb]; exact d4
  have hstr' : vk_R own is text sa s' := vk_R.warm hW0 hstr
  obtain ⟨U, hsteps, hrun, hend, hW, hsame, ce, hce, hO⟩ := X₁.ctorThrowS hexec htr (own := own) (cls := cls) (names := names) (ic := ic) hown' hcls hnames h (fun x hx => nomatch hx) hfX hkX hcellA (by rw [hhp, hT]; exact Nat.le_refl _) (msg := .ref sa) rfl
    (g := { method := m, pc := pc + 6, locals := ls, stack := .ref sa :: .ref T.heap.size :: .ref T.heap.size :: rest, locked := none }) rfl hsize rfl rfl (rest := rest) rfl
    (by rw [hb]; exact d6) (by rw [hb]; exact d9) hout hRframes (by simp only [List.map_cons, List.sum_cons, hcat]; omega) hlocks
  obtain ⟨f1, f2⟩ := vx_frame hsame
  rw [hhp] at f1 f2
  have hWs : s.WarmedH U.vm := State.WarmedH.trans hW0 hW
  have hcl : s.vm.findClass cls = some ce.cls := by
    have h9 := hO.cls
    rw [hvm] at h9
    exact h9
  have hall : s.sameButNew ({ U with vm := s.vm } : State) locs mc ms := by
    subst hA
    obtain ⟨e1, e2⟩ := hsame
    rw [State.setFrames_setFrames] at e1
    have h2 : (T.setVm s.vm).sameButNew ({ U with vm := s.vm } : State) [] (0 + 1) (0 + 6) := ⟨e1, e2⟩
    have h3 := X.same.trans h2
    rw [List.append_nil] at h3
    exact h3.mono hc hs
  refine ⟨U, ?_, .threw T.heap.size, hrun, hend, Or.inr ⟨T.heap.size, rfl, cls, ce, locs, hx U hWs.alike f1 (fun q hq => f2 q hq (fun z hz => nomatch hz)), hce, hO.vm, hcl, hWs, hall, hf⟩⟩
  refine st1 _ ?_
  show Steps p.tables e below (T1.setTop { method := m, pc := pc + 3, locals := ls, stack := .ref T.heap.size :: rest, locked := none }) _
  jvm_step X₁.here [X₁.here.top, hexec, d3', Value.category]
  exact X₁.ldcString hexec (own := own) (text := text) (index := is) (a := sa) hown' hstr'.1 hstr'.2
    (g := { method := m, pc := pc + 4, locals := ls, stack := .ref T.heap.size :: .ref T.heap.size :: rest, locked := none }) rfl d4' _ hsteps
/-- 'throw new E("text")', the text by a wide index -/
theorem vx_throwSW {cc : ByteArray} {pc : Nat} (hexec : p.tables.exec = Jvm.exec) (hb : c.code = cc) (hl : l.stackTraces = false) {own cls text : String} {names : List String} {ik is ic mc ms sa : Nat} {A : Nat → Prop}
    (hown : s.vm.findClass own = some m.cls) (hcls : Bundle.fit cls = true) (hnames : ∀ n ∈ names, Bundle.fit n = true)
    (hk : (Cond.classLink own ik cls).before args s = true) (hini : (Cond.initialized cls).before args s = true) (hstr : vk_R own is text sa s) (hat : ∀ w ∈ vx_atS own ic cls names, w.before args s = true)
    (hgood : ∀ w ∈ Cond.classLink own ik cls :: Cond.initialized cls :: vx_atS own ic cls names, vx_ot w = true)
    (hU : vx_Zq Bundle.tN "UNASSIGNED_STACK" Bundle.steD A s s.heap) (hN : vx_Zq Bundle.tN "SUPPRESSED_SENTINEL" Bundle.listD A s s.heap) (hS : va_S A s.heap H locs) (hsize : ls.size = c.maxLocals)
    (d0 : decode cc pc = .ok (.new ik, 3)) (d3 : decode cc (pc + 3) = .ok (.dup, 1)) (d4 : decode cc (pc + 4) = .ok (.ldc_w is, 3)) (d7 : decode cc (pc + 7) = .ok (.invokespecial ic, 3)) (d10 : decode cc (pc + 10) = .ok (.athrow, 1))
    (hout : ∀ x ∈ c.exceptionTable.toList, covers x (pc + 10) = false)
    (hRframes : names.length + 3 < R.frames) (hRlocals : (rest.map fun v => v.category).sum + (13 * (names.length + 1) + 43) ≤ R.locals) (hRcells : cells + 1 ≤ R.cells) (hRslots : slots + 6 ≤ R.slots) (hlocks : meth.locks = false)
    (hx : ∀ t : State, s.vm.Alike t.vm → H.size ≤ t.heap.size → (∀ q : Nat, q < H.size → t.heap[q]? = H[q]?) → XC cls s t)
    (hf : ∀ z ∈ locs, free z.base) (hc : cells + 1 ≤ mc) (hs : slots + 6 ≤ ms) :
    W p l e R s m args below meth c H locs cells slots (vx_MQ below Qc XC args s mc ms free) (F0 m pc ls rest) := by
  intro T hT X
  have htr : e.platform.stackTraces = false := (show e.platform.stackTraces = l.stackTraces by rw [X.admits.platform]).trans hl
  have Y := vx_rebase X (R' := { frames := R.frames, locals := R.locals, cells := 1, slots := 6 }) (Nat.le_refl _) (Nat.le_refl _) hRcells hRslots
  obtain ⟨s', hA⟩ : ∃ z, z = (T.setVm s.vm).setFrames (.invoking m args :: below) := ⟨_, rfl⟩
  rw [← hA] at Y
  have hvm : s'.vm = s.vm := by rw [hA]; rfl
  have hhp : s'.heap = H := by rw [hA]; exact hT
  have hW0 : s.WarmedH s'.vm := by rw [hvm]; exact State.WarmedH.refl s
  have hat' : ∀ w ∈ vx_atS own ic cls names, w.before args s' = true := fun w hw => vx_ot_at hW0 hvm.symm (hgood w (List.mem_cons_of_mem _ (List.mem_cons_of_mem _ hw))) (hat w hw)
  have hk' : (Cond.classLink own ik cls).before args s' = true := vx_ot_at hW0 hvm.symm (hgood _ List.mem_cons_self) hk
  have hini' : (Cond.initialized cls).before args s' = true := vx_ot_at hW0 hvm.symm (hgood _ (List.mem_cons_of_mem _ List.mem_cons_self)) hini
  have hU' : vx_Zq Bundle.tN "UNASSIGNED_STACK" Bundle.steD A s' s'.heap := by rw [hhp]; exact vx_Zq.moved hW0.alike (hU.kept hS.2.1)
  have hN' : vx_Zq Bundle.tN "SUPPRESSED_SENTINEL" Bundle.listD A s' s'.heap := by rw [hhp]; exact vx_Zq.moved hW0.alike (hN.kept hS.2.1)
  have h : ∀ w ∈ Bundle.ownAtoms own ic cls names, w.before args s' = true := vx_own hat' (vx_isRefq hU'.1) (vx_isRefq hN'.1) hU'.2.word hN'.2.word
  have hown' : s'.vm.findClass own = some m.cls := by rw [hvm]; exact hown
  have hins : (Cond.instantiable cls 6).before args s' = true := h _ (by simp [Bundle.ownAtoms])
  obtain ⟨vm₁, cX, kX, hfX, hkX, -, -, X₁, st1⟩ := Y.newCold hexec (own := own) (C := cls) (index := ik) (n := 6) hown' hk' hins hini'
    (g := F0 m pc ls rest) rfl (by rw [hb]; exact d0) (Nat.le_refl _) (Nat.le_refl _)
  generalize hT1 : (T.setVm vm₁).pushCell { cls := cX, slots := kX.instanceTypes.map defaultValue, vm := .none } = T1 at X₁ st1
  have hcat : (Value.ref T.heap.size).category = 1 := rfl
  have hcellA : T1.heap[T.heap.size]? = some (freshCell cX kX) := by rw [← hT1]; exact State.heap_pushCell_size _ _
  have d3' : decode c.code (pc + 3) = .ok (.dup, 1) := by rw [hb]; exact d3
  have d4' : decode c.code (pc + 4) = .ok (.ldc_w is, 3) := by rw [hb]; exact d4
  have hstr' : vk_R own is text sa s' := vk_R.warm hW0 hstr
  obtain ⟨U, hsteps, hrun, hend, hW, hsame, ce, hce, hO⟩ := X₁.ctorThrowS hexec htr (own := own) (cls := cls) (names := names) (ic := ic) hown' hcls hnames h (fun x hx => nomatch hx) hfX hkX hcellA (by rw [hhp, hT]; exact Nat.le_refl _) (msg := .ref sa) rfl
    (g := { method := m, pc := pc + 7, locals := ls, stack := .ref sa :: .ref T.heap.size :: .ref T.heap.size :: rest, locked := none }) rfl hsize rfl rfl (rest := rest) rfl
    (by rw [hb]; exact d7) (by rw [hb]; exact d10) hout hRframes (by simp only [List.map_cons, List.sum_cons, hcat]; omega) hlocks
  obtain ⟨f1, f2⟩ := vx_frame hsame
  rw [hhp] at f1 f2
  have hWs : s.WarmedH U.vm := State.WarmedH.trans hW0 hW
  have hcl : s.vm.findClass cls = some ce.cls := by
    have h9 := hO.cls
    rw [hvm] at h9
    exact h9
  have hall : s.sameButNew ({ U with vm := s.vm } : State) locs mc ms := by
    subst hA
    obtain ⟨e1, e2⟩ := hsame
    rw [State.setFrames_setFrames] at e1
    have h2 : (T.setVm s.vm).sameButNew ({ U with vm := s.vm } : State) [] (0 + 1) (0 + 6) := ⟨e1, e2⟩
    have h3 := X.same.trans h2
    rw [List.append_nil] at h3
    exact h3.mono hc hs
  refine ⟨U, ?_, .threw T.heap.size, hrun, hend, Or.inr ⟨T.heap.size, rfl, cls, ce, locs, hx U hWs.alike f1 (fun q hq => f2 q hq (fun z hz => nomatch hz)), hce, hO.vm, hcl, hWs, hall, hf⟩⟩
  refine st1 _ ?_
  show Steps p.tables e below (T1.setTop { method := m, pc := pc + 3, locals := ls, stack := .ref T.heap.size :: rest, locked := none }) _
  jvm_step X₁.here [X₁.here.top, hexec, d3', Value.category]
  exact X₁.ldcStringW hexec (own := own) (text := text) (index := is) (a := sa) hown' hstr'.1 hstr'.2
    (g := { method := m, pc := pc + 4, locals := ls, stack := .ref T.heap.size :: .ref T.heap.size :: rest, locked := none }) rfl d4' _ hsteps
end Ends
section Bodies
variable {l : Launch}
theorem vx_ofW {y : MethodName} {ws ws' : List Cond} {rm : Room} {Pc : Array Value → State → Prop} {Qc : Array Value → State → Outcome → State → Prop} {XC : String → State → State → Prop} {mc ms : Nat} {free : Addr → Prop} {cc : ByteArray} {maxL : Nat} {ret : Option FieldType}
    (hy : plainName y.cls = true) (hw : ws = Cond.code y cc maxL ret :: ws')
    (body : ∀ p e s m args below meth c s₁, BodyLoose p l y (headSpec ws rm) cc maxL ret e s m args below meth c s₁ → c.maxLocals = maxL → (∀ x ∈ c.exceptionTable.toList, False) → Pc args s →
      W p l e (headSpec ws rm).room s m args below meth c s.heap [] 0 0 (vx_MQ below Qc XC args s mc ms free) (entryFrame m args maxL)) : vx_Met l y ws rm Pc Qc XC mc ms free := by
  refine MetFree.of_bodyS (code := cc) (maxLocals := maxL) (ret := ret) hy ?_ ?_
  · intro args s m h hn
    obtain ⟨meth, c, h1, h2, h3, h4, h5, h6, -, -⟩ := Cond.code_spec hn (atoms_spec (ws := ws) h _ (by rw [hw]; exact List.mem_cons_self))
    exact ⟨meth, c, h1, h2, h3, h4, h5, h6⟩
  · intro p e s m args below meth c s₁ B hml hP _
    have hh0 : s₁.heap = s.heap := by rw [B.state]; rfl
    have ht : ∀ x ∈ c.exceptionTable.toList, False := by
      obtain ⟨meth9, c9, h1, h2, -, -, -, -, h7, -⟩ := Cond.code_spec B.named (atoms_spec (ws := ws) B.pre _ (by rw [hw]; exact List.mem_cons_self))
      cases Option.some.inj (h1.symm.trans B.method)
      cases Option.some.inj (h2.symm.trans (Stand.of_body B).code)
      intro x hx
      rw [Array.isEmpty_iff.mp h7] at hx
      cases hx
    obtain ⟨t, a1, o, b1, b2, b3⟩ := body p e s m args below meth c s₁ B hml ht hP s₁ hh0 (Stand.of_body B)
    exact ⟨t, o, a1, b1, b2, b3⟩
/-- the table of a body with handlers -/
theorem vx_table {p : Program} {x y : MethodName} {S : Spec} {cc bytes : ByteArray} {maxL maxL' : Nat} {ret ret' : Option FieldType} {e : Env} {s s₁ : State} {m : MethodId} {args : Array Value} {below : List Frame} {meth : Method} {c : Code} {hh : List (Nat × Nat × Nat × Nat)}
    (B : BodyLoose p l y S cc maxL ret e s m args below meth c s₁) (h : (Cond.codeWith y bytes maxL' ret' hh).before args s = true) : c.exceptionTable.toList = tableOf hh := by
  obtain ⟨m9, meth9, c9, hn9, h1, h2, -, -, h6, -⟩ := Cond.codeWith_spec h
  cases Option.some.inj (hn9.symm.trans B.named)
  cases Option.some.inj (h1.symm.trans B.method)
  cases Option.some.inj (h2.symm.trans (Stand.of_body B).code)
  rw [← h6, table_eq]
end Bodies
end VXA
/-! ===== END ===== -/
/-! ===== BEGIN a static call of a method with an exception table ===== -/
section VXS
variable {p : Program} {l : Launch} {e : Env} {R : Room} {s : State} {m : MethodId} {args : Array Value} {below : List Frame} {meth : Method} {c : Code} {T : State} {H : Heap} {locs : List Loc} {cells slots : Nat}
abbrev vx_CSW (R : Room) (s : State) (args : Array Value) (own : String) (index : Nat) (y : MethodName) (bytes : ByteArray) (maxL : Nat) (ret : Option FieldType) (hh : List (Nat × Nat × Nat × Nat)) (ws : List Cond) (rm : Room) (mc ms n : Nat) : Prop :=
  (rm.cells = mc ∧ rm.slots = ms ∧ rm.frames + 1 ≤ R.frames ∧ 8 + (maxL + 11) + rm.locals ≤ R.locals ∧ (∀ w ∈ ws, ∀ (a' : Array Value) (U : State), s.WarmedH U.vm → w.before a' U = true) ∧ Cond.codeWith y bytes maxL ret hh ∈ ws) ∧
  (Cond.codeWith y bytes maxL ret hh).before args s = true ∧ (Cond.initialized y.cls).before args s = true ∧ (y.cls ≠ "java/lang/invoke/MethodHandle" ∧ y.cls ≠ "java/lang/invoke/VarHandle") ∧
  (∀ sig, parseMethodDescriptor y.desc = some sig → n = sig.parameters.length) ∧ (Cond.methodLink own index y).before args s = true ∧ (Cond.static y).before args s = true
theorem vx_cwSW {own : String} {index maxL mc ms : Nat} {y : MethodName} {bytes : ByteArray} {ret : Option FieldType} {hh : List (Nat × Nat × Nat × Nat)} {Ts ws ws' : List Cond} {rm : Room} (n : Nat) (ht : ∀ w ∈ Ts, w.before args s = true) (hT : GoodIn Ts (va_wsS own index y ws)) (hw : ws = Cond.codeWith y bytes maxL ret hh :: ws') (hrc : rm.cells = mc) (hrs : rm.slots = ms)
    (hd : y.cls ≠ "java/lang/invoke/MethodHandle" ∧ y.cls ≠ "java/lang/invoke/VarHandle" ∧ (parseMethodDescriptor y.desc).map (fun d => d.parameters.length) = some n) (hR : rm.frames + 1 ≤ R.frames ∧ 8 + (maxL + 11) + rm.locals ≤ R.locals) :
    vx_CSW R s args own index y bytes maxL ret hh ws rm mc ms n := by
  have ok : ∀ w ∈ va_wsS own index y ws, w.before args s = true := fun w h => ht w (hT w h).1
  have hG : GoodIn Ts ws := fun w h => hT w (by unfold va_wsS; exact List.mem_append_right _ h)
  have hc : Cond.codeWith y bytes maxL ret hh ∈ ws := by rw [hw]; exact List.mem_cons_self
  refine ⟨⟨hrc, hrs, hR.1, hR.2, pay_in ht hG, hc⟩, ht _ (hG _ hc).1, ok _ (by simp [va_wsS]), ⟨hd.1, hd.2.1⟩, fun sig h => ?_, ok _ (by simp [va_wsS]), ok _ (by simp [va_wsS])⟩
  have h2 := hd.2.2
  rw [h] at h2
  exact (Option.some.inj h2).symm
theorem vx_callSW (X : Stand p l e R s m args below meth c T locs cells slots) (hexec : p.tables.exec = Jvm.exec) {own : String} {index : Nat} {y : MethodName} {bytes : ByteArray} {maxL : Nat} {ret : Option FieldType} {hh : List (Nat × Nat × Nat × Nat)}
    (hown : s.vm.findClass own = some m.cls) (hlink : (Cond.methodLink own index y).before args s = true) (hstat : (Cond.static y).before args s = true) (hinit : (Cond.initialized y.cls).before args s = true)
    (hcode : (Cond.codeWith y bytes maxL ret hh).before args s = true) (hy : y.cls ≠ "java/lang/invoke/MethodHandle" ∧ y.cls ≠ "java/lang/invoke/VarHandle")
    {W9 : Nat} {Pre : Pt → Array Value → Prop} {Post : Pt → Array Value → Option Value → Pt → Prop} (hK : Back l R p e below s args y 3 W9 Pre Post)
    {g : JFrame} (hg : g.method = m) (hsize : g.locals.size = c.maxLocals) {argsL rest : List Value} (hlen : ∀ sig, parseMethodDescriptor y.desc = some sig → argsL.length = sig.parameters.length)
    (hstack : g.stack = argsL.reverse ++ rest) (hW : 2 * g.monitorRoom + (rest.map fun v => v.category).sum ≤ W9) (hdg : decode c.code g.pc = .ok (.invokestatic index, 3))
    (hpre : ∀ vm₁, s.WarmedH vm₁ → Pre ⟨T.setVm vm₁, locs, cells, slots⟩ argsL.toArray) :
    ∃ (v : Option Value) (vm₁ : Vm) (B : Pt), s.WarmedH vm₁ ∧ Stand p l e R s m args below meth c B.U B.locs B.cells B.slots ∧ Post ⟨T.setVm vm₁, locs, cells, slots⟩ argsL.toArray v B ∧
      ∀ target, Steps p.tables e below (B.U.setTop { g with pc := g.pc + 3, stack := v.toList ++ rest }) target → Steps p.tables e below (T.setTop g) target := by
  obtain ⟨mk, methM, cM, hnamed, hmethM, -, -, -, -, -, -, hsigM⟩ := Cond.codeWith_spec hcode
  have hstatic : methM.isStatic = true := Cond.static_spec hnamed hmethM hstat
  obtain ⟨kP, hkP, -⟩ := className_of_methodNamed hnamed
  have hinitP : kP.init = .initialized := Cond.initialized_spec (findClass_of_methodNamed hnamed) hkP hinit
  obtain ⟨vm₁, X₁, hstep₁⟩ := X.invokestatic hexec hown hlink hnamed hmethM hstatic hkP hinitP hy (g := g) hg (argsL := argsL) (rest := rest) (hlen _ hsigM) hstack hdg
  obtain ⟨v, B, X', hpost, hsteps⟩ := hK m meth c ⟨T.setVm vm₁, locs, cells, slots⟩ { g with stack := rest } (.invokestatic index) mk argsL.toArray X₁ hg hsize hdg hW (X₁.named hnamed) (hpre vm₁ X₁.warmed)
  exact ⟨v, vm₁, B, X₁.warmed, X', hpost, fun target h => hstep₁ _ fun acts => by rw [doInvoke_state]; exact hsteps.trans h⟩
theorem vx_runSW {y : MethodName} {bytes cc : ByteArray} {maxL nL mc ms n index : Nat} {ret : Option FieldType} {hh : List (Nat × Nat × Nat × Nat)} {ws : List Cond} {rm : Room} {Pc : Array Value → State → Prop} {Qc : Array Value → State → Outcome → State → Prop} {free : Addr → Prop} {Ts : List Cond} {own : String} {As rest : List Value} {g : JFrame}
    (S : CallFix p m c cc nL s args Ts own) (hM : Met l y ws rm Pc Qc mc ms free) (cw : vx_CSW R s args own index y bytes maxL ret hh ws rm mc ms n) (hp : PreS s H Pc As)
    (hg : g.method = m) (hn : As.length = n) (hsize : g.locals.size = nL) (hstack : g.stack = As.reverse ++ rest) (hW : 2 * g.monitorRoom + (rest.map fun v => v.category).sum ≤ 8) (hdg : decode cc g.pc = .ok (.invokestatic index, 3)) (hf : cells + mc ≤ R.cells ∧ slots + ms ≤ R.slots) :
    va_Run p l e R s m args below meth c H locs cells slots mc ms g rest (Qc As.toArray) (free) := by
  obtain ⟨⟨hrc, hrs, hfr, hlo, hws, hcw⟩, hcode, hini, hy, hlen, hl, hstt⟩ := cw
  have hK : Back l R p e below s args y 3 8 (PreOf R mc ms Pc) (PostOf Qc mc ms free) := va_backW (hh := hh) (bytes := bytes) (maxL := maxL) (ret := ret) hM hp.1 hrc hrs hfr hlo hws hcw (fun a' U hW => word_at hW (Or.inl (by first | rfl | simp [Cond.onTables, Cond.keeps, Cond.steady])) hini)
  obtain ⟨hx, hb, hml, ho, -⟩ := S
  intro T hT X
  obtain ⟨v, vm₁, ⟨U', l2, c2, s2⟩, hW₁, X', ⟨g', mk, t, L, e1, e2, hq, h1, hL, h2, h3⟩, st⟩ := vx_callSW X hx (hh := hh) (bytes := bytes) (maxL := maxL) (ret := ret) ho hl hstt hini hcode hy hK hg (hsize.trans hml.symm) (argsL := As) (rest := rest) (fun sig h => hn.trans (hlen sig h)) hstack hW (by rw [hb]; exact hdg)
    (fun vm₁ hW₁ => ⟨hf.1, hf.2, hp.2 (T.setVm vm₁) hT hW₁⟩)
  dsimp only [Pt.U, Pt.locs, Pt.cells, Pt.slots] at X' e1 e2 h1 h2 h3 st
  subst h1; subst h2; subst h3
  exact ⟨v, (T.setVm vm₁).calling g' mk As.toArray, t, U', L, hT, X', hL, e1, e2, hq, st⟩
/-- not caught here, past rows that name other classes: it goes on to the caller -/
theorem vx_outP {p : Program} {l : Launch} {e : Env} {R : Room} {s : State} {m : MethodId} {args : Array Value} {below : List Frame} {meth : Method} {c : Code} {H : Heap} {locs : List Loc} {cells slots : Nat} {free : Addr → Prop} {ls : Array Slot} {rest : List Value} {Qc : Array Value → State → Outcome → State → Prop} {XC : String → State → State → Prop}
    {pc : Nat} {own E : String} {ce : Cell} {q : Addr} {mc ms : Nat} (hown : s.vm.findClass own = some m.cls) (hlocks : meth.locks = false)
    (hpass : ∀ z ∈ c.exceptionTable.toList, covers z pc = false ∨ (z.catchType ≠ 0 ∧ ∃ nm : String, (Cond.classLink own z.catchType nm).before args s = true ∧ va_Nc E nm s)) (hcell : H[q]? = some ce) (hv : ce.vm = .none) (hcl : s.vm.findClass E = some ce.cls)
    (hx : ∀ t : State, t.heap = H → s.vm.Alike t.vm → XC E s t) (hf : ∀ z ∈ locs, free z.base) (hc : cells ≤ mc) (hs : slots ≤ ms) :
    vx_W p l e R s m args below meth c H locs cells slots (vx_MQ below Qc XC args s mc ms free) (F0 m pc ls rest) q := by
  intro T hT X
  have hpl : e.platform.magicAccessors = ({} : Platform).magicAccessors := by rw [X.admits.platform]
  obtain ⟨vm', hW', X', st⟩ := Stand.outThrough X hlocks q (g := F0 m pc ls rest) rfl rfl rfl (cell := ce) (by rw [hT]; exact hcell) (by rw [hv]; rfl)
    (by obtain ⟨k9, h9, -⟩ := Vm.findClass_spec hcl; exact ⟨k9, h9⟩) (fun z hz => by
      rcases hpass z hz with h | ⟨hz0, nm, hl1, hn1⟩
      · exact Or.inl h
      · obtain ⟨c6, hc6, hcl6⟩ := Cond.classLink_spec hown hl1 e.platform hpl
        obtain ⟨a8, b8, h1, h2, h3⟩ := hn1
        cases Option.some.inj (h1.symm.trans hcl)
        cases Option.some.inj (h2.symm.trans hc6)
        exact Or.inr ⟨hz0, _, hcl6, h3⟩)
  obtain ⟨g₀, hfr⟩ := X'.frames_eq
  have hcell9 : ((T.setVm vm').setFrames (.throwing q :: below)).heap[q]? = some ce := by
    show T.heap[q]? = some ce
    rw [hT]; exact hcell
  have hend : Ended ((T.setVm vm').setFrames (.throwing q :: below)) below (.threw q) := State.frames_setFrames _ (State.cur_lt_of_frames hfr)
  refine ⟨(T.setVm vm').setFrames (.throwing q :: below), ?_, .threw q, X'.here.running, hend, Or.inr ⟨q, rfl, E, ce, locs, hx _ hT (X'.ends _).1.alike, hcell9, hv, hcl, (X'.ends _).1, (X'.ends _).2.mono hc hs, hf⟩⟩
  rw [X.pushThrowing_eq]
  exact st
/-- a thing of a world lies in the heap -/
theorem vx_lt {D : va_G} {cl : List vw_C} {ws : va_W} {H1 : Heap} (h : va_P D cl ws H1) {k : Nat} {q : Nat × va_E} (hk : ws[k]? = some q) : q.1 < H1.size := (h k q hk).lt
end VXS
/-! ===== END ===== -/
/-! ===== BEGIN methods with a table of their own: called by a name, returning or throwing ===== -/
section VXH
/-! vx_backW, vx_callVX, vx_callSX, vx_callVW, vx_runVW, vx_runVX, vx_runSX, vx_ofWH follow the same proofs as their sisters above (Free/Laws.lean, Shelf42/LK1.lean); vx_outP calls Shelf42/NT130.lean (outThrough). -/
section
variable {l : Launch} {R : Room} {p : Program} {e : Env} {below : List Frame} {s : State} {sargs : Array Value} {y : MethodName} {len W9 : Nat}
theorem vx_backW {ws : List Cond} {rm : Room} {Pc : Array Value → State → Prop} {Qc : Array Value → State → Outcome → State → Prop} {XC : String → State → State → Prop} {mc ms : Nat} {free : Addr → Prop} {bytes : ByteArray} {maxL : Nat} {ret : Option FieldType} {hh : List (Nat × Nat × Nat × Nat)}
    (hM : vx_Met l y ws rm Pc Qc XC mc ms free) (hblind : FrameBlind Pc) (hrc : rm.cells = mc) (hrs : rm.slots = ms)
    (hframes : rm.frames + 1 ≤ R.frames) (hlocals : W9 + (maxL + 11) + rm.locals ≤ R.locals)
    (hws : ∀ w ∈ ws, ∀ a' U, s.WarmedH U.vm → w.before a' U = true) (hcode : Cond.codeWith y bytes maxL ret hh ∈ ws) (hinit : ∀ a' U, s.WarmedH U.vm → (Cond.initialized y.cls).before a' U = true) :
    vx_Back l R p e below s sargs y len W9 (PreOf R mc ms Pc) (PostOf Qc mc ms free) (vx_Post XC mc ms free) := by
  intro m meth c A g ig mk a X hg hsize hdg hW hn hp
  have h1 : (headSpec ws rm).pre.before a A.U = true := atoms_intro fun w hw => hws w hw _ _ X.warmed
  have h2 : (Cond.codeWith y bytes maxL ret hh).before a A.U = true := hws _ hcode _ _ X.warmed
  have h3 : (Cond.initialized y.cls).before a A.U = true := hinit _ _ X.warmed
  have h4 : A.cells + (headSpec ws rm).room.cells ≤ R.cells := by rw [show (headSpec ws rm).room.cells = mc from hrc]; exact hp.1
  have h5 : A.slots + (headSpec ws rm).room.slots ≤ R.slots := by rw [show (headSpec ws rm).room.slots = ms from hrs]; exact hp.2.1
  have hPc : Pc a (A.U.calling g mk a) := hblind _ _ _ _ hp.2.2
  obtain ⟨U, Ls, c0, s0⟩ := A
  dsimp only [Pt.U, Pt.locs, Pt.cells, Pt.slots] at h1 h2 h3 h4 h5 X hn hPc ⊢
  obtain ⟨m9, methY, cY, hn9, hmY, hcY, -, hlY, -⟩ := Cond.codeWith_spec h2
  cases Option.some.inj (hn9.symm.trans hn)
  obtain ⟨kY, hkY, -⟩ := className_of_methodNamed hn
  have hinitY : kY.init = .initialized := Cond.initialized_spec (findClass_of_methodNamed hn) hkY h3
  have h : At U g.method c below := by rw [hg]; exact X.here
  have hlocals9 : W9 + (maxL + 11) + (headSpec ws rm).room.locals ≤ R.locals := hlocals
  have happ : (headSpec ws rm).appliesLoose y e.platform (U.calling g mk a) = true :=
    Spec.appliesLoose_calling (g := g) h hdg hn hkY hinitY
      (X.room_calling (g := g) (R' := (headSpec ws rm).room) hsize hmY hcY hframes (by rw [hlY]; omega) h4 h5) h1
  obtain ⟨mid, hmid⟩ := h.above
  have hfr : (U.setTop g).frames = (.java g :: mid) ++ below := by rw [State.frames_setTop' g h.top, hmid]; rfl
  obtain ⟨o, s₂, hsteps, -, hend, hq⟩ := Steps.callFree hM p X.admits X.cas X.clock (acts := []) hfr happ hPc trivial
  have hq' : vx_Q Qc XC mc ms free a (U.calling g mk a) o s₂ := hq
  rw [State.frames_setTop' g h.top] at hend
  obtain ⟨g₀, hg0⟩ := Option.isSome_iff_exists.mp h.top
  obtain ⟨r, hr⟩ := State.topJava?_eq_some.mp hg0
  have hr' : (({ U with heap := s₂.heap, slotsUsed := s₂.slotsUsed } : State).setVm s₂.vm).frames = .java g₀ :: r := hr
  rcases hq' with ⟨hqc, L, hfe, hL⟩ | ⟨q, rfl, E, ce, L, hx, hce, hcv, hcl, hW₂, hsm, hL⟩
  · obtain ⟨⟨v, rfl⟩, hW₂, e2, q2, q3, q4, q5, q6⟩ := id hfe
    have e3 : s₂ = ({ (U.calling g mk a).setFrames s₂.frames with heap := s₂.heap, slotsUsed := s₂.slotsUsed } : State).setVm s₂.vm := by
      have : s₂ = ({ s₂ with vm := (U.calling g mk a).vm } : State).setVm s₂.vm := rfl
      rw [e2] at this
      exact this
    obtain ⟨c₂, i₂, len₂, hc₂, hd₂, hf₂⟩ := hend
    have hW' : U.WarmedH s₂.vm := hW₂
    have hcc : c₂ = c := by
      have h1 : s₂.code? g.method = U.code? g.method := by
        rw [State.code?_eq, State.code?_eq, hW'.alike.method?]
      exact Option.some.inj (hc₂.symm.trans (h1.trans h.code))
    subst hcc
    have hlen : len₂ = len := by rw [hdg] at hd₂; cases hd₂; rfl
    subst hlen
    have hs₂ : s₂ = (({ U with heap := s₂.heap, slotsUsed := s₂.slotsUsed } : State).setVm s₂.vm).setTop { g with pc := g.pc + len₂, stack := v.toList ++ g.stack } := by
      refine e3.trans ?_
      rw [hf₂, State.calling_eq h.top, State.setFrames_setFrames, State.setTop_of_frames _ hr', hr]
      rfl
    have hsame : U.sameButNew ({ U with heap := s₂.heap, slotsUsed := s₂.slotsUsed } : State) L mc ms := by
      refine ⟨?_, q2, q3, q4, q5, q6⟩
      obtain ⟨t, ht, -⟩ := State.frames_cons hr
      show ({ U with heap := s₂.heap, slotsUsed := s₂.slotsUsed } : State) = { U.setFrames U.frames with heap := s₂.heap, slotsUsed := s₂.slotsUsed }
      rw [State.setFrames_self ht]
    subst hg
    refine Or.inl ⟨v, ⟨(({ U with heap := s₂.heap, slotsUsed := s₂.slotsUsed } : State).setVm s₂.vm), Ls ++ L, c0 + mc, s0 + ms⟩,
      ⟨X.admits, X.cas, X.clock, X.frames, X.room, X.hears, X.method, X.code, (X.here.setHeapUsed s₂.heap s₂.slotsUsed).setVm hW'.alike, X.tail, State.WarmedH.trans X.warmed hW', X.limits, X.bytes, X.same.trans (hsame.setVm s.vm)⟩,
      ⟨g, mk, s₂, L, rfl, rfl, hqc, rfl, hL, rfl, rfl⟩, ?_⟩
    show Steps p.tables e below _ ((({ U with heap := s₂.heap, slotsUsed := s₂.slotsUsed } : State).setVm s₂.vm).setTop { g with pc := g.pc + len₂, stack := v.toList ++ g.stack })
    rw [← hs₂]
    exact hsteps
  · obtain ⟨e2, q2, q3, q4, q5, q6⟩ := id hsm
    have e3 : s₂ = ({ (U.calling g mk a).setFrames s₂.frames with heap := s₂.heap, slotsUsed := s₂.slotsUsed } : State).setVm s₂.vm := by
      have : s₂ = ({ s₂ with vm := (U.calling g mk a).vm } : State).setVm s₂.vm := rfl
      rw [e2] at this
      exact this
    have hf₂ : s₂.frames = .throwing q :: .java g :: U.frames.tail := hend
    have hW' : U.WarmedH s₂.vm := hW₂
    have hs₂ : s₂ = ((({ U with heap := s₂.heap, slotsUsed := s₂.slotsUsed } : State).setVm s₂.vm).setTop g).pushFrame (.throwing q) := by
      refine e3.trans ?_
      rw [hf₂, State.calling_eq h.top, State.setFrames_setFrames, State.pushFrame, State.frames_setTop _ hr', State.setTop_of_frames _ hr', State.setFrames_setFrames, hr]
      rfl
    have hsame : U.sameButNew ({ U with heap := s₂.heap, slotsUsed := s₂.slotsUsed } : State) L mc ms := by
      refine ⟨?_, q2, q3, q4, q5, q6⟩
      obtain ⟨t, ht, -⟩ := State.frames_cons hr
      show ({ U with heap := s₂.heap, slotsUsed := s₂.slotsUsed } : State) = { U.setFrames U.frames with heap := s₂.heap, slotsUsed := s₂.slotsUsed }
      rw [State.setFrames_self ht]
    subst hg
    refine Or.inr ⟨q, ⟨(({ U with heap := s₂.heap, slotsUsed := s₂.slotsUsed } : State).setVm s₂.vm), Ls ++ L, c0 + mc, s0 + ms⟩,
      ⟨X.admits, X.cas, X.clock, X.frames, X.room, X.hears, X.method, X.code, (X.here.setHeapUsed s₂.heap s₂.slotsUsed).setVm hW'.alike, X.tail, State.WarmedH.trans X.warmed hW', X.limits, X.bytes, X.same.trans (hsame.setVm s.vm)⟩,
      ⟨g, mk, s₂, L, E, ce, rfl, rfl, hx, hce, hcv, hcl, rfl, hL, rfl, rfl⟩, ?_⟩
    show Steps p.tables e below _ (((({ U with heap := s₂.heap, slotsUsed := s₂.slotsUsed } : State).setVm s₂.vm).setTop g).pushFrame (.throwing q))
    rw [← hs₂]
    exact hsteps
end
variable {p : Program} {l : Launch} {e : Env} {R : Room} {s : State} {m : MethodId} {args : Array Value} {below : List Frame} {meth : Method} {c : Code} {T : State} {H : Heap} {locs : List Loc} {cells slots : Nat}
theorem vx_callVX (X : Stand p l e R s m args below meth c T locs cells slots) (hexec : p.tables.exec = Jvm.exec) {own C : String} {index : Nat} {y : MethodName} {bytes : ByteArray} {maxL : Nat} {ret : Option FieldType} {hh : List (Nat × Nat × Nat × Nat)}
    (hown : s.vm.findClass own = some m.cls) (hlink : (Cond.methodLink own index y).before args s = true) (hinst : (Cond.instanceMethod y).before args s = true) (hsel : (Cond.selects C y y).before args s = true)
    (hcode : (Cond.codeWith y bytes maxL ret hh).before args s = true) (hy : y.cls ≠ "java/lang/invoke/MethodHandle" ∧ y.cls ≠ "java/lang/invoke/VarHandle")
    {W9 : Nat} {Pre : Pt → Array Value → Prop} {Post : Pt → Array Value → Option Value → Pt → Prop} {PostX : Pt → Array Value → Addr → Pt → Prop} (hK : vx_Back l R p e below s args y 3 W9 Pre Post PostX)
    {b : Addr} {cellB : Cell} (hcell : T.heap[b]? = some cellB) (hobj : cellB.vm.isStatics = false) (hcls : s.vm.findClass C = some cellB.cls)
    {g : JFrame} (hg : g.method = m) (hsize : g.locals.size = c.maxLocals) {argsL rest : List Value} (hlen : ∀ sig, parseMethodDescriptor y.desc = some sig → argsL.length = sig.parameters.length)
    (hstack : g.stack = argsL.reverse ++ .ref b :: rest) (hW : 2 * g.monitorRoom + (rest.map fun v => v.category).sum ≤ W9) (hdg : decode c.code g.pc = .ok (.invokevirtual index, 3))
    (hpre : ∀ vm₁, s.WarmedH vm₁ → Pre ⟨T.setVm vm₁, locs, cells, slots⟩ (Value.ref b :: argsL).toArray) :
    (∃ (v : Option Value) (vm₁ : Vm) (B : Pt), s.WarmedH vm₁ ∧ Stand p l e R s m args below meth c B.U B.locs B.cells B.slots ∧ Post ⟨T.setVm vm₁, locs, cells, slots⟩ (Value.ref b :: argsL).toArray v B ∧
      ∀ target, Steps p.tables e below (B.U.setTop { g with pc := g.pc + 3, stack := v.toList ++ rest }) target → Steps p.tables e below (T.setTop g) target) ∨
    (∃ (q : Addr) (vm₁ : Vm) (B : Pt), s.WarmedH vm₁ ∧ Stand p l e R s m args below meth c B.U B.locs B.cells B.slots ∧ PostX ⟨T.setVm vm₁, locs, cells, slots⟩ (Value.ref b :: argsL).toArray q B ∧
      Steps p.tables e below (T.setTop g) ((B.U.setTop { g with stack := rest }).pushFrame (.throwing q))) := by
  obtain ⟨mk, methM, hnamed, hmethM, hstM, habM⟩ := Cond.instanceMethod_spec hinst
  obtain ⟨m8, methM', cM, hn8, hmethM', -, -, -, -, -, -, hsigM⟩ := Cond.codeWith_spec hcode
  cases Option.some.inj (hn8.symm.trans hnamed)
  cases hmethM.symm.trans hmethM'
  obtain ⟨c2, r2, m2, q1, q2, q3, q4, kP, hkP, hkPi⟩ := Cond.selects_spec hsel
  cases hcls.symm.trans q1
  cases (State.methodFound?_of_named hnamed hy).symm.trans q2
  cases hnamed.symm.trans q3
  have hselP : selectMethod e.platform s.vm cellB.cls mk = .method mk := by rw [Launch.admits_selectMethod X.admits]; exact q4
  obtain ⟨vm₁, X₁, hstep₁⟩ := X.invokevirtual hexec hown hlink hnamed hmethM hstM hkP hkPi hy (a := b) (cell := cellB) hcell
    (fun z h => by rw [h] at hobj; cases hobj) hselP hmethM habM hkP hkPi (g := g) hg (argsL := argsL) (rest := rest) (hlen _ hsigM) hstack hdg
  rcases hK m meth c ⟨T.setVm vm₁, locs, cells, slots⟩ { g with stack := rest } (.invokevirtual index) mk (Value.ref b :: argsL).toArray X₁ hg hsize hdg hW (X₁.named hnamed) (hpre vm₁ X₁.warmed) with ⟨v, B, X', hpost, hsteps⟩ | ⟨q, B, X', hpost, hsteps⟩
  · exact Or.inl ⟨v, vm₁, B, X₁.warmed, X', hpost, fun target h => hstep₁ _ fun acts => by rw [doInvoke_state]; exact hsteps.trans h⟩
  · exact Or.inr ⟨q, vm₁, B, X₁.warmed, X', hpost, hstep₁ _ fun acts => by rw [doInvoke_state]; exact hsteps⟩
theorem vx_callSX (X : Stand p l e R s m args below meth c T locs cells slots) (hexec : p.tables.exec = Jvm.exec) {own : String} {index : Nat} {y : MethodName} {bytes : ByteArray} {maxL : Nat} {ret : Option FieldType} {hh : List (Nat × Nat × Nat × Nat)}
    (hown : s.vm.findClass own = some m.cls) (hlink : (Cond.methodLink own index y).before args s = true) (hstat : (Cond.static y).before args s = true) (hinit : (Cond.initialized y.cls).before args s = true)
    (hcode : (Cond.codeWith y bytes maxL ret hh).before args s = true) (hy : y.cls ≠ "java/lang/invoke/MethodHandle" ∧ y.cls ≠ "java/lang/invoke/VarHandle")
    {W9 : Nat} {Pre : Pt → Array Value → Prop} {Post : Pt → Array Value → Option Value → Pt → Prop} {PostX : Pt → Array Value → Addr → Pt → Prop} (hK : vx_Back l R p e below s args y 3 W9 Pre Post PostX)
    {g : JFrame} (hg : g.method = m) (hsize : g.locals.size = c.maxLocals) {argsL rest : List Value} (hlen : ∀ sig, parseMethodDescriptor y.desc = some sig → argsL.length = sig.parameters.length)
    (hstack : g.stack = argsL.reverse ++ rest) (hW : 2 * g.monitorRoom + (rest.map fun v => v.category).sum ≤ W9) (hdg : decode c.code g.pc = .ok (.invokestatic index, 3))
    (hpre : ∀ vm₁, s.WarmedH vm₁ → Pre ⟨T.setVm vm₁, locs, cells, slots⟩ argsL.toArray) :
    (∃ (v : Option Value) (vm₁ : Vm) (B : Pt), s.WarmedH vm₁ ∧ Stand p l e R s m args below meth c B.U B.locs B.cells B.slots ∧ Post ⟨T.setVm vm₁, locs, cells, slots⟩ argsL.toArray v B ∧
      ∀ target, Steps p.tables e below (B.U.setTop { g with pc := g.pc + 3, stack := v.toList ++ rest }) target → Steps p.tables e below (T.setTop g) target) ∨
    (∃ (q : Addr) (vm₁ : Vm) (B : Pt), s.WarmedH vm₁ ∧ Stand p l e R s m args below meth c B.U B.locs B.cells B.slots ∧ PostX ⟨T.setVm vm₁, locs, cells, slots⟩ argsL.toArray q B ∧
      Steps p.tables e below (T.setTop g) ((B.U.setTop { g with stack := rest }).pushFrame (.throwing q))) := by
  obtain ⟨mk, methM, cM, hnamed, hmethM, -, -, -, -, -, -, hsigM⟩ := Cond.codeWith_spec hcode
  have hstatic : methM.isStatic = true := Cond.static_spec hnamed hmethM hstat
  obtain ⟨kP, hkP, -⟩ := className_of_methodNamed hnamed
  have hinitP : kP.init = .initialized := Cond.initialized_spec (findClass_of_methodNamed hnamed) hkP hinit
  obtain ⟨vm₁, X₁, hstep₁⟩ := X.invokestatic hexec hown hlink hnamed hmethM hstatic hkP hinitP hy (g := g) hg (argsL := argsL) (rest := rest) (hlen _ hsigM) hstack hdg
  rcases hK m meth c ⟨T.setVm vm₁, locs, cells, slots⟩ { g with stack := rest } (.invokestatic index) mk argsL.toArray X₁ hg hsize hdg hW (X₁.named hnamed) (hpre vm₁ X₁.warmed) with ⟨v, B, X', hpost, hsteps⟩ | ⟨q, B, X', hpost, hsteps⟩
  · exact Or.inl ⟨v, vm₁, B, X₁.warmed, X', hpost, fun target h => hstep₁ _ fun acts => by rw [doInvoke_state]; exact hsteps.trans h⟩
  · exact Or.inr ⟨q, vm₁, B, X₁.warmed, X', hpost, hstep₁ _ fun acts => by rw [doInvoke_state]; exact hsteps⟩
theorem vx_callVW (X : Stand p l e R s m args below meth c T locs cells slots) (hexec : p.tables.exec = Jvm.exec) {own C : String} {index : Nat} {y : MethodName} {bytes : ByteArray} {maxL : Nat} {ret : Option FieldType} {hh : List (Nat × Nat × Nat × Nat)}
    (hown : s.vm.findClass own = some m.cls) (hlink : (Cond.methodLink own index y).before args s = true) (hinst : (Cond.instanceMethod y).before args s = true) (hsel : (Cond.selects C y y).before args s = true)
    (hcode : (Cond.codeWith y bytes maxL ret hh).before args s = true) (hy : y.cls ≠ "java/lang/invoke/MethodHandle" ∧ y.cls ≠ "java/lang/invoke/VarHandle")
    {W9 : Nat} {Pre : Pt → Array Value → Prop} {Post : Pt → Array Value → Option Value → Pt → Prop} (hK : Back l R p e below s args y 3 W9 Pre Post)
    {b : Addr} {cellB : Cell} (hcell : T.heap[b]? = some cellB) (hobj : cellB.vm.isStatics = false) (hcls : s.vm.findClass C = some cellB.cls)
    {g : JFrame} (hg : g.method = m) (hsize : g.locals.size = c.maxLocals) {argsL rest : List Value} (hlen : ∀ sig, parseMethodDescriptor y.desc = some sig → argsL.length = sig.parameters.length)
    (hstack : g.stack = argsL.reverse ++ .ref b :: rest) (hW : 2 * g.monitorRoom + (rest.map fun v => v.category).sum ≤ W9) (hdg : decode c.code g.pc = .ok (.invokevirtual index, 3))
    (hpre : ∀ vm₁, s.WarmedH vm₁ → Pre ⟨T.setVm vm₁, locs, cells, slots⟩ (Value.ref b :: argsL).toArray) :
    ∃ (v : Option Value) (vm₁ : Vm) (B : Pt), s.WarmedH vm₁ ∧ Stand p l e R s m args below meth c B.U B.locs B.cells B.slots ∧ Post ⟨T.setVm vm₁, locs, cells, slots⟩ (Value.ref b :: argsL).toArray v B ∧
      ∀ target, Steps p.tables e below (B.U.setTop { g with pc := g.pc + 3, stack := v.toList ++ rest }) target → Steps p.tables e below (T.setTop g) target := by
  obtain ⟨mk, methM, hnamed, hmethM, hstM, habM⟩ := Cond.instanceMethod_spec hinst
  obtain ⟨m8, methM', cM, hn8, hmethM', -, -, -, -, -, -, hsigM⟩ := Cond.codeWith_spec hcode
  cases Option.some.inj (hn8.symm.trans hnamed)
  cases hmethM.symm.trans hmethM'
  obtain ⟨c2, r2, m2, q1, q2, q3, q4, kP, hkP, hkPi⟩ := Cond.selects_spec hsel
  cases hcls.symm.trans q1
  cases (State.methodFound?_of_named hnamed hy).symm.trans q2
  cases hnamed.symm.trans q3
  have hselP : selectMethod e.platform s.vm cellB.cls mk = .method mk := by rw [Launch.admits_selectMethod X.admits]; exact q4
  obtain ⟨vm₁, X₁, hstep₁⟩ := X.invokevirtual hexec hown hlink hnamed hmethM hstM hkP hkPi hy (a := b) (cell := cellB) hcell
    (fun z h => by rw [h] at hobj; cases hobj) hselP hmethM habM hkP hkPi (g := g) hg (argsL := argsL) (rest := rest) (hlen _ hsigM) hstack hdg
  obtain ⟨v, B, X', hpost, hsteps⟩ := hK m meth c ⟨T.setVm vm₁, locs, cells, slots⟩ { g with stack := rest } (.invokevirtual index) mk (Value.ref b :: argsL).toArray X₁ hg hsize hdg hW (X₁.named hnamed) (hpre vm₁ X₁.warmed)
  exact ⟨v, vm₁, B, X₁.warmed, X', hpost, fun target h => hstep₁ _ fun acts => by rw [doInvoke_state]; exact hsteps.trans h⟩
abbrev vx_CVW (R : Room) (s : State) (args : Array Value) (own C : String) (index : Nat) (y : MethodName) (bytes : ByteArray) (maxL : Nat) (ret : Option FieldType) (hh : List (Nat × Nat × Nat × Nat)) (ws : List Cond) (rm : Room) (mc ms n : Nat) : Prop :=
  (rm.cells = mc ∧ rm.slots = ms ∧ rm.frames + 1 ≤ R.frames ∧ 8 + (maxL + 11) + rm.locals ≤ R.locals ∧ (∀ w ∈ ws, ∀ (a' : Array Value) (U : State), s.WarmedH U.vm → w.before a' U = true) ∧ Cond.codeWith y bytes maxL ret hh ∈ ws) ∧
  (Cond.codeWith y bytes maxL ret hh).before args s = true ∧ (Cond.initialized y.cls).before args s = true ∧ (y.cls ≠ "java/lang/invoke/MethodHandle" ∧ y.cls ≠ "java/lang/invoke/VarHandle") ∧
  (∀ sig, parseMethodDescriptor y.desc = some sig → n = sig.parameters.length) ∧ (Cond.methodLink own index y).before args s = true ∧ (Cond.instanceMethod y).before args s = true ∧ (Cond.selects C y y).before args s = true
theorem vx_cwVW {own C : String} {index maxL mc ms : Nat} {y : MethodName} {bytes : ByteArray} {ret : Option FieldType} {hh : List (Nat × Nat × Nat × Nat)} {Ts ws ws' : List Cond} {rm : Room} (n : Nat) (ht : ∀ w ∈ Ts, w.before args s = true) (hT : GoodIn Ts (wsV own index C y ws)) (hw : ws = Cond.codeWith y bytes maxL ret hh :: ws') (hrc : rm.cells = mc) (hrs : rm.slots = ms)
    (hd : y.cls = C ∧ y.cls ≠ "java/lang/invoke/MethodHandle" ∧ y.cls ≠ "java/lang/invoke/VarHandle" ∧ (parseMethodDescriptor y.desc).map (fun d => d.parameters.length) = some n) (hR : rm.frames + 1 ≤ R.frames ∧ 8 + (maxL + 11) + rm.locals ≤ R.locals) :
    vx_CVW R s args own C index y bytes maxL ret hh ws rm mc ms n := by
  obtain ⟨hC, hd⟩ := hd
  subst hC
  have ok : ∀ w ∈ wsV own index y.cls y ws, w.before args s = true := fun w h => ht w (hT w h).1
  have hG : GoodIn Ts ws := fun w h => hT w (by unfold wsV; exact List.mem_append_right _ h)
  have hc : Cond.codeWith y bytes maxL ret hh ∈ ws := by rw [hw]; exact List.mem_cons_self
  refine ⟨⟨hrc, hrs, hR.1, hR.2, pay_in ht hG, hc⟩, ht _ (hG _ hc).1, ok _ (by simp [wsV]), ⟨hd.1, hd.2.1⟩, fun sig h => ?_, ok _ (by simp [wsV]), ok _ (by simp [wsV]), ok _ (by simp [wsV])⟩
  have h2 := hd.2.2
  rw [h] at h2
  exact (Option.some.inj h2).symm
theorem vx_runVW {y : MethodName} {bytes cc : ByteArray} {maxL nL mc ms n index : Nat} {ret : Option FieldType} {hh : List (Nat × Nat × Nat × Nat)} {ws : List Cond} {rm : Room} {Pc : Array Value → State → Prop} {Qc : Array Value → State → Outcome → State → Prop} {free : Addr → Prop} {Ts : List Cond} {own C : String} {b : Addr} {As rest : List Value} {g : JFrame}
    (S : CallFix p m c cc nL s args Ts own) (hM : Met l y ws rm Pc Qc mc ms free) (cw : vx_CVW R s args own C index y bytes maxL ret hh ws rm mc ms n) (hp : PreV s H C b Pc As)
    (hg : g.method = m) (hn : As.length = n) (hsize : g.locals.size = nL) (hstack : g.stack = As.reverse ++ .ref b :: rest) (hW : 2 * g.monitorRoom + (rest.map fun v => v.category).sum ≤ 8) (hdg : decode cc g.pc = .ok (.invokevirtual index, 3)) (hf : cells + mc ≤ R.cells ∧ slots + ms ≤ R.slots) :
    va_Run p l e R s m args below meth c H locs cells slots mc ms g rest (Qc (Value.ref b :: As).toArray) free := by
  obtain ⟨⟨hrc, hrs, hfr, hlo, hws, hcw⟩, hcode, hini, hy, hlen, hl, hin, hse⟩ := cw
  have hK : Back l R p e below s args y 3 8 (PreOf R mc ms Pc) (PostOf Qc mc ms free) := va_backW (hh := hh) (bytes := bytes) (maxL := maxL) (ret := ret) hM hp.1 hrc hrs hfr hlo hws hcw (fun a' U hW => word_at hW (Or.inl (by first | rfl | simp [Cond.onTables, Cond.keeps, Cond.steady])) hini)
  obtain ⟨hx, hb, hml, ho, -⟩ := S
  obtain ⟨-, ⟨cellB, hcB, hoB, hclB⟩, hPc⟩ := hp
  intro T hT X
  obtain ⟨v, vm₁, ⟨U', l2, c2, s2⟩, hW₁, X', ⟨g', mk, t, L, e1, e2, hq, h1, hL, h2, h3⟩, st⟩ := vx_callVW X hx (C := C) (hh := hh) (bytes := bytes) (maxL := maxL) (ret := ret) ho hl hin hse hcode hy hK (by rw [hT]; exact hcB) hoB hclB hg (hsize.trans hml.symm) (argsL := As) (rest := rest) (fun sig h => hn.trans (hlen sig h)) hstack hW (by rw [hb]; exact hdg)
    (fun vm₁ hW₁ => ⟨hf.1, hf.2, hPc (T.setVm vm₁) hT hW₁⟩)
  dsimp only [Pt.U, Pt.locs, Pt.cells, Pt.slots] at X' e1 e2 h1 h2 h3 st
  subst h1; subst h2; subst h3
  exact ⟨v, (T.setVm vm₁).calling g' mk (Value.ref b :: As).toArray, t, U', L, hT, X', hL, e1, e2, hq, st⟩
section
variable {y : MethodName} {bytes cc : ByteArray} {maxL nL mc ms n index : Nat} {ret : Option FieldType} {ws : List Cond} {rm : Room} {Pc : Array Value → State → Prop} {Qc : Array Value → State → Outcome → State → Prop} {XC : String → State → State → Prop} {free : Addr → Prop} {Ts : List Cond} {own C : String} {b : Addr} {As rest : List Value} {g : JFrame}
theorem vx_runVX {hh : List (Nat × Nat × Nat × Nat)} (S : CallFix p m c cc nL s args Ts own) (hM : vx_Met l y ws rm Pc Qc XC mc ms free) (cw : vx_CVW R s args own C index y bytes maxL ret hh ws rm mc ms n) (hp : PreV s H C b Pc As)
    (hg : g.method = m) (hn : As.length = n) (hsize : g.locals.size = nL) (hstack : g.stack = As.reverse ++ .ref b :: rest) (hW : 2 * g.monitorRoom + (rest.map fun v => v.category).sum ≤ 8) (hdg : decode cc g.pc = .ok (.invokevirtual index, 3)) (hf : cells + mc ≤ R.cells ∧ slots + ms ≤ R.slots) :
    vx_Run p l e R s m args below meth c H locs cells slots mc ms g rest (Qc (Value.ref b :: As).toArray) XC free := by
  obtain ⟨⟨hrc, hrs, hfr, hlo, hws, hcw⟩, hcode, hini, hy, hlen, hl, hin, hse⟩ := cw
  have hK : vx_Back l R p e below s args y 3 8 (PreOf R mc ms Pc) (PostOf Qc mc ms free) (vx_Post XC mc ms free) := vx_backW (hh := hh) (bytes := bytes) (maxL := maxL) (ret := ret) hM hp.1 hrc hrs hfr hlo hws hcw (fun a' U hW => word_at hW (Or.inl (by first | rfl | simp [Cond.onTables, Cond.keeps, Cond.steady])) hini)
  obtain ⟨hx, hb, hml, ho, -⟩ := S
  obtain ⟨-, ⟨cellB, hcB, hoB, hclB⟩, hPc⟩ := hp
  intro T hT X
  rcases vx_callVX X hx (C := C) (hh := hh) (bytes := bytes) (maxL := maxL) (ret := ret) ho hl hin hse hcode hy hK (by rw [hT]; exact hcB) hoB hclB hg (hsize.trans hml.symm) (argsL := As) (rest := rest) (fun sig h => hn.trans (hlen sig h)) hstack hW (by rw [hb]; exact hdg)
    (fun vm₁ hW₁ => ⟨hf.1, hf.2, hPc (T.setVm vm₁) hT hW₁⟩) with ⟨v, vm₁, ⟨U', l2, c2, s2⟩, hW₁, X', ⟨g', mk, t, L, e1, e2, hq, h1, hL, h2, h3⟩, st⟩ | ⟨q, vm₁, ⟨U', l2, c2, s2⟩, hW₁, X', ⟨g', mk, t, L, E, ce, e1, e2, hq, hce, hcv, hcl, h1, hL, h2, h3⟩, st⟩
  · dsimp only [Pt.U, Pt.locs, Pt.cells, Pt.slots] at X' e1 e2 h1 h2 h3 st
    subst h1; subst h2; subst h3
    exact Or.inl ⟨v, (T.setVm vm₁).calling g' mk (Value.ref b :: As).toArray, t, U', L, hT, X', hL, e1, e2, hq, st⟩
  · dsimp only [Pt.U, Pt.locs, Pt.cells, Pt.slots] at X' e1 e2 h1 h2 h3 st hcl
    subst h1; subst h2; subst h3
    exact Or.inr ⟨q, (T.setVm vm₁).calling g' mk (Value.ref b :: As).toArray, t, U', L, E, ce, hT, X', hL, e1, e2, hq, hce, hcv, vx_cls hW₁ hcl, st⟩
theorem vx_runSX {hh : List (Nat × Nat × Nat × Nat)} (S : CallFix p m c cc nL s args Ts own) (hM : vx_Met l y ws rm Pc Qc XC mc ms free) (cw : vx_CSW R s args own index y bytes maxL ret hh ws rm mc ms n) (hp : PreS s H Pc As)
    (hg : g.method = m) (hn : As.length = n) (hsize : g.locals.size = nL) (hstack : g.stack = As.reverse ++ rest) (hW : 2 * g.monitorRoom + (rest.map fun v => v.category).sum ≤ 8) (hdg : decode cc g.pc = .ok (.invokestatic index, 3)) (hf : cells + mc ≤ R.cells ∧ slots + ms ≤ R.slots) :
    vx_Run p l e R s m args below meth c H locs cells slots mc ms g rest (Qc As.toArray) XC free := by
  obtain ⟨⟨hrc, hrs, hfr, hlo, hws, hcw⟩, hcode, hini, hy, hlen, hl, hstt⟩ := cw
  have hK : vx_Back l R p e below s args y 3 8 (PreOf R mc ms Pc) (PostOf Qc mc ms free) (vx_Post XC mc ms free) := vx_backW (hh := hh) (bytes := bytes) (maxL := maxL) (ret := ret) hM hp.1 hrc hrs hfr hlo hws hcw (fun a' U hW => word_at hW (Or.inl (by first | rfl | simp [Cond.onTables, Cond.keeps, Cond.steady])) hini)
  obtain ⟨hx, hb, hml, ho, -⟩ := S
  intro T hT X
  rcases vx_callSX X hx (hh := hh) (bytes := bytes) (maxL := maxL) (ret := ret) ho hl hstt hini hcode hy hK hg (hsize.trans hml.symm) (argsL := As) (rest := rest) (fun sig h => hn.trans (hlen sig h)) hstack hW (by rw [hb]; exact hdg)
    (fun vm₁ hW₁ => ⟨hf.1, hf.2, hp.2 (T.setVm vm₁) hT hW₁⟩) with ⟨v, vm₁, ⟨U', l2, c2, s2⟩, hW₁, X', ⟨g', mk, t, L, e1, e2, hq, h1, hL, h2, h3⟩, st⟩ | ⟨q, vm₁, ⟨U', l2, c2, s2⟩, hW₁, X', ⟨g', mk, t, L, E, ce, e1, e2, hq, hce, hcv, hcl, h1, hL, h2, h3⟩, st⟩
  · dsimp only [Pt.U, Pt.locs, Pt.cells, Pt.slots] at X' e1 e2 h1 h2 h3 st
    subst h1; subst h2; subst h3
    exact Or.inl ⟨v, (T.setVm vm₁).calling g' mk As.toArray, t, U', L, hT, X', hL, e1, e2, hq, st⟩
  · dsimp only [Pt.U, Pt.locs, Pt.cells, Pt.slots] at X' e1 e2 h1 h2 h3 st hcl
    subst h1; subst h2; subst h3
    exact Or.inr ⟨q, (T.setVm vm₁).calling g' mk As.toArray, t, U', L, E, ce, hT, X', hL, e1, e2, hq, hce, hcv, vx_cls hW₁ hcl, st⟩
end
end VXH
theorem vx_ofWH {l : Launch} {y : MethodName} {ws ws' : List Cond} {rm : Room} {Pc : Array Value → State → Prop} {Qc : Array Value → State → Outcome → State → Prop} {XC : String → State → State → Prop} {mc ms : Nat} {free : Addr → Prop} {cc : ByteArray} {maxL : Nat} {ret : Option FieldType} {hh : List (Nat × Nat × Nat × Nat)}
    (hy : plainName y.cls = true) (hw : ws = Cond.codeWith y cc maxL ret hh :: ws')
    (body : ∀ p e s m args below meth c s₁, BodyLoose p l y (headSpec ws rm) cc maxL ret e s m args below meth c s₁ → c.maxLocals = maxL → Pc args s →
      W p l e (headSpec ws rm).room s m args below meth c s.heap [] 0 0 (vx_MQ below Qc XC args s mc ms free) (entryFrame m args maxL)) : vx_Met l y ws rm Pc Qc XC mc ms free := by
  refine MetFree.of_bodyS (code := cc) (maxLocals := maxL) (ret := ret) hy ?_ ?_
  · intro args s m h hn
    obtain ⟨m9, meth, c, hn9, h1, h2, h3, h4, -, h5, h6, -⟩ := Cond.codeWith_spec (atoms_spec (ws := ws) h _ (by rw [hw]; exact List.mem_cons_self))
    cases hn.symm.trans hn9
    exact ⟨meth, c, h1, h2, h3, h4, h5, h6⟩
  · intro p e s m args below meth c s₁ B hml hP _
    have hh0 : s₁.heap = s.heap := by rw [B.state]; rfl
    obtain ⟨t, a1, o, b1, b2, b3⟩ := body p e s m args below meth c s₁ B hml hP s₁ hh0 (Stand.of_body B)
    exact ⟨t, o, a1, b1, b2, b3⟩
/-! ===== END ===== -/
end
section
/-! ===== places, shapes, memory: the machine's heap seen as numbered places ===== -/
abbrev Sh : Type := Nat ⊕ (Nat × Nat)
abbrev Mem : Type := (Nat → Nat → Int32) × (Nat → Nat → Option Nat) × (Nat → Nat → Int32) × (Nat → Nat → Int64) × (Nat → Nat → Option Nat)
def up2 {α : Type} (g : Nat → Nat → α) (p i : Nat) (x : α) : Nat → Nat → α := fun a b => if a = p ∧ b = i then x else g a b
def fI (M : Mem) (p f : Nat) : Int32 := M.1 p f
def fR (M : Mem) (p f : Nat) : Option Nat := M.2.1 p f
def aI (M : Mem) (p i : Nat) : Int32 := M.2.2.1 p i
def aL (M : Mem) (p i : Nat) : Int64 := M.2.2.2.1 p i
def aR (M : Mem) (p i : Nat) : Option Nat := M.2.2.2.2 p i
def sI (M : Mem) (p f : Nat) (x : Int32) : Mem := (up2 M.1 p f x, M.2)
def sR (M : Mem) (p f : Nat) (x : Option Nat) : Mem := (M.1, up2 M.2.1 p f x, M.2.2)
def sA (M : Mem) (p i : Nat) (x : Int32) : Mem := (M.1, M.2.1, up2 M.2.2.1 p i x, M.2.2.2)
def sL (M : Mem) (p i : Nat) (x : Int64) : Mem := (M.1, M.2.1, M.2.2.1, up2 M.2.2.2.1 p i x, M.2.2.2.2)
def sG (M : Mem) (p i : Nat) (x : Option Nat) : Mem := (M.1, M.2.1, M.2.2.1, M.2.2.2.1, up2 M.2.2.2.2 p i x)
theorem fI_sI (M : Mem) (p f : Nat) (x : Int32) (q g : Nat) : fI (sI M p f x) q g = if q = p ∧ g = f then x else fI M q g := rfl
theorem fI_sR (M : Mem) (p f : Nat) (x : Option Nat) (q g : Nat) : fI (sR M p f x) q g = fI M q g := rfl
theorem fI_sA (M : Mem) (p f : Nat) (x : Int32) (q g : Nat) : fI (sA M p f x) q g = fI M q g := rfl
theorem fI_sL (M : Mem) (p f : Nat) (x : Int64) (q g : Nat) : fI (sL M p f x) q g = fI M q g := rfl
theorem fI_sG (M : Mem) (p f : Nat) (x : Option Nat) (q g : Nat) : fI (sG M p f x) q g = fI M q g := rfl
theorem fR_sI (M : Mem) (p f : Nat) (x : Int32) (q g : Nat) : fR (sI M p f x) q g = fR M q g := rfl
theorem fR_sR (M : Mem) (p f : Nat) (x : Option Nat) (q g : Nat) : fR (sR M p f x) q g = if q = p ∧ g = f then x else fR M q g := rfl
theorem fR_sA (M : Mem) (p f : Nat) (x : Int32) (q g : Nat) : fR (sA M p f x) q g = fR M q g := rfl
theorem fR_sL (M : Mem) (p f : Nat) (x : Int64) (q g : Nat) : fR (sL M p f x) q g = fR M q g := rfl
theorem fR_sG (M : Mem) (p f : Nat) (x : Option Nat) (q g : Nat) : fR (sG M p f x) q g = fR M q g := rfl
theorem aI_sI (M : Mem) (p f : Nat) (x : Int32) (q g : Nat) : aI (sI M p f x) q g = aI M q g := rfl
theorem aI_sR (M : Mem) (p f : Nat) (x : Option Nat) (q g : Nat) : aI (sR M p f x) q g = aI M q g := rfl
theorem aI_sA (M : Mem) (p f : Nat) (x : Int32) (q g : Nat) : aI (sA M p f x) q g = if q = p ∧ g = f then x else aI M q g := rfl
theorem aI_sL (M : Mem) (p f : Nat) (x : Int64) (q g : Nat) : aI (sL M p f x) q g = aI M q g := rfl
theorem aI_sG (M : Mem) (p f : Nat) (x : Option Nat) (q g : Nat) : aI (sG M p f x) q g = aI M q g := rfl
theorem aL_sI (M : Mem) (p f : Nat) (x : Int32) (q g : Nat) : aL (sI M p f x) q g = aL M q g := rfl
theorem aL_sR (M : Mem) (p f : Nat) (x : Option Nat) (q g : Nat) : aL (sR M p f x) q g = aL M q g := rfl
theorem aL_sA (M : Mem) (p f : Nat) (x : Int32) (q g : Nat) : aL (sA M p f x) q g = aL M q g := rfl
theorem aL_sL (M : Mem) (p f : Nat) (x : Int64) (q g : Nat) : aL (sL M p f x) q g = if q = p ∧ g = f then x else aL M q g := rfl
theorem aL_sG (M : Mem) (p f : Nat) (x : Option Nat) (q g : Nat) : aL (sG M p f x) q g = aL M q g := rfl
theorem aR_sI (M : Mem) (p f : Nat) (x : Int32) (q g : Nat) : aR (sI M p f x) q g = aR M q g := rfl
theorem aR_sR (M : Mem) (p f : Nat) (x : Option Nat) (q g : Nat) : aR (sR M p f x) q g = aR M q g := rfl
theorem aR_sA (M : Mem) (p f : Nat) (x : Int32) (q g : Nat) : aR (sA M p f x) q g = aR M q g := rfl
theorem aR_sL (M : Mem) (p f : Nat) (x : Int64) (q g : Nat) : aR (sL M p f x) q g = aR M q g := rfl
theorem aR_sG (M : Mem) (p f : Nat) (x : Option Nat) (q g : Nat) : aR (sG M p f x) q g = if q = p ∧ g = f then x else aR M q g := rfl
/-- a value of the places' world as the machine has it -/
def cv (ad : Nat → Nat) (v : Value) : Value := match v with
  | .ref k => .ref (ad k)
  | w => w
def okp (n k : Nat) : Prop := k < n ∨ 1000000 ≤ k
def okv (n : Nat) (v : Value) : Prop := match v with
  | .ref k => okp n k
  | _ => True
def oks (n : Nat) (st : List Value) : Prop := ∀ v ∈ st, okv n v
theorem okp_mono {n n' k : Nat} (h : n ≤ n') (o : okp n k) : okp n' k := by unfold okp at *; omega
theorem okv_mono {n n' : Nat} {v : Value} (h : n ≤ n') (o : okv n v) : okv n' v := by
  cases v <;> first | exact okp_mono h o | trivial
theorem oks_mono {n n' : Nat} {st : List Value} (h : n ≤ n') (o : oks n st) : oks n' st := fun v hv => okv_mono h (o v hv)
theorem oks_nil (n : Nat) : oks n [] := fun _ h => nomatch h
theorem oks_cons {n : Nat} {v : Value} {st : List Value} : oks n (v :: st) ↔ okv n v ∧ oks n st := by simp [oks]
theorem oks_i {n : Nat} {x : Int32} {st : List Value} (h : oks n st) : oks n (.int x :: st) := oks_cons.mpr ⟨trivial, h⟩
theorem oks_l {n : Nat} {x : Int64} {st : List Value} (h : oks n st) : oks n (.long x :: st) := oks_cons.mpr ⟨trivial, h⟩
theorem oks_t {n : Nat} {v : Value} {st : List Value} (h : oks n (v :: st)) : oks n st := (oks_cons.mp h).2
theorem oks_t2 {n : Nat} {v w : Value} {st : List Value} (h : oks n (v :: w :: st)) : oks n st := oks_t (oks_t h)
theorem oks_t3 {n : Nat} {v w u : Value} {st : List Value} (h : oks n (v :: w :: u :: st)) : oks n st := oks_t (oks_t2 h)
theorem cv_cat (ad : Nat → Nat) (v : Value) : (cv ad v).category = v.category := by cases v <;> rfl
theorem cv_eq {n : Nat} {ad ad' : Nat → Nat} {v : Value} (h : ∀ k, okp n k → ad' k = ad k) (o : okv n v) : cv ad' v = cv ad v := by
  cases v <;> first | rfl | exact congrArg Value.ref (h _ o)
theorem cvs_eq {n : Nat} {ad ad' : Nat → Nat} {st : List Value} (h : ∀ k, okp n k → ad' k = ad k) (o : oks n st) : st.map (cv ad') = st.map (cv ad) :=
  List.map_congr_left fun v hv => cv_eq h (o v hv)
abbrev LV : Type := List (Nat × Value)
def clv (ad : Nat → Nat) (lv : LV) : LV := lv.map fun q => (q.1, cv ad q.2)
def oklv (n : Nat) (lv : LV) : Prop := ∀ q ∈ lv, okv n q.2
theorem clv_eq {n : Nat} {ad ad' : Nat → Nat} {lv : LV} (h : ∀ k, okp n k → ad' k = ad k) (o : oklv n lv) : clv ad' lv = clv ad lv :=
  List.map_congr_left fun q hq => by rw [cv_eq h (o q hq)]
/-- the value that stands at a local -/
def lk (lv : LV) (i : Nat) : Option Value := match lv with
  | [] => none
  | q :: r => if q.1 = i then some q.2 else lk r i
theorem lk_mem {lv : LV} {i : Nat} {v : Value} (h : lk lv i = some v) : (i, v) ∈ lv := by
  induction lv with
  | nil => cases h
  | cons q r ih =>
    unfold lk at h
    split at h
    · next e => cases h; subst e; exact List.mem_cons_self
    · exact List.mem_cons_of_mem _ (ih h)
theorem lk_at {ls : Array Slot} {nL : Nat} {ad : Nat → Nat} {lv : LV} {i : Nat} {v : Value} (hl : lv_has ls nL (clv ad lv)) (h : lk lv i = some v) : ls[i]? = some (.val (cv ad v)) :=
  hl.2.2 (i, cv ad v) (List.mem_map.mpr ⟨(i, v), lk_mem h, rfl⟩)
/-- a local written: one word, two words -/
def st1 (lv : LV) (i : Nat) (v : Value) : LV := (i, v) :: lv.filter (fun q => !(q.1 == i) && !(q.1 + 1 == i && q.2.category == 2))
def st2 (lv : LV) (i : Nat) (v : Value) : LV := (i, v) :: lv.filter (fun q => !(q.1 == i) && (!(q.1 == i + 1) && !(q.1 + 1 == i && q.2.category == 2)))
theorem st1_c (ad : Nat → Nat) (lv : LV) (i : Nat) (v : Value) : (i, cv ad v) :: (clv ad lv).filter (fun q => !(q.1 == i) && !(q.1 + 1 == i && q.2.category == 2)) = clv ad (st1 lv i v) := by
  simp only [st1, clv, List.map_cons, List.filter_map, Function.comp_def, cv_cat]
theorem st2_c (ad : Nat → Nat) (lv : LV) (i : Nat) (v : Value) : (i, cv ad v) :: (clv ad lv).filter (fun q => !(q.1 == i) && (!(q.1 == i + 1) && !(q.1 + 1 == i && q.2.category == 2))) = clv ad (st2 lv i v) := by
  simp only [st2, clv, List.map_cons, List.filter_map, Function.comp_def, cv_cat]
theorem oklv_st1 {n : Nat} {lv : LV} {i : Nat} {v : Value} (h : oklv n lv) (o : okv n v) : oklv n (st1 lv i v) := fun q hq => by
  rcases List.mem_cons.mp hq with rfl | hq
  · exact o
  · exact h q (List.mem_filter.mp hq).1
theorem oklv_st2 {n : Nat} {lv : LV} {i : Nat} {v : Value} (h : oklv n lv) (o : okv n v) : oklv n (st2 lv i v) := fun q hq => by
  rcases List.mem_cons.mp hq with rfl | hq
  · exact o
  · exact h q (List.mem_filter.mp hq).1
/-! the cells -/
def cellFs (ad : Nat → Nat) (ks : List Bool) (M : Mem) (p : Nat) : List Value := ks.mapIdx fun k b => if b then Value.int (fI M p k) else va_rf ((fR M p k).map ad)
def cellOf (cy : Nat → ClassId) (ad : Nat → Nat) (M : Mem) (p : Nat) (s : Sh) : va_E := match s with
  | .inl c => .inr (c, cellFs ad (fkL c) M p)
  | .inr (t, n) => .inl (cy t, n, if t = 2 then .inr (.inl (aL M p)) else if t = 4 then .inr (.inr (.inr (.inr (fun i => (aR M p i).map ad)))) else .inl (aI M p))
def wsOf (cy : Nat → ClassId) (ad : Nat → Nat) (sh : List Sh) (M : Mem) : va_W := sh.mapIdx fun k s => (ad k, cellOf cy ad M k s)
theorem wsOf_get {cy : Nat → ClassId} {ad : Nat → Nat} {sh : List Sh} {M : Mem} {k : Nat} {s : Sh} (h : sh[k]? = some s) : (wsOf cy ad sh M)[k]? = some (ad k, cellOf cy ad M k s) := by simp [wsOf, h]
theorem wsOf_set {cy : Nat → ClassId} {ad : Nat → Nat} {sh : List Sh} {M M' : Mem} {p : Nat} {s : Sh} {e : va_E} (h : sh[p]? = some s) (hp : cellOf cy ad M' p s = e) (ho : ∀ k s', k ≠ p → cellOf cy ad M' k s' = cellOf cy ad M k s') :
    (wsOf cy ad sh M).set p (ad p, e) = wsOf cy ad sh M' := by
  have hlt : p < sh.length := (List.getElem?_eq_some_iff.mp h).1
  apply List.ext_getElem?
  intro k
  simp only [List.getElem?_set, wsOf, List.getElem?_mapIdx, List.length_mapIdx]
  by_cases hk : p = k
  · subst hk
    rw [if_pos rfl, if_pos hlt, h]
    simp only [Option.map_some, hp]
  · simp only [hk, if_false]
    cases hs : sh[k]? with
    | none => rfl
    | some s' => simp [ho k s' (Ne.symm hk)]
theorem cellFs_len (ad : Nat → Nat) (ks : List Bool) (M : Mem) (p : Nat) : (cellFs ad ks M p).length = ks.length := by simp [cellFs]
theorem cellFs_I {ad : Nat → Nat} {ks : List Bool} {M : Mem} {p f : Nat} (h : ks[f]? = some true) : (cellFs ad ks M p)[f]? = some (.int (fI M p f)) := by simp [cellFs, h]
theorem cellFs_R {ad : Nat → Nat} {ks : List Bool} {M : Mem} {p f : Nat} (h : ks[f]? = some false) : (cellFs ad ks M p)[f]? = some (va_rf ((fR M p f).map ad)) := by simp [cellFs, h]
theorem cellFs_sI {ad : Nat → Nat} {ks : List Bool} {M : Mem} {p f : Nat} {x : Int32} (h : ks[f]? = some true) : cellFs ad ks (sI M p f x) p = (cellFs ad ks M p).set f (.int x) := by
  have hlt : f < ks.length := (List.getElem?_eq_some_iff.mp h).1
  apply List.ext_getElem?
  intro k
  simp only [cellFs, List.getElem?_set, List.getElem?_mapIdx, List.length_mapIdx, fI_sI, fR_sI]
  by_cases hk : f = k
  · subst hk
    rw [if_pos rfl, if_pos hlt, h]
    simp
  · have hk' : k ≠ f := Ne.symm hk
    simp [hk, hk']
theorem cellFs_sR {ad : Nat → Nat} {ks : List Bool} {M : Mem} {p f : Nat} {x : Option Nat} (h : ks[f]? = some false) : cellFs ad ks (sR M p f x) p = (cellFs ad ks M p).set f (va_rf (x.map ad)) := by
  have hlt : f < ks.length := (List.getElem?_eq_some_iff.mp h).1
  apply List.ext_getElem?
  intro k
  simp only [cellFs, List.getElem?_set, List.getElem?_mapIdx, List.length_mapIdx, fI_sR, fR_sR]
  by_cases hk : f = k
  · subst hk
    rw [if_pos rfl, if_pos hlt, h]
    simp
  · have hk' : k ≠ f := Ne.symm hk
    simp [hk, hk']
theorem cellOf_sI {cy : Nat → ClassId} {ad : Nat → Nat} {M : Mem} {p f : Nat} {x : Int32} (k : Nat) (s : Sh) (hk : k ≠ p) : cellOf cy ad (sI M p f x) k s = cellOf cy ad M k s := by
  cases s with
  | inl c => simp [cellOf, cellFs, fI_sI, fR_sI, hk]
  | inr t => rfl
theorem cellOf_sR {cy : Nat → ClassId} {ad : Nat → Nat} {M : Mem} {p f : Nat} {x : Option Nat} (k : Nat) (s : Sh) (hk : k ≠ p) : cellOf cy ad (sR M p f x) k s = cellOf cy ad M k s := by
  cases s with
  | inl c => simp [cellOf, cellFs, fI_sR, fR_sR, hk]
  | inr t => rfl
theorem rowI_sA (M : Mem) (p f : Nat) (x : Int32) : aI (sA M p f x) p = upd (aI M p) f x := by
  funext j; simp [aI_sA, upd]
theorem rowL_sL (M : Mem) (p f : Nat) (x : Int64) : aL (sL M p f x) p = vp_updL (aL M p) f x := by
  funext j; simp [aL_sL, vp_updL]
theorem rowI_ne {M : Mem} {p f : Nat} {x : Int32} {k : Nat} (hk : k ≠ p) : aI (sA M p f x) k = aI M k := by
  funext j; simp [aI_sA, hk]
theorem rowL_ne {M : Mem} {p f : Nat} {x : Int64} {k : Nat} (hk : k ≠ p) : aL (sL M p f x) k = aL M k := by
  funext j; simp [aL_sL, hk]
theorem cellOf_sA {cy : Nat → ClassId} {ad : Nat → Nat} {M : Mem} {p f : Nat} {x : Int32} (k : Nat) (s : Sh) (hk : k ≠ p) : cellOf cy ad (sA M p f x) k s = cellOf cy ad M k s := by
  cases s with
  | inl c => simp [cellOf, cellFs, fI_sA, fR_sA]
  | inr t => simp only [cellOf, rowI_ne hk]; rfl
theorem cellOf_sL {cy : Nat → ClassId} {ad : Nat → Nat} {M : Mem} {p f : Nat} {x : Int64} (k : Nat) (s : Sh) (hk : k ≠ p) : cellOf cy ad (sL M p f x) k s = cellOf cy ad M k s := by
  cases s with
  | inl c => simp [cellOf, cellFs, fI_sL, fR_sL]
  | inr t => simp only [cellOf, rowL_ne hk]; rfl
theorem cellOf_sG {cy : Nat → ClassId} {ad : Nat → Nat} {M : Mem} {p f : Nat} {x : Option Nat} (k : Nat) (s : Sh) (hk : k ≠ p) : cellOf cy ad (sG M p f x) k s = cellOf cy ad M k s := by
  cases s with
  | inl c => simp [cellOf, cellFs, fI_sG, fR_sG]
  | inr t => simp only [cellOf, aR_sG, hk, false_and, if_false]; rfl
/-- all references lead to places -/
def Vd (n : Nat) (M : Mem) : Prop := (∀ p f k, fR M p f = some k → okp n k) ∧ ∀ p i k, aR M p i = some k → okp n k
theorem Vd.mono {n n' : Nat} {M : Mem} (h : n ≤ n') (v : Vd n M) : Vd n' M := ⟨fun p f k e => okp_mono h (v.1 p f k e), fun p f k e => okp_mono h (v.2 p f k e)⟩
theorem Vd_sI {n : Nat} {M : Mem} {p f : Nat} {x : Int32} (v : Vd n M) : Vd n (sI M p f x) := v
theorem Vd_sA {n : Nat} {M : Mem} {p f : Nat} {x : Int32} (v : Vd n M) : Vd n (sA M p f x) := v
theorem Vd_sL {n : Nat} {M : Mem} {p f : Nat} {x : Int64} (v : Vd n M) : Vd n (sL M p f x) := v
theorem Vd_sR {n : Nat} {M : Mem} {p f : Nat} {x : Option Nat} (v : Vd n M) (hx : ∀ k, x = some k → okp n k) : Vd n (sR M p f x) := by
  refine ⟨fun q g k e => ?_, v.2⟩
  rw [fR_sR] at e
  split at e
  · exact hx k e
  · exact v.1 q g k e
theorem Vd_sG {n : Nat} {M : Mem} {p f : Nat} {x : Option Nat} (v : Vd n M) (hx : ∀ k, x = some k → okp n k) : Vd n (sG M p f x) := by
  refine ⟨v.1, fun q g k e => ?_⟩
  rw [aR_sG] at e
  split at e
  · exact hx k e
  · exact v.2 q g k e
end
section
/-! ===== the judgement Wp: a method's frame over a world of places ===== -/
abbrev GE : Type := Launch × va_G × (Nat → ClassId) × Nat
abbrev inA (B : Nat) : Nat → Prop := fun q => B ≤ q
def tysOf (cy : Nat → ClassId) : List (ClassId × FieldType) := [(cy 0, .byte), (cy 1, .int), (cy 2, .long), (cy 3, .boolean), (cy 4, .object "QueryTexts$Clause")]
def Wd (E : GE) (ad : Nat → Nat) (sh : List Sh) (M : Mem) (H : Heap) : Prop := va_P E.2.1 clsL (wsOf E.2.2.1 ad sh M) H ∧ va_D (inA E.2.2.2) (wsOf E.2.2.1 ad sh M) ∧ Vd sh.length M
def nestL : List (String × Nat × MethodName) := [(RX7, 21, yX0_init), (RX8, 36, yX4_init), (RX4, 30, yX0_init), (RX8, 43, yX5_init), (RX8, 50, yX1_init), (RX1, 11, yX6_init), (RX1, 20, yX3_init)]
def strL : List (Nat × String) := [(90, "no such node"), (124, "a group has no words"), (137, "no such word or sign"), (151, "nothing was printed yet"), (158, "no such byte"), (202, "the other document is worth nothing")]
def KX (B : Nat) (s : State) : Prop := (∀ q ∈ nestL, va_Nw (.methodLinkNest q.1 q.2.1 q.2.2 RX8) s) ∧ va_AO "QueryTexts$Clause" s ∧ (∀ q ∈ strL, ∃ a, vk_R RX8 q.1 q.2 a s) ∧
  vx_Zq Bundle.tN "UNASSIGNED_STACK" Bundle.steD (inA B) s s.heap ∧ vx_Zq Bundle.tN "SUPPRESSED_SENTINEL" Bundle.listD (inA B) s s.heap
def KW (E : GE) (s : State) : Prop := va_K E.2.1 clsL (tysOf E.2.2.1) s ∧ E.2.2.2 ≤ s.heap.size ∧ KX E.2.2.2 s
theorem KW.go {E : GE} {s U : State} {H : Heap} {locs : List Loc} (h : KW E s) (hS : va_S (inA E.2.2.2) s.heap H locs) (hU : U.heap = H) (hW : s.WarmedH U.vm) : KW E U := by
  obtain ⟨h1, h2, h3, h4, h5, h6, h7⟩ := h
  refine ⟨va_K.moved hW.alike h1, by rw [hU]; exact Nat.le_trans h2 hS.1, fun q hq => va_Nw.warmM hW (h3 q hq), va_AO.moved hW.alike h4, fun q hq => ?_, ?_, ?_⟩
  · obtain ⟨a, ha⟩ := h5 q hq
    exact ⟨a, vk_R.warm hW ha⟩
  · exact vx_Zq.kept (vx_Zq.moved hW.alike h6) (fun a h1 h2 => by rw [hU]; exact hS.2.1 a h1 h2)
  · exact vx_Zq.kept (vx_Zq.moved hW.alike h7) (fun a h1 h2 => by rw [hU]; exact hS.2.1 a h1 h2)
abbrev QT : Type := List Frame → Array Value → State → (Nat → Nat) → State → Prop
/-- the method, how deep it may call, its cells and slots, the places at its start, its own handlers, its end -/
abbrev MX : Type := GE × MM × Nat × Nat × Nat × Nat × List ExceptionTableEntry × QT
def Cx (X : MX) (p : Program) (R : Room) (s : State) (m : MethodId) (args : Array Value) (meth : Method) (c : Code) : Prop :=
  CallFix p m c X.2.1.2.2.1 X.2.1.2.2.2.1 s args BIG X.2.1.2.1 ∧ meth.locks = false ∧ meth.sig.returnType = X.2.1.2.2.2.2 ∧ KW X.1 s ∧ X.2.2.1 ≤ R.frames ∧ 40 * X.2.2.1 ≤ R.locals ∧ R.cells = X.2.2.2.1 ∧ R.slots = X.2.2.2.2.1 ∧ c.exceptionTable.toList = X.2.2.2.2.2.2.1 ∧ meth.name = X.2.1.1.name
def Dy (X : MX) (s : State) (ad0 : Nat → Nat) (lv : LV) (st : List Value) (sh : List Sh) (M : Mem) (H : Heap) (locs : List Loc) (ad : Nat → Nat) (ls : Array Slot) : Prop :=
  lv_has ls X.2.1.2.2.2.1 (clv ad lv) ∧ Wd X.1 ad sh M H ∧ va_S (inA X.1.2.2.2) s.heap H locs ∧ oklv sh.length lv ∧ oks sh.length st ∧ (∀ k, okp X.2.2.2.2.2.1 k → ad k = ad0 k) ∧ X.2.2.2.2.2.1 ≤ sh.length
def Wp (X : MX) (kc ks pc : Nat) (lv : LV) (st : List Value) (sh : List Sh) (M : Mem) : Prop :=
  ∀ (p : Program) (e : Env) (R : Room) (s : State) (m : MethodId) (args : Array Value) (below : List Frame) (meth : Method) (c : Code) (H : Heap) (locs : List Loc) (ad0 ad : Nat → Nat) (ls : Array Slot),
    Cx X p R s m args meth c → Dy X s ad0 lv st sh M H locs ad ls → W p X.1.1 e R s m args below meth c H locs kc ks (X.2.2.2.2.2.2.2 below args s ad0) (F0 m pc ls (st.map (cv ad)))
section WPI
variable {X : MX} {kc ks pc : Nat} {lv : LV} {st : List Value} {sh : List Sh} {M : Mem}
/-! ### one value for others: a row of the machine, lifted -/
theorem wp_iconst {n : Int} {v : Int32} (hd : decode X.2.1.2.2.1 pc = .ok (.iconst n, 1)) (hv : Int32.ofInt n = v) (k : Wp X kc ks (pc + 1) lv (.int v :: st) sh M) : Wp X kc ks pc lv st sh M := by
  intro p e R s m args below meth c H locs ad0 ad ls C ⟨hl, hw, hS, ov, os, ha, hn⟩
  exact lv_iconst C.1.1 C.1.2.1 hd hv (k _ _ _ _ _ _ _ _ _ _ _ _ _ _ C ⟨hl, hw, hS, ov, oks_i os, ha, hn⟩)
theorem wp_bipush {n : Int} {v : Int32} (hd : decode X.2.1.2.2.1 pc = .ok (.bipush n, 2)) (hv : (Int8.ofInt n).toInt32 = v) (k : Wp X kc ks (pc + 2) lv (.int v :: st) sh M) : Wp X kc ks pc lv st sh M := by
  intro p e R s m args below meth c H locs ad0 ad ls C ⟨hl, hw, hS, ov, os, ha, hn⟩
  exact lv_bipush C.1.1 C.1.2.1 hd hv (k _ _ _ _ _ _ _ _ _ _ _ _ _ _ C ⟨hl, hw, hS, ov, oks_i os, ha, hn⟩)
theorem wp_sipush {n : Int} {v : Int32} (hd : decode X.2.1.2.2.1 pc = .ok (.sipush n, 3)) (hv : (Int16.ofInt n).toInt32 = v) (k : Wp X kc ks (pc + 3) lv (.int v :: st) sh M) : Wp X kc ks pc lv st sh M := by
  intro p e R s m args below meth c H locs ad0 ad ls C ⟨hl, hw, hS, ov, os, ha, hn⟩
  exact lv_sipush C.1.1 C.1.2.1 hd hv (k _ _ _ _ _ _ _ _ _ _ _ _ _ _ C ⟨hl, hw, hS, ov, oks_i os, ha, hn⟩)
theorem wp_lconst {n : Fin 2} {v : Int64} (hd : decode X.2.1.2.2.1 pc = .ok (.lconst n, 1)) (hv : Int64.ofNat (n : Nat) = v) (k : Wp X kc ks (pc + 1) lv (.long v :: st) sh M) : Wp X kc ks pc lv st sh M := by
  intro p e R s m args below meth c H locs ad0 ad ls C ⟨hl, hw, hS, ov, os, ha, hn⟩
  exact lv_lconst C.1.1 C.1.2.1 hd hv (k _ _ _ _ _ _ _ _ _ _ _ _ _ _ C ⟨hl, hw, hS, ov, oks_l os, ha, hn⟩)
theorem wp_ldc2 {index : Nat} {v : Int64} (hd : decode X.2.1.2.2.1 pc = .ok (.ldc2_w index, 3)) (hc : Cond.constantLong X.2.1.2.1 index v ∈ BIG) (k : Wp X kc ks (pc + 3) lv (.long v :: st) sh M) : Wp X kc ks pc lv st sh M := by
  intro p e R s m args below meth c H locs ad0 ad ls C ⟨hl, hw, hS, ov, os, ha, hn⟩
  exact lv_ldc2 C.1.1 C.1.2.1 C.1.2.2.2.1 (C.1.2.2.2.2 _ hc) hd (k _ _ _ _ _ _ _ _ _ _ _ _ _ _ C ⟨hl, hw, hS, ov, oks_l os, ha, hn⟩)
theorem wp_iload_n {n : Fin 4} {x : Int32} (hd : decode X.2.1.2.2.1 pc = .ok (.iload_n n, 1)) (h : lk lv n = some (.int x)) (k : Wp X kc ks (pc + 1) lv (.int x :: st) sh M) : Wp X kc ks pc lv st sh M := by
  intro p e R s m args below meth c H locs ad0 ad ls C ⟨hl, hw, hS, ov, os, ha, hn⟩
  exact lv_iload_n C.1.1 C.1.2.1 hd rfl (lk_at hl h) (k _ _ _ _ _ _ _ _ _ _ _ _ _ _ C ⟨hl, hw, hS, ov, oks_i os, ha, hn⟩)
theorem wp_iload {i : Nat} {x : Int32} (hd : decode X.2.1.2.2.1 pc = .ok (.iload i, 2)) (h : lk lv i = some (.int x)) (k : Wp X kc ks (pc + 2) lv (.int x :: st) sh M) : Wp X kc ks pc lv st sh M := by
  intro p e R s m args below meth c H locs ad0 ad ls C ⟨hl, hw, hS, ov, os, ha, hn⟩
  exact lv_iload C.1.1 C.1.2.1 hd (lk_at hl h) (k _ _ _ _ _ _ _ _ _ _ _ _ _ _ C ⟨hl, hw, hS, ov, oks_i os, ha, hn⟩)
theorem wp_lload_n {n : Fin 4} {x : Int64} (hd : decode X.2.1.2.2.1 pc = .ok (.lload_n n, 1)) (h : lk lv n = some (.long x)) (k : Wp X kc ks (pc + 1) lv (.long x :: st) sh M) : Wp X kc ks pc lv st sh M := by
  intro p e R s m args below meth c H locs ad0 ad ls C ⟨hl, hw, hS, ov, os, ha, hn⟩
  exact lv_lload_n C.1.1 C.1.2.1 hd rfl (lk_at hl h) (k _ _ _ _ _ _ _ _ _ _ _ _ _ _ C ⟨hl, hw, hS, ov, oks_l os, ha, hn⟩)
theorem wp_lload {i : Nat} {x : Int64} (hd : decode X.2.1.2.2.1 pc = .ok (.lload i, 2)) (h : lk lv i = some (.long x)) (k : Wp X kc ks (pc + 2) lv (.long x :: st) sh M) : Wp X kc ks pc lv st sh M := by
  intro p e R s m args below meth c H locs ad0 ad ls C ⟨hl, hw, hS, ov, os, ha, hn⟩
  exact lv_lload C.1.1 C.1.2.1 hd (lk_at hl h) (k _ _ _ _ _ _ _ _ _ _ _ _ _ _ C ⟨hl, hw, hS, ov, oks_l os, ha, hn⟩)
theorem wp_aload_n {n : Fin 4} {x : Nat} (hd : decode X.2.1.2.2.1 pc = .ok (.aload_n n, 1)) (h : lk lv n = some (.ref x)) (k : Wp X kc ks (pc + 1) lv (.ref x :: st) sh M) : Wp X kc ks pc lv st sh M := by
  intro p e R s m args below meth c H locs ad0 ad ls C ⟨hl, hw, hS, ov, os, ha, hn⟩
  exact lv_aload_n C.1.1 C.1.2.1 hd rfl (lk_at hl h) (k _ _ _ _ _ _ _ _ _ _ _ _ _ _ C ⟨hl, hw, hS, ov, oks_cons.mpr ⟨ov _ (lk_mem h), os⟩, ha, hn⟩)
theorem wp_aload {i : Nat} {x : Nat} (hd : decode X.2.1.2.2.1 pc = .ok (.aload i, 2)) (h : lk lv i = some (.ref x)) (k : Wp X kc ks (pc + 2) lv (.ref x :: st) sh M) : Wp X kc ks pc lv st sh M := by
  intro p e R s m args below meth c H locs ad0 ad ls C ⟨hl, hw, hS, ov, os, ha, hn⟩
  exact lv_aload C.1.1 C.1.2.1 hd (lk_at hl h) (k _ _ _ _ _ _ _ _ _ _ _ _ _ _ C ⟨hl, hw, hS, ov, oks_cons.mpr ⟨ov _ (lk_mem h), os⟩, ha, hn⟩)
theorem wp_istore_n {n : Fin 4} {x : Int32} (hd : decode X.2.1.2.2.1 pc = .ok (.istore_n n, 1)) (hi : (n : Nat) < X.2.1.2.2.2.1) (k : Wp X kc ks (pc + 1) (st1 lv n (.int x)) st sh M) : Wp X kc ks pc lv (.int x :: st) sh M := by
  intro p e R s m args below meth c H locs ad0 ad ls C ⟨hl, hw, hS, ov, os, ha, hn⟩
  exact lv_istore_n C.1.1 C.1.2.1 hd rfl hl hi (st1_c ad lv n (.int x)) (fun ls' hl' => k _ _ _ _ _ _ _ _ _ _ _ _ _ _ C ⟨hl', hw, hS, oklv_st1 ov trivial, oks_t os, ha, hn⟩)
theorem wp_istore {i : Nat} {x : Int32} (hd : decode X.2.1.2.2.1 pc = .ok (.istore i, 2)) (hi : i < X.2.1.2.2.2.1) (k : Wp X kc ks (pc + 2) (st1 lv i (.int x)) st sh M) : Wp X kc ks pc lv (.int x :: st) sh M := by
  intro p e R s m args below meth c H locs ad0 ad ls C ⟨hl, hw, hS, ov, os, ha, hn⟩
  exact lv_istore C.1.1 C.1.2.1 hd hl hi (st1_c ad lv i (.int x)) (fun ls' hl' => k _ _ _ _ _ _ _ _ _ _ _ _ _ _ C ⟨hl', hw, hS, oklv_st1 ov trivial, oks_t os, ha, hn⟩)
theorem wp_lstore_n {n : Fin 4} {x : Int64} (hd : decode X.2.1.2.2.1 pc = .ok (.lstore_n n, 1)) (hi : (n : Nat) + 1 < X.2.1.2.2.2.1) (k : Wp X kc ks (pc + 1) (st2 lv n (.long x)) st sh M) : Wp X kc ks pc lv (.long x :: st) sh M := by
  intro p e R s m args below meth c H locs ad0 ad ls C ⟨hl, hw, hS, ov, os, ha, hn⟩
  exact lv_lstore_n C.1.1 C.1.2.1 hd rfl hl hi (st2_c ad lv n (.long x)) (fun ls' hl' => k _ _ _ _ _ _ _ _ _ _ _ _ _ _ C ⟨hl', hw, hS, oklv_st2 ov trivial, oks_t os, ha, hn⟩)
theorem wp_lstore {i : Nat} {x : Int64} (hd : decode X.2.1.2.2.1 pc = .ok (.lstore i, 2)) (hi : i + 1 < X.2.1.2.2.2.1) (k : Wp X kc ks (pc + 2) (st2 lv i (.long x)) st sh M) : Wp X kc ks pc lv (.long x :: st) sh M := by
  intro p e R s m args below meth c H locs ad0 ad ls C ⟨hl, hw, hS, ov, os, ha, hn⟩
  exact lv_lstore C.1.1 C.1.2.1 hd hl hi (st2_c ad lv i (.long x)) (fun ls' hl' => k _ _ _ _ _ _ _ _ _ _ _ _ _ _ C ⟨hl', hw, hS, oklv_st2 ov trivial, oks_t os, ha, hn⟩)
theorem wp_astore_n {n : Fin 4} {x : Nat} (hd : decode X.2.1.2.2.1 pc = .ok (.astore_n n, 1)) (hi : (n : Nat) < X.2.1.2.2.2.1) (k : Wp X kc ks (pc + 1) (st1 lv n (.ref x)) st sh M) : Wp X kc ks pc lv (.ref x :: st) sh M := by
  intro p e R s m args below meth c H locs ad0 ad ls C ⟨hl, hw, hS, ov, os, ha, hn⟩
  exact lv_astore_n C.1.1 C.1.2.1 hd rfl hl hi (st1_c ad lv n (.ref x)) (fun ls' hl' => k _ _ _ _ _ _ _ _ _ _ _ _ _ _ C ⟨hl', hw, hS, oklv_st1 ov (oks_cons.mp os).1, oks_t os, ha, hn⟩)
theorem wp_astore {i : Nat} {x : Nat} (hd : decode X.2.1.2.2.1 pc = .ok (.astore i, 2)) (hi : i < X.2.1.2.2.2.1) (k : Wp X kc ks (pc + 2) (st1 lv i (.ref x)) st sh M) : Wp X kc ks pc lv (.ref x :: st) sh M := by
  intro p e R s m args below meth c H locs ad0 ad ls C ⟨hl, hw, hS, ov, os, ha, hn⟩
  exact lv_astore C.1.1 C.1.2.1 hd hl hi (st1_c ad lv i (.ref x)) (fun ls' hl' => k _ _ _ _ _ _ _ _ _ _ _ _ _ _ C ⟨hl', hw, hS, oklv_st1 ov (oks_cons.mp os).1, oks_t os, ha, hn⟩)
theorem lk_idx {lv : LV} {i : Nat} {v : Value} (h : lk lv i = some v) (ad : Nat → Nat) : ∃ k : Nat, (clv ad lv)[k]? = some (i, cv ad v) :=
  List.getElem?_of_mem (List.mem_map.mpr ⟨(i, v), lk_mem h, rfl⟩)
theorem wp_iinc {i : Nat} {n : Int} {x v : Int32} (hd : decode X.2.1.2.2.1 pc = .ok (.iinc i n, 3)) (h : lk lv i = some (.int x)) (hv : x + Int32.ofInt n = v) (hi : i < X.2.1.2.2.2.1) (k : Wp X kc ks (pc + 3) (st1 lv i (.int v)) st sh M) : Wp X kc ks pc lv st sh M := by
  intro p e R s m args below meth c H locs ad0 ad ls C ⟨hl, hw, hS, ov, os, ha, hn⟩
  obtain ⟨j, hj⟩ := lk_idx h ad
  exact lv_iinc C.1.1 C.1.2.1 hd hl hj hv hi (st1_c ad lv i (.int v)) (fun ls' hl' => k _ _ _ _ _ _ _ _ _ _ _ _ _ _ C ⟨hl', hw, hS, oklv_st1 ov trivial, os, ha, hn⟩)
theorem wp_iadd {x y : Int32} (hd : decode X.2.1.2.2.1 pc = .ok (.iadd, 1)) (k : Wp X kc ks (pc + 1) lv (.int (x + y) :: st) sh M) : Wp X kc ks pc lv (.int y :: .int x :: st) sh M := by
  intro p e R s m args below meth c H locs ad0 ad ls C ⟨hl, hw, hS, ov, os, ha, hn⟩
  exact lv_iadd C.1.1 C.1.2.1 hd (k _ _ _ _ _ _ _ _ _ _ _ _ _ _ C ⟨hl, hw, hS, ov, oks_i (oks_t2 os), ha, hn⟩)
theorem wp_isub {x y : Int32} (hd : decode X.2.1.2.2.1 pc = .ok (.isub, 1)) (k : Wp X kc ks (pc + 1) lv (.int (x - y) :: st) sh M) : Wp X kc ks pc lv (.int y :: .int x :: st) sh M := by
  intro p e R s m args below meth c H locs ad0 ad ls C ⟨hl, hw, hS, ov, os, ha, hn⟩
  exact lv_isub C.1.1 C.1.2.1 hd (k _ _ _ _ _ _ _ _ _ _ _ _ _ _ C ⟨hl, hw, hS, ov, oks_i (oks_t2 os), ha, hn⟩)
theorem wp_imul {x y : Int32} (hd : decode X.2.1.2.2.1 pc = .ok (.imul, 1)) (k : Wp X kc ks (pc + 1) lv (.int (x * y) :: st) sh M) : Wp X kc ks pc lv (.int y :: .int x :: st) sh M := by
  intro p e R s m args below meth c H locs ad0 ad ls C ⟨hl, hw, hS, ov, os, ha, hn⟩
  exact lv_imul C.1.1 C.1.2.1 hd (k _ _ _ _ _ _ _ _ _ _ _ _ _ _ C ⟨hl, hw, hS, ov, oks_i (oks_t2 os), ha, hn⟩)
theorem wp_iand {x y : Int32} (hd : decode X.2.1.2.2.1 pc = .ok (.iand, 1)) (k : Wp X kc ks (pc + 1) lv (.int (x &&& y) :: st) sh M) : Wp X kc ks pc lv (.int y :: .int x :: st) sh M := by
  intro p e R s m args below meth c H locs ad0 ad ls C ⟨hl, hw, hS, ov, os, ha, hn⟩
  exact lv_iand C.1.1 C.1.2.1 hd (k _ _ _ _ _ _ _ _ _ _ _ _ _ _ C ⟨hl, hw, hS, ov, oks_i (oks_t2 os), ha, hn⟩)
theorem wp_ior {x y : Int32} (hd : decode X.2.1.2.2.1 pc = .ok (.ior, 1)) (k : Wp X kc ks (pc + 1) lv (.int (x ||| y) :: st) sh M) : Wp X kc ks pc lv (.int y :: .int x :: st) sh M := by
  intro p e R s m args below meth c H locs ad0 ad ls C ⟨hl, hw, hS, ov, os, ha, hn⟩
  exact lv_ior C.1.1 C.1.2.1 hd (k _ _ _ _ _ _ _ _ _ _ _ _ _ _ C ⟨hl, hw, hS, ov, oks_i (oks_t2 os), ha, hn⟩)
theorem wp_ixor {x y : Int32} (hd : decode X.2.1.2.2.1 pc = .ok (.ixor, 1)) (k : Wp X kc ks (pc + 1) lv (.int (x ^^^ y) :: st) sh M) : Wp X kc ks pc lv (.int y :: .int x :: st) sh M := by
  intro p e R s m args below meth c H locs ad0 ad ls C ⟨hl, hw, hS, ov, os, ha, hn⟩
  exact lv_ixor C.1.1 C.1.2.1 hd (k _ _ _ _ _ _ _ _ _ _ _ _ _ _ C ⟨hl, hw, hS, ov, oks_i (oks_t2 os), ha, hn⟩)
theorem wp_ishl {x y : Int32} (hd : decode X.2.1.2.2.1 pc = .ok (.ishl, 1)) (k : Wp X kc ks (pc + 1) lv (.int (x <<< (y &&& 31)) :: st) sh M) : Wp X kc ks pc lv (.int y :: .int x :: st) sh M := by
  intro p e R s m args below meth c H locs ad0 ad ls C ⟨hl, hw, hS, ov, os, ha, hn⟩
  exact lv_ishl C.1.1 C.1.2.1 hd (k _ _ _ _ _ _ _ _ _ _ _ _ _ _ C ⟨hl, hw, hS, ov, oks_i (oks_t2 os), ha, hn⟩)
theorem wp_ishr {x y : Int32} (hd : decode X.2.1.2.2.1 pc = .ok (.ishr, 1)) (k : Wp X kc ks (pc + 1) lv (.int (x >>> (y &&& 31)) :: st) sh M) : Wp X kc ks pc lv (.int y :: .int x :: st) sh M := by
  intro p e R s m args below meth c H locs ad0 ad ls C ⟨hl, hw, hS, ov, os, ha, hn⟩
  exact lv_ishr C.1.1 C.1.2.1 hd (k _ _ _ _ _ _ _ _ _ _ _ _ _ _ C ⟨hl, hw, hS, ov, oks_i (oks_t2 os), ha, hn⟩)
theorem wp_idiv {x y : Int32} (hd : decode X.2.1.2.2.1 pc = .ok (.idiv, 1)) (h0 : ¬ y = 0) (k : Wp X kc ks (pc + 1) lv (.int (x / y) :: st) sh M) : Wp X kc ks pc lv (.int y :: .int x :: st) sh M := by
  intro p e R s m args below meth c H locs ad0 ad ls C ⟨hl, hw, hS, ov, os, ha, hn⟩
  exact lv_idiv C.1.1 C.1.2.1 hd h0 (k _ _ _ _ _ _ _ _ _ _ _ _ _ _ C ⟨hl, hw, hS, ov, oks_i (oks_t2 os), ha, hn⟩)
theorem wp_irem {x y : Int32} (hd : decode X.2.1.2.2.1 pc = .ok (.irem, 1)) (h0 : ¬ y = 0) (k : Wp X kc ks (pc + 1) lv (.int (x - x / y * y) :: st) sh M) : Wp X kc ks pc lv (.int y :: .int x :: st) sh M := by
  intro p e R s m args below meth c H locs ad0 ad ls C ⟨hl, hw, hS, ov, os, ha, hn⟩
  exact lv_irem C.1.1 C.1.2.1 hd h0 (k _ _ _ _ _ _ _ _ _ _ _ _ _ _ C ⟨hl, hw, hS, ov, oks_i (oks_t2 os), ha, hn⟩)
theorem wp_ladd {x y : Int64} (hd : decode X.2.1.2.2.1 pc = .ok (.ladd, 1)) (k : Wp X kc ks (pc + 1) lv (.long (x + y) :: st) sh M) : Wp X kc ks pc lv (.long y :: .long x :: st) sh M := by
  intro p e R s m args below meth c H locs ad0 ad ls C ⟨hl, hw, hS, ov, os, ha, hn⟩
  exact lv_ladd C.1.1 C.1.2.1 hd (k _ _ _ _ _ _ _ _ _ _ _ _ _ _ C ⟨hl, hw, hS, ov, oks_l (oks_t2 os), ha, hn⟩)
theorem wp_lsub {x y : Int64} (hd : decode X.2.1.2.2.1 pc = .ok (.lsub, 1)) (k : Wp X kc ks (pc + 1) lv (.long (x - y) :: st) sh M) : Wp X kc ks pc lv (.long y :: .long x :: st) sh M := by
  intro p e R s m args below meth c H locs ad0 ad ls C ⟨hl, hw, hS, ov, os, ha, hn⟩
  exact lv_lsub C.1.1 C.1.2.1 hd (k _ _ _ _ _ _ _ _ _ _ _ _ _ _ C ⟨hl, hw, hS, ov, oks_l (oks_t2 os), ha, hn⟩)
theorem wp_lmul {x y : Int64} (hd : decode X.2.1.2.2.1 pc = .ok (.lmul, 1)) (k : Wp X kc ks (pc + 1) lv (.long (x * y) :: st) sh M) : Wp X kc ks pc lv (.long y :: .long x :: st) sh M := by
  intro p e R s m args below meth c H locs ad0 ad ls C ⟨hl, hw, hS, ov, os, ha, hn⟩
  exact lv_lmul C.1.1 C.1.2.1 hd (k _ _ _ _ _ _ _ _ _ _ _ _ _ _ C ⟨hl, hw, hS, ov, oks_l (oks_t2 os), ha, hn⟩)
theorem wp_land {x y : Int64} (hd : decode X.2.1.2.2.1 pc = .ok (.land, 1)) (k : Wp X kc ks (pc + 1) lv (.long (x &&& y) :: st) sh M) : Wp X kc ks pc lv (.long y :: .long x :: st) sh M := by
  intro p e R s m args below meth c H locs ad0 ad ls C ⟨hl, hw, hS, ov, os, ha, hn⟩
  exact lv_land C.1.1 C.1.2.1 hd (k _ _ _ _ _ _ _ _ _ _ _ _ _ _ C ⟨hl, hw, hS, ov, oks_l (oks_t2 os), ha, hn⟩)
theorem wp_lor {x y : Int64} (hd : decode X.2.1.2.2.1 pc = .ok (.lor, 1)) (k : Wp X kc ks (pc + 1) lv (.long (x ||| y) :: st) sh M) : Wp X kc ks pc lv (.long y :: .long x :: st) sh M := by
  intro p e R s m args below meth c H locs ad0 ad ls C ⟨hl, hw, hS, ov, os, ha, hn⟩
  exact lv_lor C.1.1 C.1.2.1 hd (k _ _ _ _ _ _ _ _ _ _ _ _ _ _ C ⟨hl, hw, hS, ov, oks_l (oks_t2 os), ha, hn⟩)
theorem wp_lxor {x y : Int64} (hd : decode X.2.1.2.2.1 pc = .ok (.lxor, 1)) (k : Wp X kc ks (pc + 1) lv (.long (x ^^^ y) :: st) sh M) : Wp X kc ks pc lv (.long y :: .long x :: st) sh M := by
  intro p e R s m args below meth c H locs ad0 ad ls C ⟨hl, hw, hS, ov, os, ha, hn⟩
  exact lv_lxor C.1.1 C.1.2.1 hd (k _ _ _ _ _ _ _ _ _ _ _ _ _ _ C ⟨hl, hw, hS, ov, oks_l (oks_t2 os), ha, hn⟩)
theorem wp_ldiv {x y : Int64} (hd : decode X.2.1.2.2.1 pc = .ok (.ldiv, 1)) (h0 : ¬ y = 0) (k : Wp X kc ks (pc + 1) lv (.long (x / y) :: st) sh M) : Wp X kc ks pc lv (.long y :: .long x :: st) sh M := by
  intro p e R s m args below meth c H locs ad0 ad ls C ⟨hl, hw, hS, ov, os, ha, hn⟩
  exact lv_ldiv C.1.1 C.1.2.1 hd h0 (k _ _ _ _ _ _ _ _ _ _ _ _ _ _ C ⟨hl, hw, hS, ov, oks_l (oks_t2 os), ha, hn⟩)
theorem wp_lshl {x : Int64} {y : Int32} (hd : decode X.2.1.2.2.1 pc = .ok (.lshl, 1)) (k : Wp X kc ks (pc + 1) lv (.long (x <<< (y.toInt64 &&& 63)) :: st) sh M) : Wp X kc ks pc lv (.int y :: .long x :: st) sh M := by
  intro p e R s m args below meth c H locs ad0 ad ls C ⟨hl, hw, hS, ov, os, ha, hn⟩
  exact lv_lshl C.1.1 C.1.2.1 hd rfl (k _ _ _ _ _ _ _ _ _ _ _ _ _ _ C ⟨hl, hw, hS, ov, oks_l (oks_t2 os), ha, hn⟩)
theorem wp_lshr {x : Int64} {y : Int32} (hd : decode X.2.1.2.2.1 pc = .ok (.lshr, 1)) (k : Wp X kc ks (pc + 1) lv (.long (x >>> (y.toInt64 &&& 63)) :: st) sh M) : Wp X kc ks pc lv (.int y :: .long x :: st) sh M := by
  intro p e R s m args below meth c H locs ad0 ad ls C ⟨hl, hw, hS, ov, os, ha, hn⟩
  exact lv_lshr C.1.1 C.1.2.1 hd rfl (k _ _ _ _ _ _ _ _ _ _ _ _ _ _ C ⟨hl, hw, hS, ov, oks_l (oks_t2 os), ha, hn⟩)
theorem wp_lushr {x : Int64} {y : Int32} (hd : decode X.2.1.2.2.1 pc = .ok (.lushr, 1)) (k : Wp X kc ks (pc + 1) lv (.long ((x.toUInt64 >>> (y.toInt64.toUInt64 &&& Int64.toUInt64 63)).toInt64) :: st) sh M) : Wp X kc ks pc lv (.int y :: .long x :: st) sh M := by
  intro p e R s m args below meth c H locs ad0 ad ls C ⟨hl, hw, hS, ov, os, ha, hn⟩
  exact lv_lushr C.1.1 C.1.2.1 hd rfl (k _ _ _ _ _ _ _ _ _ _ _ _ _ _ C ⟨hl, hw, hS, ov, oks_l (oks_t2 os), ha, hn⟩)
theorem wp_lcmp {x y : Int64} (hd : decode X.2.1.2.2.1 pc = .ok (.lcmp, 1)) (k : Wp X kc ks (pc + 1) lv (.int (lg_cmp x y) :: st) sh M) : Wp X kc ks pc lv (.long y :: .long x :: st) sh M := by
  intro p e R s m args below meth c H locs ad0 ad ls C ⟨hl, hw, hS, ov, os, ha, hn⟩
  exact W.lcmp C.1.1 C.1.2.1 hd (k _ _ _ _ _ _ _ _ _ _ _ _ _ _ C ⟨hl, hw, hS, ov, oks_i (oks_t2 os), ha, hn⟩)
theorem wp_ineg {x : Int32} (hd : decode X.2.1.2.2.1 pc = .ok (.ineg, 1)) (k : Wp X kc ks (pc + 1) lv (.int (-x) :: st) sh M) : Wp X kc ks pc lv (.int x :: st) sh M := by
  intro p e R s m args below meth c H locs ad0 ad ls C ⟨hl, hw, hS, ov, os, ha, hn⟩
  exact lv_ineg C.1.1 C.1.2.1 hd (k _ _ _ _ _ _ _ _ _ _ _ _ _ _ C ⟨hl, hw, hS, ov, oks_i (oks_t os), ha, hn⟩)
theorem wp_i2l {x : Int32} (hd : decode X.2.1.2.2.1 pc = .ok (.i2l, 1)) (k : Wp X kc ks (pc + 1) lv (.long x.toInt64 :: st) sh M) : Wp X kc ks pc lv (.int x :: st) sh M := by
  intro p e R s m args below meth c H locs ad0 ad ls C ⟨hl, hw, hS, ov, os, ha, hn⟩
  exact lv_i2l C.1.1 C.1.2.1 hd rfl (k _ _ _ _ _ _ _ _ _ _ _ _ _ _ C ⟨hl, hw, hS, ov, oks_l (oks_t os), ha, hn⟩)
theorem wp_l2i {x : Int64} (hd : decode X.2.1.2.2.1 pc = .ok (.l2i, 1)) (k : Wp X kc ks (pc + 1) lv (.int x.toInt32 :: st) sh M) : Wp X kc ks pc lv (.long x :: st) sh M := by
  intro p e R s m args below meth c H locs ad0 ad ls C ⟨hl, hw, hS, ov, os, ha, hn⟩
  exact lv_l2i C.1.1 C.1.2.1 hd rfl (k _ _ _ _ _ _ _ _ _ _ _ _ _ _ C ⟨hl, hw, hS, ov, oks_i (oks_t os), ha, hn⟩)
theorem wp_i2b {x : Int32} (hd : decode X.2.1.2.2.1 pc = .ok (.i2b, 1)) (k : Wp X kc ks (pc + 1) lv (.int x.toInt8.toInt32 :: st) sh M) : Wp X kc ks pc lv (.int x :: st) sh M := by
  intro p e R s m args below meth c H locs ad0 ad ls C ⟨hl, hw, hS, ov, os, ha, hn⟩
  exact lv_i2b C.1.1 C.1.2.1 hd rfl (k _ _ _ _ _ _ _ _ _ _ _ _ _ _ C ⟨hl, hw, hS, ov, oks_i (oks_t os), ha, hn⟩)
theorem wp_dup {v : Value} (hd : decode X.2.1.2.2.1 pc = .ok (.dup, 1)) (hc : v.category = 1) (k : Wp X kc ks (pc + 1) lv (v :: v :: st) sh M) : Wp X kc ks pc lv (v :: st) sh M := by
  intro p e R s m args below meth c H locs ad0 ad ls C ⟨hl, hw, hS, ov, os, ha, hn⟩
  exact lv_dup C.1.1 C.1.2.1 hd ((cv_cat ad v).trans hc) (k _ _ _ _ _ _ _ _ _ _ _ _ _ _ C ⟨hl, hw, hS, ov, oks_cons.mpr ⟨(oks_cons.mp os).1, os⟩, ha, hn⟩)
theorem wp_dup2 {v w : Value} (hd : decode X.2.1.2.2.1 pc = .ok (.dup2, 1)) (hc : v.category = 1) (hc2 : w.category = 1) (k : Wp X kc ks (pc + 1) lv (v :: w :: v :: w :: st) sh M) : Wp X kc ks pc lv (v :: w :: st) sh M := by
  intro p e R s m args below meth c H locs ad0 ad ls C ⟨hl, hw, hS, ov, os, ha, hn⟩
  exact lv_dup2_11 C.1.1 C.1.2.1 hd ((cv_cat ad v).trans hc) ((cv_cat ad w).trans hc2) (k _ _ _ _ _ _ _ _ _ _ _ _ _ _ C ⟨hl, hw, hS, ov, oks_cons.mpr ⟨(oks_cons.mp os).1, oks_cons.mpr ⟨(oks_cons.mp (oks_t os)).1, os⟩⟩, ha, hn⟩)
theorem wp_pop {v : Value} (hd : decode X.2.1.2.2.1 pc = .ok (.pop, 1)) (hc : v.category = 1) (k : Wp X kc ks (pc + 1) lv st sh M) : Wp X kc ks pc lv (v :: st) sh M := by
  intro p e R s m args below meth c H locs ad0 ad ls C ⟨hl, hw, hS, ov, os, ha, hn⟩
  exact lv_pop C.1.1 C.1.2.1 hd ((cv_cat ad v).trans hc) (k _ _ _ _ _ _ _ _ _ _ _ _ _ _ C ⟨hl, hw, hS, ov, oks_t os, ha, hn⟩)
theorem wp_goto {off : Int} {tgt : Nat} (hd : decode X.2.1.2.2.1 pc = .ok (.goto off, 3)) (ht : (pc : Int) + off = (tgt : Int)) (k : Wp X kc ks tgt lv st sh M) : Wp X kc ks pc lv st sh M := by
  intro p e R s m args below meth c H locs ad0 ad ls C D
  exact lv_goto C.1.1 C.1.2.1 hd ht (k _ _ _ _ _ _ _ _ _ _ _ _ _ _ C D)
theorem wp_icmp_eq {x y : Int32} {off : Int} {tgt : Nat} (hd : decode X.2.1.2.2.1 pc = .ok (.if_icmp .eq off, 3)) (ht : (pc : Int) + off = (tgt : Int)) (kt : x = y → Wp X kc ks tgt lv st sh M) (kf : ¬ (x = y) → Wp X kc ks (pc + 3) lv st sh M) : Wp X kc ks pc lv (.int y :: .int x :: st) sh M := by
  intro p e R s m args below meth c H locs ad0 ad ls C ⟨hl, hw, hS, ov, os, ha, hn⟩
  exact lv_icmp_eq C.1.1 C.1.2.1 hd ht (fun q => kt q _ _ _ _ _ _ _ _ _ _ _ _ _ _ C ⟨hl, hw, hS, ov, oks_t2 os, ha, hn⟩) (fun q => kf q _ _ _ _ _ _ _ _ _ _ _ _ _ _ C ⟨hl, hw, hS, ov, oks_t2 os, ha, hn⟩)
theorem wp_if_eq {x : Int32} {off : Int} {tgt : Nat} (hd : decode X.2.1.2.2.1 pc = .ok (.ifCond .eq off, 3)) (ht : (pc : Int) + off = (tgt : Int)) (kt : x = 0 → Wp X kc ks tgt lv st sh M) (kf : ¬ (x = 0) → Wp X kc ks (pc + 3) lv st sh M) : Wp X kc ks pc lv (.int x :: st) sh M := by
  intro p e R s m args below meth c H locs ad0 ad ls C ⟨hl, hw, hS, ov, os, ha, hn⟩
  exact lv_if_eq C.1.1 C.1.2.1 hd ht (fun q => kt q _ _ _ _ _ _ _ _ _ _ _ _ _ _ C ⟨hl, hw, hS, ov, oks_t os, ha, hn⟩) (fun q => kf q _ _ _ _ _ _ _ _ _ _ _ _ _ _ C ⟨hl, hw, hS, ov, oks_t os, ha, hn⟩)
theorem wp_icmp_ne {x y : Int32} {off : Int} {tgt : Nat} (hd : decode X.2.1.2.2.1 pc = .ok (.if_icmp .ne off, 3)) (ht : (pc : Int) + off = (tgt : Int)) (kt : ¬ x = y → Wp X kc ks tgt lv st sh M) (kf : x = y → Wp X kc ks (pc + 3) lv st sh M) : Wp X kc ks pc lv (.int y :: .int x :: st) sh M := by
  intro p e R s m args below meth c H locs ad0 ad ls C ⟨hl, hw, hS, ov, os, ha, hn⟩
  exact lv_icmp_ne C.1.1 C.1.2.1 hd ht (fun q => kt q _ _ _ _ _ _ _ _ _ _ _ _ _ _ C ⟨hl, hw, hS, ov, oks_t2 os, ha, hn⟩) (fun q => kf q _ _ _ _ _ _ _ _ _ _ _ _ _ _ C ⟨hl, hw, hS, ov, oks_t2 os, ha, hn⟩)
theorem wp_if_ne {x : Int32} {off : Int} {tgt : Nat} (hd : decode X.2.1.2.2.1 pc = .ok (.ifCond .ne off, 3)) (ht : (pc : Int) + off = (tgt : Int)) (kt : ¬ x = 0 → Wp X kc ks tgt lv st sh M) (kf : x = 0 → Wp X kc ks (pc + 3) lv st sh M) : Wp X kc ks pc lv (.int x :: st) sh M := by
  intro p e R s m args below meth c H locs ad0 ad ls C ⟨hl, hw, hS, ov, os, ha, hn⟩
  exact lv_if_ne C.1.1 C.1.2.1 hd ht (fun q => kt q _ _ _ _ _ _ _ _ _ _ _ _ _ _ C ⟨hl, hw, hS, ov, oks_t os, ha, hn⟩) (fun q => kf q _ _ _ _ _ _ _ _ _ _ _ _ _ _ C ⟨hl, hw, hS, ov, oks_t os, ha, hn⟩)
theorem wp_icmp_lt {x y : Int32} {off : Int} {tgt : Nat} (hd : decode X.2.1.2.2.1 pc = .ok (.if_icmp .lt off, 3)) (ht : (pc : Int) + off = (tgt : Int)) (kt : x < y → Wp X kc ks tgt lv st sh M) (kf : ¬ (x < y) → Wp X kc ks (pc + 3) lv st sh M) : Wp X kc ks pc lv (.int y :: .int x :: st) sh M := by
  intro p e R s m args below meth c H locs ad0 ad ls C ⟨hl, hw, hS, ov, os, ha, hn⟩
  exact lv_icmp_lt C.1.1 C.1.2.1 hd ht (fun q => kt q _ _ _ _ _ _ _ _ _ _ _ _ _ _ C ⟨hl, hw, hS, ov, oks_t2 os, ha, hn⟩) (fun q => kf q _ _ _ _ _ _ _ _ _ _ _ _ _ _ C ⟨hl, hw, hS, ov, oks_t2 os, ha, hn⟩)
theorem wp_if_lt {x : Int32} {off : Int} {tgt : Nat} (hd : decode X.2.1.2.2.1 pc = .ok (.ifCond .lt off, 3)) (ht : (pc : Int) + off = (tgt : Int)) (kt : x < 0 → Wp X kc ks tgt lv st sh M) (kf : ¬ (x < 0) → Wp X kc ks (pc + 3) lv st sh M) : Wp X kc ks pc lv (.int x :: st) sh M := by
  intro p e R s m args below meth c H locs ad0 ad ls C ⟨hl, hw, hS, ov, os, ha, hn⟩
  exact lv_if_lt C.1.1 C.1.2.1 hd ht (fun q => kt q _ _ _ _ _ _ _ _ _ _ _ _ _ _ C ⟨hl, hw, hS, ov, oks_t os, ha, hn⟩) (fun q => kf q _ _ _ _ _ _ _ _ _ _ _ _ _ _ C ⟨hl, hw, hS, ov, oks_t os, ha, hn⟩)
theorem wp_icmp_ge {x y : Int32} {off : Int} {tgt : Nat} (hd : decode X.2.1.2.2.1 pc = .ok (.if_icmp .ge off, 3)) (ht : (pc : Int) + off = (tgt : Int)) (kt : y ≤ x → Wp X kc ks tgt lv st sh M) (kf : ¬ (y ≤ x) → Wp X kc ks (pc + 3) lv st sh M) : Wp X kc ks pc lv (.int y :: .int x :: st) sh M := by
  intro p e R s m args below meth c H locs ad0 ad ls C ⟨hl, hw, hS, ov, os, ha, hn⟩
  exact lv_icmp_ge C.1.1 C.1.2.1 hd ht (fun q => kt q _ _ _ _ _ _ _ _ _ _ _ _ _ _ C ⟨hl, hw, hS, ov, oks_t2 os, ha, hn⟩) (fun q => kf q _ _ _ _ _ _ _ _ _ _ _ _ _ _ C ⟨hl, hw, hS, ov, oks_t2 os, ha, hn⟩)
theorem wp_if_ge {x : Int32} {off : Int} {tgt : Nat} (hd : decode X.2.1.2.2.1 pc = .ok (.ifCond .ge off, 3)) (ht : (pc : Int) + off = (tgt : Int)) (kt : 0 ≤ x → Wp X kc ks tgt lv st sh M) (kf : ¬ (0 ≤ x) → Wp X kc ks (pc + 3) lv st sh M) : Wp X kc ks pc lv (.int x :: st) sh M := by
  intro p e R s m args below meth c H locs ad0 ad ls C ⟨hl, hw, hS, ov, os, ha, hn⟩
  exact lv_if_ge C.1.1 C.1.2.1 hd ht (fun q => kt q _ _ _ _ _ _ _ _ _ _ _ _ _ _ C ⟨hl, hw, hS, ov, oks_t os, ha, hn⟩) (fun q => kf q _ _ _ _ _ _ _ _ _ _ _ _ _ _ C ⟨hl, hw, hS, ov, oks_t os, ha, hn⟩)
theorem wp_icmp_gt {x y : Int32} {off : Int} {tgt : Nat} (hd : decode X.2.1.2.2.1 pc = .ok (.if_icmp .gt off, 3)) (ht : (pc : Int) + off = (tgt : Int)) (kt : y < x → Wp X kc ks tgt lv st sh M) (kf : ¬ (y < x) → Wp X kc ks (pc + 3) lv st sh M) : Wp X kc ks pc lv (.int y :: .int x :: st) sh M := by
  intro p e R s m args below meth c H locs ad0 ad ls C ⟨hl, hw, hS, ov, os, ha, hn⟩
  exact lv_icmp_gt C.1.1 C.1.2.1 hd ht (fun q => kt q _ _ _ _ _ _ _ _ _ _ _ _ _ _ C ⟨hl, hw, hS, ov, oks_t2 os, ha, hn⟩) (fun q => kf q _ _ _ _ _ _ _ _ _ _ _ _ _ _ C ⟨hl, hw, hS, ov, oks_t2 os, ha, hn⟩)
theorem wp_if_gt {x : Int32} {off : Int} {tgt : Nat} (hd : decode X.2.1.2.2.1 pc = .ok (.ifCond .gt off, 3)) (ht : (pc : Int) + off = (tgt : Int)) (kt : 0 < x → Wp X kc ks tgt lv st sh M) (kf : ¬ (0 < x) → Wp X kc ks (pc + 3) lv st sh M) : Wp X kc ks pc lv (.int x :: st) sh M := by
  intro p e R s m args below meth c H locs ad0 ad ls C ⟨hl, hw, hS, ov, os, ha, hn⟩
  exact lv_if_gt C.1.1 C.1.2.1 hd ht (fun q => kt q _ _ _ _ _ _ _ _ _ _ _ _ _ _ C ⟨hl, hw, hS, ov, oks_t os, ha, hn⟩) (fun q => kf q _ _ _ _ _ _ _ _ _ _ _ _ _ _ C ⟨hl, hw, hS, ov, oks_t os, ha, hn⟩)
theorem wp_icmp_le {x y : Int32} {off : Int} {tgt : Nat} (hd : decode X.2.1.2.2.1 pc = .ok (.if_icmp .le off, 3)) (ht : (pc : Int) + off = (tgt : Int)) (kt : x ≤ y → Wp X kc ks tgt lv st sh M) (kf : ¬ (x ≤ y) → Wp X kc ks (pc + 3) lv st sh M) : Wp X kc ks pc lv (.int y :: .int x :: st) sh M := by
  intro p e R s m args below meth c H locs ad0 ad ls C ⟨hl, hw, hS, ov, os, ha, hn⟩
  exact lv_icmp_le C.1.1 C.1.2.1 hd ht (fun q => kt q _ _ _ _ _ _ _ _ _ _ _ _ _ _ C ⟨hl, hw, hS, ov, oks_t2 os, ha, hn⟩) (fun q => kf q _ _ _ _ _ _ _ _ _ _ _ _ _ _ C ⟨hl, hw, hS, ov, oks_t2 os, ha, hn⟩)
theorem wp_if_le {x : Int32} {off : Int} {tgt : Nat} (hd : decode X.2.1.2.2.1 pc = .ok (.ifCond .le off, 3)) (ht : (pc : Int) + off = (tgt : Int)) (kt : x ≤ 0 → Wp X kc ks tgt lv st sh M) (kf : ¬ (x ≤ 0) → Wp X kc ks (pc + 3) lv st sh M) : Wp X kc ks pc lv (.int x :: st) sh M := by
  intro p e R s m args below meth c H locs ad0 ad ls C ⟨hl, hw, hS, ov, os, ha, hn⟩
  exact lv_if_le C.1.1 C.1.2.1 hd ht (fun q => kt q _ _ _ _ _ _ _ _ _ _ _ _ _ _ C ⟨hl, hw, hS, ov, oks_t os, ha, hn⟩) (fun q => kf q _ _ _ _ _ _ _ _ _ _ _ _ _ _ C ⟨hl, hw, hS, ov, oks_t os, ha, hn⟩)
theorem wp_tableIn {dflt lo hi : Int} {offs : Array Int} {len : Nat} {x : Int32} {off : Int} {tgt : Nat} (hd : decode X.2.1.2.2.1 pc = .ok (.tableswitch dflt lo hi offs, len)) (h1 : ¬ x.toInt < lo) (h2 : ¬ hi < x.toInt) (ho : offs[(x.toInt - lo).toNat]? = some off) (ht : (pc : Int) + off = (tgt : Int)) (k : Wp X kc ks tgt lv st sh M) : Wp X kc ks pc lv (.int x :: st) sh M := by
  intro p e R s m args below meth c H locs ad0 ad ls C ⟨hl, hw, hS, ov, os, ha, hn⟩
  exact lv_tableIn C.1.1 C.1.2.1 hd h1 h2 ho ht (k _ _ _ _ _ _ _ _ _ _ _ _ _ _ C ⟨hl, hw, hS, ov, oks_t os, ha, hn⟩)
theorem wp_tableOut {dflt lo hi : Int} {offs : Array Int} {len : Nat} {x : Int32} {tgt : Nat} (hd : decode X.2.1.2.2.1 pc = .ok (.tableswitch dflt lo hi offs, len)) (h : x.toInt < lo ∨ hi < x.toInt) (ht : (pc : Int) + dflt = (tgt : Int)) (k : Wp X kc ks tgt lv st sh M) : Wp X kc ks pc lv (.int x :: st) sh M := by
  intro p e R s m args below meth c H locs ad0 ad ls C ⟨hl, hw, hS, ov, os, ha, hn⟩
  exact lv_tableOut C.1.1 C.1.2.1 hd h ht (k _ _ _ _ _ _ _ _ _ _ _ _ _ _ C ⟨hl, hw, hS, ov, oks_t os, ha, hn⟩)
theorem wp_lookup {dflt : Int} {ps : Array (Int × Int)} {len : Nat} {x : Int32} {off : Int} {tgt : Nat} (hd : decode X.2.1.2.2.1 pc = .ok (.lookupswitch dflt ps, len)) (hp : (ps.toList.zip (ps.toList.drop 1)).all (fun (a, next) => a.1 < next.1) = true) (ho : Op.lookupswitch.offset ps.toList dflt x.toInt = off) (ht : (pc : Int) + off = (tgt : Int)) (k : Wp X kc ks tgt lv st sh M) : Wp X kc ks pc lv (.int x :: st) sh M := by
  intro p e R s m args below meth c H locs ad0 ad ls C ⟨hl, hw, hS, ov, os, ha, hn⟩
  exact lv_lookup C.1.1 C.1.2.1 hd hp ho ht (k _ _ _ _ _ _ _ _ _ _ _ _ _ _ C ⟨hl, hw, hS, ov, oks_t os, ha, hn⟩)
end WPI
end
section
/-! ===== fields and arrays ===== -/
theorem clsL_ok {ci : Nat} {C : String} {T : u_T} {N : Nat} (h : clsL[ci]? = some (C, T, N)) : (∀ w ∈ u_ws C T N, w ∈ BIG) ∧ (∀ k, k < N → parseFieldDescriptor (T k).2.2.1 = some (tyL ci k)) ∧ (∀ a, a < N → ∀ b, b < N → a ≠ b → (T a).2.1 ≠ (T b).2.1) ∧ (fkL ci).length = N := by
  match ci, h with
  | 0, h => cases h; exact ⟨layX0, tyX0_ok, nmX0, rfl⟩
  | 1, h => cases h; exact ⟨layX1, tyX1_ok, nmX1, rfl⟩
  | 2, h => cases h; exact ⟨layX3, tyX3_ok, nmX3, rfl⟩
  | 3, h => cases h; exact ⟨layX4, tyX4_ok, nmX4, rfl⟩
  | 4, h => cases h; exact ⟨layX5, tyX5_ok, nmX5, rfl⟩
  | 5, h => cases h; exact ⟨layX6, tyX6_ok, nmX6, rfl⟩
  | 6, h => cases h; exact ⟨layX7, tyX7_ok, nmX7, rfl⟩
  | 7, h => cases h; exact ⟨layX8, tyX8_ok, nmX8, rfl⟩
  | 8, h => cases h; exact ⟨layX9, tyX9_ok, nmX9, rfl⟩
  | k + 9, h => simp [clsL] at h
section WPM
variable {X : MX} {kc ks pc : Nat} {lv : LV} {st : List Value} {sh : List Sh} {M : Mem}
theorem wp_getI {idx ci f o : Nat} (hd : decode X.2.1.2.2.1 pc = .ok (.getfield idx, 3)) (hf : FL X.2.1.2.1 idx ci f) (hs : sh[o]? = some (.inl ci)) (hk : (fkL ci)[f]? = some true)
    (k : Wp X kc ks (pc + 3) lv (.int (fI M o f) :: st) sh M) : Wp X kc ks pc lv (.ref o :: st) sh M := by
  intro p e R s m args below meth c H locs ad0 ad ls C ⟨hl, hw, hS, ov, os, ha, hn⟩
  obtain ⟨Cn, T, N, hc, hfN, hlink⟩ := hf
  obtain ⟨hlay, -, -, -⟩ := clsL_ok hc
  exact va_get C.1.1 C.1.2.1 C.1.2.2.2.2 hlay C.1.2.2.2.1 C.2.2.2.1.1 hw.1 o (wsOf_get hs) hc f hfN (C.1.2.2.2.2 _ hlink) (fun _ h => h) (cellFs_I hk) hd
    (k _ _ _ _ _ _ _ _ _ _ _ _ _ _ C ⟨hl, hw, hS, ov, oks_i (oks_t os), ha, hn⟩)
theorem wp_getR {idx ci f o q : Nat} (hd : decode X.2.1.2.2.1 pc = .ok (.getfield idx, 3)) (hf : FL X.2.1.2.1 idx ci f) (hs : sh[o]? = some (.inl ci)) (hk : (fkL ci)[f]? = some false) (hq : fR M o f = some q)
    (k : Wp X kc ks (pc + 3) lv (.ref q :: st) sh M) : Wp X kc ks pc lv (.ref o :: st) sh M := by
  intro p e R s m args below meth c H locs ad0 ad ls C ⟨hl, hw, hS, ov, os, ha, hn⟩
  obtain ⟨Cn, T, N, hc, hfN, hlink⟩ := hf
  obtain ⟨hlay, -, -, -⟩ := clsL_ok hc
  have hv : (cellFs ad (fkL ci) M o)[f]? = some (.ref (ad q)) := by rw [cellFs_R hk, hq]; rfl
  exact va_get C.1.1 C.1.2.1 C.1.2.2.2.2 hlay C.1.2.2.2.1 C.2.2.2.1.1 hw.1 o (wsOf_get hs) hc f hfN (C.1.2.2.2.2 _ hlink) (fun _ h => h) hv hd
    (k _ _ _ _ _ _ _ _ _ _ _ _ _ _ C ⟨hl, hw, hS, ov, oks_cons.mpr ⟨hw.2.2.1 _ _ _ hq, oks_t os⟩, ha, hn⟩)
theorem wp_putI {idx ci f o : Nat} {x : Int32} (hd : decode X.2.1.2.2.1 pc = .ok (.putfield idx, 3)) (hf : FL X.2.1.2.1 idx ci f) (hs : sh[o]? = some (.inl ci)) (hk : (fkL ci)[f]? = some true) (hfin : ∀ C T N, clsL[ci]? = some (C, T, N) → (T f).2.2.2 = false)
    (hx : narrow (tyL ci f) (.int x) = .int x) (hfit : fits (tyL ci f) (.int x) = true)
    (k : Wp X kc ks (pc + 3) lv st sh (sI M o f x)) : Wp X kc ks pc lv (.int x :: .ref o :: st) sh M := by
  intro p e R s m args below meth c H locs ad0 ad ls C ⟨hl, hw, hS, ov, os, ha, hn⟩
  obtain ⟨Cn, T, N, hc, hfN, hlink⟩ := hf
  obtain ⟨hlay, hty, hnm, hlen⟩ := clsL_ok hc
  refine va_put C.1.1 C.1.2.1 C.1.2.2.2.2 hlay (tyL ci) hty hnm C.1.2.2.2.1 C.2.2.2.1.1 hw.1 hw.2.1 hS o (wsOf_get hs) hc f hfN (C.1.2.2.2.2 _ hlink) (fun _ h => h) (hfin _ _ _ hc) (hty f hfN) hx hfit (by rw [cellFs_len]; omega) hd (fun H1 locs1 hP hD hS1 => ?_)
  rw [wsOf_set hs (M' := sI M o f x) (by simp only [cellOf, cellFs_sI hk]; rfl) (fun k s' hk' => cellOf_sI k s' hk')] at hP hD
  exact k _ _ _ _ _ _ _ _ _ _ _ _ _ _ C ⟨hl, ⟨hP, hD, hw.2.2⟩, hS1, ov, oks_t2 os, ha, hn⟩
theorem wp_putR {idx ci f o q : Nat} (hd : decode X.2.1.2.2.1 pc = .ok (.putfield idx, 3)) (hf : FL X.2.1.2.1 idx ci f) (hs : sh[o]? = some (.inl ci)) (hk : (fkL ci)[f]? = some false) (hfin : ∀ C T N, clsL[ci]? = some (C, T, N) → (T f).2.2.2 = false)
    (hx : ∀ a : Nat, narrow (tyL ci f) (.ref a) = .ref a) (hfit : ∀ a : Nat, fits (tyL ci f) (.ref a) = true)
    (k : Wp X kc ks (pc + 3) lv st sh (sR M o f (some q))) : Wp X kc ks pc lv (.ref q :: .ref o :: st) sh M := by
  intro p e R s m args below meth c H locs ad0 ad ls C ⟨hl, hw, hS, ov, os, ha, hn⟩
  obtain ⟨Cn, T, N, hc, hfN, hlink⟩ := hf
  obtain ⟨hlay, hty, hnm, hlen⟩ := clsL_ok hc
  refine va_put C.1.1 C.1.2.1 C.1.2.2.2.2 hlay (tyL ci) hty hnm C.1.2.2.2.1 C.2.2.2.1.1 hw.1 hw.2.1 hS o (wsOf_get hs) hc f hfN (C.1.2.2.2.2 _ hlink) (fun _ h => h) (hfin _ _ _ hc) (hty f hfN) (hx _) (hfit _) (by rw [cellFs_len]; omega) hd (fun H1 locs1 hP hD hS1 => ?_)
  rw [wsOf_set hs (M' := sR M o f (some q)) (by simp only [cellOf, cellFs_sR hk]; rfl) (fun k s' hk' => cellOf_sR k s' hk')] at hP hD
  exact k _ _ _ _ _ _ _ _ _ _ _ _ _ _ C ⟨hl, ⟨hP, hD, Vd_sR hw.2.2 (fun k' hk' => by cases hk'; exact (oks_cons.mp os).1)⟩, hS1, ov, oks_t2 os, ha, hn⟩
/-! final fields, in constructors -/
/-! arrays -/
theorem wp_ialoadT {o n t : Nat} {i : Int32} (ht : t = 1) (hd : decode X.2.1.2.2.1 pc = .ok (.iaload, 1)) (hs : sh[o]? = some (.inr (t, n))) (hin : vp_in i n)
    (k : Wp X kc ks (pc + 1) lv (.int (aI M o i.toNatClampNeg) :: st) sh M) : Wp X kc ks pc lv (.int i :: .ref o :: st) sh M := by
  intro p e R s m args below meth c H locs ad0 ad ls C ⟨hl, hw, hS, ov, os, ha, hn⟩
  subst ht
  exact va_iald C.1.1 C.1.2.1 C.2.2.2.1.1 hw.1 o 1 (wsOf_get hs) rfl hin hd (k _ _ _ _ _ _ _ _ _ _ _ _ _ _ C ⟨hl, hw, hS, ov, oks_i (oks_t2 os), ha, hn⟩)
theorem wp_iaload {o n : Nat} {i : Int32} (hd : decode X.2.1.2.2.1 pc = .ok (.iaload, 1)) (hs : sh[o]? = some (.inr (1, n))) (hin : vp_in i n)
    (k : Wp X kc ks (pc + 1) lv (.int (aI M o i.toNatClampNeg) :: st) sh M) : Wp X kc ks pc lv (.int i :: .ref o :: st) sh M := by
  intro p e R s m args below meth c H locs ad0 ad ls C ⟨hl, hw, hS, ov, os, ha, hn⟩
  exact va_iald C.1.1 C.1.2.1 C.2.2.2.1.1 hw.1 o 1 (wsOf_get hs) rfl hin hd (k _ _ _ _ _ _ _ _ _ _ _ _ _ _ C ⟨hl, hw, hS, ov, oks_i (oks_t2 os), ha, hn⟩)
theorem wp_baload {o n : Nat} {i : Int32} (hd : decode X.2.1.2.2.1 pc = .ok (.baload, 1)) (hs : sh[o]? = some (.inr (0, n))) (hin : vp_in i n)
    (k : Wp X kc ks (pc + 1) lv (.int (aI M o i.toNatClampNeg) :: st) sh M) : Wp X kc ks pc lv (.int i :: .ref o :: st) sh M := by
  intro p e R s m args below meth c H locs ad0 ad ls C ⟨hl, hw, hS, ov, os, ha, hn⟩
  exact va_bald C.1.1 C.1.2.1 C.2.2.2.1.1 hw.1 o 0 (wsOf_get hs) rfl hin hd (k _ _ _ _ _ _ _ _ _ _ _ _ _ _ C ⟨hl, hw, hS, ov, oks_i (oks_t2 os), ha, hn⟩)
theorem wp_zaload {o n : Nat} {i : Int32} (hd : decode X.2.1.2.2.1 pc = .ok (.baload, 1)) (hs : sh[o]? = some (.inr (3, n))) (hin : vp_in i n)
    (k : Wp X kc ks (pc + 1) lv (.int (aI M o i.toNatClampNeg) :: st) sh M) : Wp X kc ks pc lv (.int i :: .ref o :: st) sh M := by
  intro p e R s m args below meth c H locs ad0 ad ls C ⟨hl, hw, hS, ov, os, ha, hn⟩
  exact va_zald C.1.1 C.1.2.1 C.2.2.2.1.1 hw.1 o 3 (wsOf_get hs) rfl hin hd (k _ _ _ _ _ _ _ _ _ _ _ _ _ _ C ⟨hl, hw, hS, ov, oks_i (oks_t2 os), ha, hn⟩)
theorem wp_laload {o n : Nat} {i : Int32} (hd : decode X.2.1.2.2.1 pc = .ok (.laload, 1)) (hs : sh[o]? = some (.inr (2, n))) (hin : vp_in i n)
    (k : Wp X kc ks (pc + 1) lv (.long (aL M o i.toNatClampNeg) :: st) sh M) : Wp X kc ks pc lv (.int i :: .ref o :: st) sh M := by
  intro p e R s m args below meth c H locs ad0 ad ls C ⟨hl, hw, hS, ov, os, ha, hn⟩
  exact va_lald C.1.1 C.1.2.1 C.2.2.2.1.1 hw.1 o 2 (wsOf_get hs) rfl hin hd (k _ _ _ _ _ _ _ _ _ _ _ _ _ _ C ⟨hl, hw, hS, ov, oks_l (oks_t2 os), ha, hn⟩)
theorem wp_aaload {o n q : Nat} {i : Int32} (hd : decode X.2.1.2.2.1 pc = .ok (.aaload, 1)) (hs : sh[o]? = some (.inr (4, n))) (hin : vp_in i n) (hq : aR M o i.toNatClampNeg = some q)
    (k : Wp X kc ks (pc + 1) lv (.ref q :: st) sh M) : Wp X kc ks pc lv (.int i :: .ref o :: st) sh M := by
  intro p e R s m args below meth c H locs ad0 ad ls C ⟨hl, hw, hS, ov, os, ha, hn⟩
  refine va_aldq C.1.1 C.1.2.1 C.2.2.2.1.1 hw.1 o 4 (wsOf_get hs) rfl hin hd ?_
  simp only [hq]
  exact k _ _ _ _ _ _ _ _ _ _ _ _ _ _ C ⟨hl, hw, hS, ov, oks_cons.mpr ⟨hw.2.2.2 _ _ _ hq, oks_t2 os⟩, ha, hn⟩
theorem wp_iastore {o n : Nat} {i x : Int32} (hd : decode X.2.1.2.2.1 pc = .ok (.iastore, 1)) (hs : sh[o]? = some (.inr (1, n))) (hin : vp_in i n)
    (k : Wp X kc ks (pc + 1) lv st sh (sA M o i.toNatClampNeg x)) : Wp X kc ks pc lv (.int x :: .int i :: .ref o :: st) sh M := by
  intro p e R s m args below meth c H locs ad0 ad ls C ⟨hl, hw, hS, ov, os, ha, hn⟩
  refine va_iast C.1.1 C.1.2.1 C.2.2.2.1.1 hw.1 hw.2.1 hS o 1 (wsOf_get hs) rfl hin hd (fun H1 locs1 hP hD hS1 => ?_)
  rw [wsOf_set hs (M' := sA M o i.toNatClampNeg x) (by simp only [cellOf, rowI_sA]; rfl) (fun k s' hk' => cellOf_sA k s' hk')] at hP hD
  exact k _ _ _ _ _ _ _ _ _ _ _ _ _ _ C ⟨hl, ⟨hP, hD, hw.2.2⟩, hS1, ov, oks_t3 os, ha, hn⟩
theorem wp_bastore {o n : Nat} {i x : Int32} (hd : decode X.2.1.2.2.1 pc = .ok (.bastore, 1)) (hs : sh[o]? = some (.inr (0, n))) (hin : vp_in i n)
    (k : Wp X kc ks (pc + 1) lv st sh (sA M o i.toNatClampNeg (vp_nar .byte x))) : Wp X kc ks pc lv (.int x :: .int i :: .ref o :: st) sh M := by
  intro p e R s m args below meth c H locs ad0 ad ls C ⟨hl, hw, hS, ov, os, ha, hn⟩
  refine va_bast C.1.1 C.1.2.1 C.2.2.2.1.1 hw.1 hw.2.1 hS o 0 (wsOf_get hs) rfl hin hd (fun H1 locs1 hP hD hS1 => ?_)
  rw [wsOf_set hs (M' := sA M o i.toNatClampNeg (vp_nar .byte x)) (by simp only [cellOf, rowI_sA]; rfl) (fun k s' hk' => cellOf_sA k s' hk')] at hP hD
  exact k _ _ _ _ _ _ _ _ _ _ _ _ _ _ C ⟨hl, ⟨hP, hD, hw.2.2⟩, hS1, ov, oks_t3 os, ha, hn⟩
theorem wp_zastore {o n : Nat} {i x : Int32} (hd : decode X.2.1.2.2.1 pc = .ok (.bastore, 1)) (hs : sh[o]? = some (.inr (3, n))) (hin : vp_in i n)
    (k : Wp X kc ks (pc + 1) lv st sh (sA M o i.toNatClampNeg (vp_nar .boolean x))) : Wp X kc ks pc lv (.int x :: .int i :: .ref o :: st) sh M := by
  intro p e R s m args below meth c H locs ad0 ad ls C ⟨hl, hw, hS, ov, os, ha, hn⟩
  refine va_zast C.1.1 C.1.2.1 C.2.2.2.1.1 hw.1 hw.2.1 hS o 3 (wsOf_get hs) rfl hin hd (fun H1 locs1 hP hD hS1 => ?_)
  rw [wsOf_set hs (M' := sA M o i.toNatClampNeg (vp_nar .boolean x)) (by simp only [cellOf, rowI_sA]; rfl) (fun k s' hk' => cellOf_sA k s' hk')] at hP hD
  exact k _ _ _ _ _ _ _ _ _ _ _ _ _ _ C ⟨hl, ⟨hP, hD, hw.2.2⟩, hS1, ov, oks_t3 os, ha, hn⟩
theorem wp_lastore {o n : Nat} {i : Int32} {x : Int64} (hd : decode X.2.1.2.2.1 pc = .ok (.lastore, 1)) (hs : sh[o]? = some (.inr (2, n))) (hin : vp_in i n)
    (k : Wp X kc ks (pc + 1) lv st sh (sL M o i.toNatClampNeg x)) : Wp X kc ks pc lv (.long x :: .int i :: .ref o :: st) sh M := by
  intro p e R s m args below meth c H locs ad0 ad ls C ⟨hl, hw, hS, ov, os, ha, hn⟩
  refine va_last C.1.1 C.1.2.1 C.2.2.2.1.1 hw.1 hw.2.1 hS o 2 (wsOf_get hs) rfl hin hd (fun H1 locs1 hP hD hS1 => ?_)
  rw [wsOf_set hs (M' := sL M o i.toNatClampNeg x) (by simp only [cellOf, rowL_sL]; rfl) (fun k s' hk' => cellOf_sL k s' hk')] at hP hD
  exact k _ _ _ _ _ _ _ _ _ _ _ _ _ _ C ⟨hl, ⟨hP, hD, hw.2.2⟩, hS1, ov, oks_t3 os, ha, hn⟩
theorem wp_alen {o n t : Nat} (hd : decode X.2.1.2.2.1 pc = .ok (.arraylength, 1)) (hs : sh[o]? = some (.inr (t, n))) (ht : t < 5)
    (k : Wp X kc ks (pc + 1) lv (.int n.toInt32 :: st) sh M) : Wp X kc ks pc lv (.ref o :: st) sh M := by
  intro p e R s m args below meth c H locs ad0 ad ls C ⟨hl, hw, hS, ov, os, ha, hn⟩
  have kk := k _ e _ _ _ _ below _ _ _ _ _ _ _ C ⟨hl, hw, hS, ov, oks_i (oks_t os), ha, hn⟩
  match t, ht, hs with
  | 0, _, hs => exact va_alen C.1.1 C.1.2.1 C.2.2.2.1.1 hw.1 o 0 (wsOf_get hs) rfl rfl hd kk
  | 1, _, hs => exact va_alen C.1.1 C.1.2.1 C.2.2.2.1.1 hw.1 o 1 (wsOf_get hs) rfl rfl hd kk
  | 2, _, hs => exact va_alen C.1.1 C.1.2.1 C.2.2.2.1.1 hw.1 o 2 (wsOf_get hs) rfl rfl hd kk
  | 3, _, hs => exact va_alen C.1.1 C.1.2.1 C.2.2.2.1.1 hw.1 o 3 (wsOf_get hs) rfl rfl hd kk
  | 4, _, hs => exact va_alen C.1.1 C.1.2.1 C.2.2.2.1.1 hw.1 o 4 (wsOf_get hs) rfl rfl hd kk
end WPM
end
section
/-! ===== contracts and calls ===== -/
theorem metOfW {l : Launch} {y : MethodName} {ws ws' : List Cond} {rm : Room} {Pc : Array Value → State → Prop} {Qc : Array Value → State → Outcome → State → Prop} {mc ms : Nat} {free : Addr → Prop} {cc : ByteArray} {maxL : Nat} {ret : Option FieldType}
    (hy : plainFor y = true) (hw : ws = Cond.code y cc maxL ret :: ws')
    (body : ∀ p e s m args below meth c s₁, BodyLoose p l y (headSpec ws rm) cc maxL ret e s m args below meth c s₁ → c.maxLocals = maxL → Pc args s →
      W p l e (headSpec ws rm).room s m args below meth c s.heap [] 0 0 (MQ below Qc args s mc ms free) (entryFrame m args maxL)) : Met l y ws rm Pc Qc mc ms free := by
  refine MetFree.of_bodySF (code := cc) (maxLocals := maxL) (ret := ret) hy ?_ ?_
  · intro args s m h hn
    obtain ⟨meth, c, h1, h2, h3, h4, h5, h6, -, -⟩ := Cond.code_spec hn (atoms_spec (ws := ws) h _ (by rw [hw]; exact List.mem_cons_self))
    exact ⟨meth, c, h1, h2, h3, h4, h5, h6⟩
  · intro p e s m args below meth c s₁ B hml hP _
    have hh0 : s₁.heap = s.heap := by rw [B.state]; rfl
    obtain ⟨t, a1, o, b1, b2, b3⟩ := body p e s m args below meth c s₁ B hml hP s₁ hh0 (Stand.of_body B)
    exact ⟨t, o, a1, b1, b2, ⟨b3.1, b3.2⟩⟩
abbrev PT : Type := Option Value → List Sh → Mem → Prop
def rmD (d mc ms : Nat) : Room := { frames := d, cells := mc, slots := ms, locals := 40 * d }
def mPc (E : GE) (ad : Nat → Nat) (args : List Value) (sh : List Sh) (M : Mem) : Array Value → State → Prop := fun a U => a = (args.map (cv ad)).toArray ∧ oks sh.length args ∧ Wd E ad sh M U.heap ∧ KW E U
def mQ (E : GE) (ad0 : Nat → Nat) (n0 : Nat) (Post : PT) : Array Value → State → Outcome → State → Prop := fun _ st o t =>
  (∃ (v : Option Value) (sh : List Sh) (M : Mem) (ad : Nat → Nat), o = .returned (v.map (cv ad)) ∧ Post v sh M ∧ (∀ k, okp n0 k → ad k = ad0 k) ∧ n0 ≤ sh.length ∧ oks sh.length v.toList ∧ Wd E ad sh M t.heap) ∧ va_F (inA E.2.2.2) st t
def mQQ (E : GE) (mc ms n0 : Nat) (Post : PT) : QT := fun below args s ad0 => MQ below (mQ E ad0 n0 Post) args s mc ms (inA E.2.2.2)
/-- the contract of method m at these arguments and this memory -/
def Sp (E : GE) (m : MM) (d mc ms : Nat) (args : List Value) (sh : List Sh) (M : Mem) (Post : PT) : Prop :=
  ∀ ad : Nat → Nat, Met E.1 m.1 (cdW m :: BIG) (rmD d mc ms) (mPc E ad args sh M) (mQ E ad sh.length Post) mc ms (inA E.2.2.2)
abbrev xM (E : GE) (m : MM) (d mc ms n0 : Nat) (Post : PT) : MX := (E, m, d, mc, ms, n0, [], mQQ E mc ms n0 Post)
theorem lv_args_c (ad : Nat → Nat) (args : List Value) : ∀ i, lv_args i (args.map (cv ad)) = clv ad (lv_args i args) := by
  induction args with
  | nil => intro i; rfl
  | cons v vs ih => intro i; simp only [List.map_cons, lv_args, clv, cv_cat]; rw [ih]; rfl
theorem lg_sl_c (ad : Nat → Nat) (args : List Value) : (lg_sl (args.map (cv ad))).length = (lg_sl args).length := by
  induction args with
  | nil => rfl
  | cons v vs ih =>
    simp only [lg_sl, List.map_cons, List.flatMap_cons, List.length_append] at ih ⊢
    rw [ih, cv_cat]
    by_cases h : v.category = 2 <;> simp [h]
theorem oklv_args {n : Nat} {args : List Value} (h : oks n args) : ∀ i, oklv n (lv_args i args) := by
  induction args with
  | nil => intro i q hq; cases hq
  | cons v vs ih =>
    intro i q hq
    rcases List.mem_cons.mp hq with rfl | hq
    · exact (oks_cons.mp h).1
    · exact ih (oks_t h) _ q hq
theorem sp_of {E : GE} {m : MM} {n d mc ms : Nat} {args : List Value} {sh : List Sh} {M : Mem} {Post : PT} (hm : MC m n) (ho : m.1.cls = m.2.1) (hlen : (lg_sl args).length ≤ m.2.2.2.1)
    (h : Wp (xM E m d mc ms sh.length Post) 0 0 0 (lv_args 0 args) [] sh M) : Sp E m d mc ms args sh M Post := by
  intro ad
  refine metOfW (cc := m.2.2.1) (maxL := m.2.2.2.1) (ret := m.2.2.2.2) hm.2.2.2 rfl ?_
  intro p e s m' args' below meth c s₁ B hml hP
  obtain ⟨rfl, hok, hw, hK⟩ := hP
  have hts : ∀ w ∈ cdW m :: BIG, w.before (args.map (cv ad)).toArray s = true := atoms_spec (ws := cdW m :: BIG) B.pre
  have hcd : (Cond.code m.1 m.2.2.1 m.2.2.2.1 m.2.2.2.2).before (args.map (cv ad)).toArray s = true := hts _ List.mem_cons_self
  have hown : s.vm.findClass m.1.cls = some m'.cls := findClass_of_methodNamed B.named
  rw [ho] at hown
  have hen := lv_entry (args.map (cv ad)) (n := m.2.2.2.1) (by rw [lg_sl_c]; exact hlen)
  rw [lg_entry_eq]
  rw [lv_args_c] at hen
  have het : c.exceptionTable.toList = [] := by
    have := BodyLoose.noHandlers B hcd
    cases hq : c.exceptionTable with
    | mk l => rw [hq] at this; simpa using this
  exact h p e _ s m' _ below meth c s.heap [] ad ad _ ⟨⟨B.exec, B.bytes, hml, hown, fun w hw => hts w (List.mem_cons_of_mem _ hw)⟩, B.notSynchronized, B.returns, hK, Nat.le_refl _, Nat.le_refl _, rfl, rfl, het, (name_of_methodNamed B.named B.method).1⟩
    ⟨hen, hw, va_S.rf, oklv_args hok 0, oks_nil _, fun _ _ => rfl, Nat.le_refl _⟩
section WPC
variable {X : MX} {kc ks pc : Nat} {lv : LV} {rest : List Value} {sh : List Sh} {M : Mem}
theorem wp_run {p : Program} {e : Env} {R : Room} {s : State} {m : MethodId} {args : Array Value} {below : List Frame} {meth : Method} {c : Code} {H : Heap} {locs : List Loc} {ad0 ad : Nat → Nat} {ls : Array Slot} {st0 st : List Value} {mc' ms' : Nat} {a : Array Value} {Post : PT}
    (C : Cx X p R s m args meth c) (D : Dy X s ad0 lv st sh M H locs ad ls) (hok : oks sh.length rest)
    (hr : va_Run p X.1.1 e R s m args below meth c H locs kc ks mc' ms' (F0 m pc ls st0) (rest.map (cv ad)) (mQ X.1 ad sh.length Post a) (inA X.1.2.2.2))
    (k : ∀ (v : Option Value) (sh' : List Sh) (M' : Mem), Post v sh' M' → Wp X (kc + mc') (ks + ms') (pc + 3) lv (v.toList ++ rest) sh' M') :
    W p X.1.1 e R s m args below meth c H locs kc ks (X.2.2.2.2.2.2.2 below args s ad0) (F0 m pc ls st0) := by
  obtain ⟨hl, hw, hS, ov, -, ha, hn⟩ := D
  intro T hT XX
  obtain ⟨v, st₀, t, T', L, h0, X', hL, e1, e2, hq, stp⟩ := hr T hT XX
  obtain ⟨⟨v', sh', M', ad', hv, hp, hag, hn', hov, hw'⟩, hF⟩ := hq
  have hv : v = v'.map (cv ad') := by injection hv
  have hlv : clv ad' lv = clv ad lv := clv_eq hag ov
  have hst : (v'.toList ++ rest).map (cv ad') = v.toList ++ rest.map (cv ad) := by
    rw [List.map_append, cvs_eq hag hok, hv]
    cases v' <;> rfl
  have D' : Dy X s ad0 lv (v'.toList ++ rest) sh' M' T'.heap (locs ++ L) ad' ls := by
    refine ⟨by rw [hlv]; exact hl, by rw [e1]; exact hw', ?_, fun q hq => okv_mono hn' (ov q hq), ?_, fun q hq => ?_, Nat.le_trans hn hn'⟩
    · refine ⟨?_, ?_, ?_⟩
      · rw [e1]
        refine Nat.le_trans hS.1 ?_
        rw [← h0]
        exact hF.1
      · intro q h1 h2
        rw [e1, ← hS.2.1 q h1 h2, ← h0]
        refine hF.2 q ?_ h2
        rw [h0]
        exact Nat.lt_of_lt_of_le h1 hS.1
      · intro q hq
        rcases List.mem_append.mp hq with h | h
        · exact hS.2.2 q h
        · exact hL q h
    · intro w hw
      rcases List.mem_append.mp hw with h | h
      · exact hov w h
      · exact okv_mono hn' (hok w h)
    · rw [hag q (okp_mono hn hq), ha q hq]
  obtain ⟨tf, a1, b1⟩ := k v' sh' M' hp p e R s m args below meth c T'.heap (locs ++ L) ad0 ad' ls C D' T' rfl X'
  refine ⟨tf, stp tf ?_, b1⟩
  rw [hst] at a1
  exact a1
theorem room_ok {X : MX} {R : Room} {d' mc' ms' maxL : Nat} (h1 : X.2.2.1 ≤ R.frames) (h2 : 40 * X.2.2.1 ≤ R.locals) (hd : d' + 1 ≤ X.2.2.1) (hm : maxL ≤ 21) : (rmD d' mc' ms').frames + 1 ≤ R.frames ∧ 8 + (maxL + 11) + (rmD d' mc' ms').locals ≤ R.locals := by
  simp only [rmD]
  omega
theorem cats_c (ad : Nat → Nat) (l : List Value) : ((l.map (cv ad)).map fun v => v.category) = l.map fun v => v.category := by
  rw [List.map_map]
  exact List.map_congr_left fun v _ => cv_cat ad v
theorem oks_app {n : Nat} {a b : List Value} : oks n (a ++ b) ↔ oks n a ∧ oks n b := by simp only [oks, List.forall_mem_append]
theorem oks_rev {n : Nat} {a : List Value} : oks n a.reverse ↔ oks n a := by simp only [oks, List.mem_reverse]
theorem good_big : GoodIn BIG BIG := fun _ h => big_good h
theorem good_cons {w : Cond} {l : List Cond} (h : w ∈ BIG) (t : GoodIn BIG l) : GoodIn BIG (w :: l) := fun v hv => by
  rcases List.mem_cons.mp hv with rfl | hv
  · exact big_good h
  · exact t v hv
/-- an object's place: its class by name -/
def isO (sh : List Sh) (o : Nat) (C : String) : Prop := ∃ (ci : Nat) (q : vw_C), sh[o]? = some (.inl ci) ∧ clsL[ci]? = some q ∧ q.1 = C
theorem wp_callV {idx n b d' mc' ms' : Nat} {m' : MM} {As : List Value} {Post : PT} (hd : decode X.2.1.2.2.1 pc = .ok (.invokevirtual idx, 3)) (hl : Cond.methodLink X.2.1.2.1 idx m'.1 ∈ BIG) (hv : MV m' n) (hn : As.length = n)
    (hb : isO sh b m'.1.cls) (hs : Sp X.1 m' d' mc' ms' (.ref b :: As) sh M Post) (hdd : d' + 1 ≤ X.2.2.1) (hmx : m'.2.2.2.1 ≤ 21) (hW : (rest.map fun v => v.category).sum ≤ 8) (hc1 : kc + mc' ≤ X.2.2.2.1) (hc2 : ks + ms' ≤ X.2.2.2.2.1)
    (k : ∀ (v : Option Value) (sh' : List Sh) (M' : Mem), Post v sh' M' → Wp X (kc + mc') (ks + ms') (pc + 3) lv (v.toList ++ rest) sh' M') :
    Wp X kc ks pc lv (As.reverse ++ .ref b :: rest) sh M := by
  intro p e R s m args below meth c H locs ad0 ad ls C D
  obtain ⟨hl0, hw, hS, ov, os, ha, hnn⟩ := id D
  have oA : oks sh.length As := oks_rev.mp (oks_app.mp os).1
  have oB := oks_cons.mp (oks_app.mp os).2
  obtain ⟨ci, q, hb1, hb2, hb3⟩ := hb
  have hrec := va_recv C.2.2.2.1.1 hw.1 hb2 (wsOf_get hb1)
  rw [hb3] at hrec
  refine wp_run (Post := Post) (st := As.reverse ++ .ref b :: rest) C D oB.2
    (va_runV (C := m'.1.cls) (As := As.map (cv ad)) (rest := rest.map (cv ad)) C.1 (hs ad)
      (cwV n C.1.2.2.2.2 (good_cons hl (good_cons hv.2.1 (good_cons hv.2.2 (good_cons hv.1.2.1 (good_cons hv.1.1 good_big))))) rfl rfl rfl ⟨rfl, hv.1.2.2.1.1, hv.1.2.2.1.2.1, hv.1.2.2.1.2.2⟩ (room_ok C.2.2.2.2.1 C.2.2.2.2.2.1 hdd hmx))
      ⟨fun a U g mk hq => ?_, hrec, fun U hU hWm => ⟨rfl, oks_cons.mpr ⟨oB.1, oA⟩, by rw [hU]; exact hw, KW.go C.2.2.2.1 hS hU hWm⟩⟩
      rfl (by rw [List.length_map]; exact hn) hl0.1 (by simp [cv]) (lv_room (by rw [cats_c]; exact hW)) hd ⟨by rw [C.2.2.2.2.2.2.1]; exact hc1, by rw [C.2.2.2.2.2.2.2.1]; exact hc2⟩) k
  obtain ⟨q1, q2, q3, q4⟩ := hq
  exact ⟨q1, q2, q3, KW.go (U := U.calling g mk a) (H := U.heap) (locs := []) q4 va_S.rf rfl (State.WarmedH.refl U)⟩
end WPC
end
section
/-! ===== further calls, returns, making ===== -/
theorem blind_mPc (E : GE) (ad : Nat → Nat) (args : List Value) (sh : List Sh) (M : Mem) : FrameBlind (mPc E ad args sh M) := fun a U g mk hq => by
  obtain ⟨q1, q2, q3, q4⟩ := hq
  exact ⟨q1, q2, q3, KW.go (U := U.calling g mk a) (H := U.heap) (locs := []) q4 va_S.rf rfl (State.WarmedH.refl U)⟩
section WPD
variable {X : MX} {kc ks pc : Nat} {lv : LV} {st rest : List Value} {sh : List Sh} {M : Mem}
theorem wp_callS {idx n d' mc' ms' : Nat} {m' : MM} {As : List Value} {Post : PT} (hd : decode X.2.1.2.2.1 pc = .ok (.invokestatic idx, 3)) (hl : Cond.methodLink X.2.1.2.1 idx m'.1 ∈ BIG) (hv : MS m' n) (hn : As.length = n)
    (hs : Sp X.1 m' d' mc' ms' As sh M Post) (hdd : d' + 1 ≤ X.2.2.1) (hmx : m'.2.2.2.1 ≤ 21) (hW : (rest.map fun v => v.category).sum ≤ 8) (hc1 : kc + mc' ≤ X.2.2.2.1) (hc2 : ks + ms' ≤ X.2.2.2.2.1)
    (k : ∀ (v : Option Value) (sh' : List Sh) (M' : Mem), Post v sh' M' → Wp X (kc + mc') (ks + ms') (pc + 3) lv (v.toList ++ rest) sh' M') :
    Wp X kc ks pc lv (As.reverse ++ rest) sh M := by
  intro p e R s m args below meth c H locs ad0 ad ls C D
  obtain ⟨hl0, hw, hS, ov, os, ha, hnn⟩ := id D
  have oA : oks sh.length As := oks_rev.mp (oks_app.mp os).1
  have oB := (oks_app.mp os).2
  refine wp_run (Post := Post) (st := As.reverse ++ rest) C D oB
    (va_runS (As := As.map (cv ad)) (rest := rest.map (cv ad)) C.1 (hs ad)
      (va_cwS n C.1.2.2.2.2 (good_cons hl (good_cons hv.2 (good_cons hv.1.2.1 (good_cons hv.1.1 good_big)))) rfl rfl rfl ⟨hv.1.2.2.1.1, hv.1.2.2.1.2.1, hv.1.2.2.1.2.2⟩ (room_ok C.2.2.2.2.1 C.2.2.2.2.2.1 hdd hmx))
      ⟨blind_mPc _ _ _ _ _, fun U hU hWm => ⟨rfl, oA, by rw [hU]; exact hw, KW.go C.2.2.2.1 hS hU hWm⟩⟩
      rfl (by rw [List.length_map]; exact hn) hl0.1 (by simp) (lv_room (by rw [cats_c]; exact hW)) hd ⟨by rw [C.2.2.2.2.2.2.1]; exact hc1, by rw [C.2.2.2.2.2.2.2.1]; exact hc2⟩) k
theorem wp_callI {idx n b d' mc' ms' : Nat} {m' : MM} {As : List Value} {Post : PT} (hd : decode X.2.1.2.2.1 pc = .ok (.invokespecial idx, 3)) (hl : Cond.methodLink X.2.1.2.1 idx m'.1 ∈ BIG) (hv : MI m' n) (hn : As.length = n)
    (hs : Sp X.1 m' d' mc' ms' (.ref b :: As) sh M Post) (hdd : d' + 1 ≤ X.2.2.1) (hmx : m'.2.2.2.1 ≤ 21) (hW : (rest.map fun v => v.category).sum ≤ 8) (hc1 : kc + mc' ≤ X.2.2.2.1) (hc2 : ks + ms' ≤ X.2.2.2.2.1)
    (k : ∀ (v : Option Value) (sh' : List Sh) (M' : Mem), Post v sh' M' → Wp X (kc + mc') (ks + ms') (pc + 3) lv (v.toList ++ rest) sh' M') :
    Wp X kc ks pc lv (As.reverse ++ .ref b :: rest) sh M := by
  intro p e R s m args below meth c H locs ad0 ad ls C D
  obtain ⟨hl0, hw, hS, ov, os, ha, hnn⟩ := id D
  obtain ⟨my, mo, mcc, mL, mr⟩ := m'
  obtain ⟨⟨v1, v2, v3, v4⟩, v5, v6, v7⟩ := hv
  have v7 : mr = none := v7
  subst v7
  have oA : oks sh.length As := oks_rev.mp (oks_app.mp os).1
  have oB := oks_cons.mp (oks_app.mp os).2
  refine wp_run (Post := Post) (st := As.reverse ++ .ref b :: rest) C D oB.2
    (va_runI (As := As.map (cv ad)) (rest := rest.map (cv ad)) C.1 (hs ad)
      (cwI n C.1.2.2.2.2 (good_cons v1 good_big) rfl rfl rfl (C.1.2.2.2.2 _ v2) (C.1.2.2.2.2 _ hl) (C.1.2.2.2.2 _ v5) v6 ⟨v3.1, v3.2.1, v3.2.2⟩ (room_ok C.2.2.2.2.1 C.2.2.2.2.2.1 hdd hmx))
      ⟨blind_mPc _ _ _ _ _, fun U hU hWm => ⟨rfl, oks_cons.mpr ⟨oB.1, oA⟩, by rw [hU]; exact hw, KW.go C.2.2.2.1 hS hU hWm⟩⟩
      rfl (by rw [List.length_map]; exact hn) hl0.1 (by simp [cv]) (lv_room (by rw [cats_c]; exact hW)) hd ⟨by rw [C.2.2.2.2.2.2.1]; exact hc1, by rw [C.2.2.2.2.2.2.2.1]; exact hc2⟩) k
theorem wp_callIN {idx n b d' mc' ms' : Nat} {m' : MM} {As : List Value} {Post : PT} (hd : decode X.2.1.2.2.1 pc = .ok (.invokespecial idx, 3)) (hl : (X.2.1.2.1, idx, m'.1) ∈ nestL) (hv : MI m' n) (hn : As.length = n)
    (hs : Sp X.1 m' d' mc' ms' (.ref b :: As) sh M Post) (hdd : d' + 1 ≤ X.2.2.1) (hmx : m'.2.2.2.1 ≤ 21) (hW : (rest.map fun v => v.category).sum ≤ 8) (hc1 : kc + mc' ≤ X.2.2.2.1) (hc2 : ks + ms' ≤ X.2.2.2.2.1)
    (k : ∀ (v : Option Value) (sh' : List Sh) (M' : Mem), Post v sh' M' → Wp X (kc + mc') (ks + ms') (pc + 3) lv (v.toList ++ rest) sh' M') :
    Wp X kc ks pc lv (As.reverse ++ .ref b :: rest) sh M := by
  intro p e R s m args below meth c H locs ad0 ad ls C D
  obtain ⟨hl0, hw, hS, ov, os, ha, hnn⟩ := id D
  obtain ⟨my, mo, mcc, mL, mr⟩ := m'
  obtain ⟨⟨v1, v2, v3, v4⟩, v5, v6, v7⟩ := hv
  have v7 : mr = none := v7
  subst v7
  have oA : oks sh.length As := oks_rev.mp (oks_app.mp os).1
  have oB := oks_cons.mp (oks_app.mp os).2
  refine wp_run (Post := Post) (st := As.reverse ++ .ref b :: rest) C D oB.2
    (va_runIN (As := As.map (cv ad)) (rest := rest.map (cv ad)) C.1 (hs ad)
      ⟨va_cnB n C.1.2.2.2.2 (good_cons v1 good_big) rfl rfl rfl (C.2.2.2.1.2.2.1 _ hl) (C.1.2.2.2.2 _ v2) ⟨v3.1, v3.2.1, v3.2.2⟩ (room_ok C.2.2.2.2.1 C.2.2.2.2.2.1 hdd hmx), v6, C.1.2.2.2.2 _ v5⟩
      ⟨blind_mPc _ _ _ _ _, fun U hU hWm => ⟨rfl, oks_cons.mpr ⟨oB.1, oA⟩, by rw [hU]; exact hw, KW.go C.2.2.2.1 hS hU hWm⟩⟩
      rfl (by rw [List.length_map]; exact hn) hl0.1 (by simp [cv]) (lv_room (by rw [cats_c]; exact hW)) hd ⟨by rw [C.2.2.2.2.2.2.1]; exact hc1, by rw [C.2.2.2.2.2.2.2.1]; exact hc2⟩) k
/-! ### returns -/
end WPD
section WPR
variable {E : GE} {mm : MM} {d mc ms n0 : Nat} {Post : PT} {kc ks pc : Nat} {lv : LV} {sh : List Sh} {M : Mem}
theorem wp_ret0 (hd : decode mm.2.2.1 pc = .ok (.return_, 1)) (hr : mm.2.2.2.2 = none) (hc : kc ≤ mc) (hs : ks ≤ ms) (hp : Post none sh M) : Wp (xM E mm d mc ms n0 Post) kc ks pc lv [] sh M := by
  intro p e R s m args below meth c H locs ad0 ad ls C ⟨hl, hw, hS, ov, os, ha, hn⟩
  refine W.widen hc hs ?_
  exact W.vret (free := inA E.2.2.2) C.1.1 C.1.2.1 (C.2.2.1.trans hr) (fun t ht hW => ⟨⟨none, sh, M, ad, rfl, hp, ha, hn, oks_nil _, by rw [ht]; exact hw⟩, hS.F ht⟩) hS.2.2 hd C.2.1
theorem wp_ireturn {x : Int32} {ty : FieldType} (hd : decode mm.2.2.1 pc = .ok (.ireturn, 1)) (hr : mm.2.2.2.2 = some ty) (hx : narrow ty (.int x) = .int x) (hc : kc ≤ mc) (hs : ks ≤ ms) (hp : Post (some (.int x)) sh M) : Wp (xM E mm d mc ms n0 Post) kc ks pc lv [.int x] sh M := by
  intro p e R s m args below meth c H locs ad0 ad ls C ⟨hl, hw, hS, ov, os, ha, hn⟩
  refine W.widen hc hs ?_
  exact W.zret (free := inA E.2.2.2) C.1.1 C.1.2.1 (C.2.2.1.trans hr) hx (fun t ht hW => ⟨⟨some (.int x), sh, M, ad, rfl, hp, ha, hn, os, by rw [ht]; exact hw⟩, hS.F ht⟩) hS.2.2 hd C.2.1
theorem wp_lreturn {x : Int64} (hd : decode mm.2.2.1 pc = .ok (.lreturn, 1)) (hr : mm.2.2.2.2 = some .long) (hc : kc ≤ mc) (hs : ks ≤ ms) (hp : Post (some (.long x)) sh M) : Wp (xM E mm d mc ms n0 Post) kc ks pc lv [.long x] sh M := by
  intro p e R s m args below meth c H locs ad0 ad ls C ⟨hl, hw, hS, ov, os, ha, hn⟩
  refine W.widen hc hs ?_
  exact W.lret (free := inA E.2.2.2) C.1.1 C.1.2.1 (C.2.2.1.trans hr) (fun t ht hW => ⟨⟨some (.long x), sh, M, ad, rfl, hp, ha, hn, os, by rw [ht]; exact hw⟩, hS.F ht⟩) hS.2.2 hd C.2.1
theorem wp_areturn {x : Nat} {nm : String} (hd : decode mm.2.2.1 pc = .ok (.areturn, 1)) (hr : mm.2.2.2.2 = some (.object nm)) (hc : kc ≤ mc) (hs : ks ≤ ms) (hp : Post (some (.ref x)) sh M) : Wp (xM E mm d mc ms n0 Post) kc ks pc lv [.ref x] sh M := by
  intro p e R s m args below meth c H locs ad0 ad ls C ⟨hl, hw, hS, ov, os, ha, hn⟩
  refine W.widen hc hs ?_
  exact W.aret (free := inA E.2.2.2) C.1.1 C.1.2.1 (C.2.2.1.trans hr) (Or.inl ⟨nm, rfl⟩) (Or.inr ⟨ad x, rfl⟩) (fun t ht hW => ⟨⟨some (.ref x), sh, M, ad, rfl, hp, ha, hn, os, by rw [ht]; exact hw⟩, hS.F ht⟩) hS.2.2 hd C.2.1
end WPR
end
section
/-! ===== making objects and arrays ===== -/
def cl0 (M : Mem) (n : Nat) : Mem := (fun a b => if a = n then 0 else M.1 a b, fun a b => if a = n then none else M.2.1 a b, fun a b => if a = n then 0 else M.2.2.1 a b, fun a b => if a = n then 0 else M.2.2.2.1 a b, fun a b => if a = n then none else M.2.2.2.2 a b)
theorem fI_cl0 (M : Mem) (n q g : Nat) : fI (cl0 M n) q g = if q = n then 0 else fI M q g := rfl
theorem fR_cl0 (M : Mem) (n q g : Nat) : fR (cl0 M n) q g = if q = n then none else fR M q g := rfl
theorem aI_cl0 (M : Mem) (n q g : Nat) : aI (cl0 M n) q g = if q = n then 0 else aI M q g := rfl
theorem aL_cl0 (M : Mem) (n q g : Nat) : aL (cl0 M n) q g = if q = n then 0 else aL M q g := rfl
theorem aR_cl0 (M : Mem) (n q g : Nat) : aR (cl0 M n) q g = if q = n then none else aR M q g := rfl
theorem Vd_cl0 {n n' : Nat} {M : Mem} (v : Vd n M) : Vd n (cl0 M n') := by
  refine ⟨fun p f k e => ?_, fun p f k e => ?_⟩
  · rw [fR_cl0] at e
    split at e
    · cases e
    · exact v.1 p f k e
  · rw [aR_cl0] at e
    split at e
    · cases e
    · exact v.2 p f k e
def adP (ad : Nat → Nat) (n q : Nat) : Nat → Nat := fun k => if k = n then q else ad k
theorem adP_self (ad : Nat → Nat) (n q : Nat) : adP ad n q n = q := if_pos rfl
theorem adP_ok {ad : Nat → Nat} {n q k : Nat} (hn : n < 1000000) (h : okp n k) : adP ad n q k = ad k := if_neg (by unfold okp at h; omega)
theorem map_adP {ad : Nat → Nat} {n q : Nat} {o : Option Nat} (hn : n < 1000000) (h : ∀ k, o = some k → okp n k) : o.map (adP ad n q) = o.map ad := by
  cases o with
  | none => rfl
  | some k => exact congrArg some (adP_ok hn (h k rfl))
theorem cellOf_push {cy : Nat → ClassId} {ad : Nat → Nat} {n q : Nat} {M : Mem} (hv : Vd n M) (hn : n < 1000000) (k : Nat) (s : Sh) (hk : k ≠ n) : cellOf cy (adP ad n q) (cl0 M n) k s = cellOf cy ad M k s := by
  cases s with
  | inl c =>
    simp only [cellOf, cellFs, fI_cl0, fR_cl0, hk, if_false]
    congr 3
    funext j b
    rw [map_adP hn (fun k' e => hv.1 _ _ _ e)]
  | inr t =>
    have e1 : aL (cl0 M n) k = aL M k := by funext j; simp [aL_cl0, hk]
    have e2 : aI (cl0 M n) k = aI M k := by funext j; simp [aI_cl0, hk]
    have e3 : (fun i => (aR (cl0 M n) k i).map (adP ad n q)) = fun i => (aR M k i).map ad := by
      funext j
      simp only [aR_cl0, hk, if_false]
      exact map_adP hn (fun k' e => hv.2 _ _ _ e)
    simp only [cellOf, e1, e2, e3]
theorem wsOf_push {cy : Nat → ClassId} {ad : Nat → Nat} {sh : List Sh} {q : Nat} {M : Mem} {s : Sh} (hv : Vd sh.length M) (hn : sh.length < 1000000) :
    wsOf cy ad sh M ++ [(q, cellOf cy (adP ad sh.length q) (cl0 M sh.length) sh.length s)] = wsOf cy (adP ad sh.length q) (sh ++ [s]) (cl0 M sh.length) := by
  have e1 : wsOf cy (adP ad sh.length q) sh (cl0 M sh.length) = wsOf cy ad sh M := by
    apply List.ext_getElem?
    intro k
    simp only [wsOf, List.getElem?_mapIdx]
    cases hs : sh[k]? with
    | none => rfl
    | some s' =>
      have hk : k < sh.length := (List.getElem?_eq_some_iff.mp hs).1
      simp only [Option.map_some, cellOf_push hv hn k s' (by omega), adP_ok hn (Or.inl hk)]
  unfold wsOf at *
  rw [List.mapIdx_concat, e1, adP_self]
theorem kindOK {ci : Nat} {C : String} {T : u_T} {N : Nat} (h : clsL[ci]? = some (C, T, N)) (ad : Nat → Nat) (M : Mem) (p : Nat) (hz : ∀ f, fI M p f = 0 ∧ fR M p f = none) : ∀ j, j < N → defaultValue (tyL ci j) = vp_V (cellFs ad (fkL ci) M p) j := by
  intro j hj
  have hlen := (clsL_ok h).2.2.2
  obtain ⟨b, hb⟩ : ∃ b, (fkL ci)[j]? = some b := ⟨(fkL ci)[j]'(by omega), List.getElem?_eq_getElem _⟩
  have hd : defaultValue (tyL ci j) = if b then .int 0 else .null := by
    clear hz hlen
    match ci, h, j, hj, hb with
    | 0, h, j, hj, hb => cases h; exact (show ∀ j, j < 8 → ∀ b, (fkL 0)[j]? = some b → defaultValue (tyL 0 j) = if b then .int 0 else .null by decide +kernel) j hj b hb
    | 1, h, j, hj, hb => cases h; exact (show ∀ j, j < 3 → ∀ b, (fkL 1)[j]? = some b → defaultValue (tyL 1 j) = if b then .int 0 else .null by decide +kernel) j hj b hb
    | 2, h, j, hj, hb => cases h; exact (show ∀ j, j < 1 → ∀ b, (fkL 2)[j]? = some b → defaultValue (tyL 2 j) = if b then .int 0 else .null by decide +kernel) j hj b hb
    | 3, h, j, hj, hb => cases h; exact (show ∀ j, j < 8 → ∀ b, (fkL 3)[j]? = some b → defaultValue (tyL 3 j) = if b then .int 0 else .null by decide +kernel) j hj b hb
    | 4, h, j, hj, hb => cases h; exact (show ∀ j, j < 2 → ∀ b, (fkL 4)[j]? = some b → defaultValue (tyL 4 j) = if b then .int 0 else .null by decide +kernel) j hj b hb
    | 5, h, j, hj, hb => cases h; exact (show ∀ j, j < 2 → ∀ b, (fkL 5)[j]? = some b → defaultValue (tyL 5 j) = if b then .int 0 else .null by decide +kernel) j hj b hb
    | 6, h, j, hj, hb => cases h; exact (show ∀ j, j < 2 → ∀ b, (fkL 6)[j]? = some b → defaultValue (tyL 6 j) = if b then .int 0 else .null by decide +kernel) j hj b hb
    | 7, h, j, hj, hb => cases h; exact (show ∀ j, j < 10 → ∀ b, (fkL 7)[j]? = some b → defaultValue (tyL 7 j) = if b then .int 0 else .null by decide +kernel) j hj b hb
    | 8, h, j, hj, hb => cases h; exact (show ∀ j, j < 39 → ∀ b, (fkL 8)[j]? = some b → defaultValue (tyL 8 j) = if b then .int 0 else .null by decide +kernel) j hj b hb
    | k + 9, h, _, _, _ => simp [clsL] at h
  rw [hd]
  cases b with
  | true => simp [vp_V, List.getD, cellFs_I hb, (hz j).1]
  | false => simp [vp_V, List.getD, cellFs_R hb, (hz j).2, va_rf]
section WPN
variable {X : MX} {kc ks pc : Nat} {lv : LV} {st rest : List Value} {sh : List Sh} {M : Mem}
theorem dy_push {s : State} {ad0 : Nat → Nat} {H H1 : Heap} {locs : List Loc} {ad : Nat → Nat} {ls : Array Slot} {q : Nat} {sn : Sh} {st' : List Value} (D : Dy X s ad0 lv st sh M H locs ad ls) (hn : sh.length < 1000000)
    (hP : va_P X.1.2.1 clsL (wsOf X.1.2.2.1 (adP ad sh.length q) (sh ++ [sn]) (cl0 M sh.length)) H1) (hD : va_D (inA X.1.2.2.2) (wsOf X.1.2.2.1 (adP ad sh.length q) (sh ++ [sn]) (cl0 M sh.length))) (hS : va_S (inA X.1.2.2.2) s.heap H1 locs) (hst : oks sh.length st') :
    Dy X s ad0 lv (.ref sh.length :: st') (sh ++ [sn]) (cl0 M sh.length) H1 locs (adP ad sh.length q) ls := by
  obtain ⟨hl, hw, -, ov, os, ha, hnn⟩ := D
  have hle : sh.length ≤ (sh ++ [sn]).length := by simp
  refine ⟨by rw [clv_eq (n := sh.length) (fun k h => adP_ok hn h) ov]; exact hl, ⟨hP, hD, (Vd_cl0 hw.2.2).mono hle⟩, hS, fun q hq => okv_mono hle (ov q hq), oks_cons.mpr ⟨Or.inl (by simp), oks_mono hle hst⟩, fun k hk => ?_, Nat.le_trans hnn hle⟩
  rw [adP_ok hn (okp_mono hnn hk)]
  exact ha k hk
theorem hA_of {X : MX} {p : Program} {R : Room} {s : State} {m : MethodId} {args : Array Value} {meth : Method} {c : Code} (C : Cx X p R s m args meth c) : ∀ q, s.heap.size ≤ q → inA X.1.2.2.2 q := fun q h => Nat.le_trans C.2.2.2.1.2.1 h
theorem wp_new {idx ci N : Nat} {Cn : String} {T : u_T} (hd : decode X.2.1.2.2.1 pc = .ok (.new idx, 3)) (hc : clsL[ci]? = some (Cn, T, N)) (h1 : Cond.classLink X.2.1.2.1 idx Cn ∈ BIG) (h2 : Cond.instantiable Cn N ∈ BIG) (h3 : Cond.initialized Cn ∈ BIG)
    (hn : sh.length < 1000000) (hc1 : kc + 1 ≤ X.2.2.2.1) (hc2 : ks + N ≤ X.2.2.2.2.1)
    (k : Wp X (kc + 1) (ks + N) (pc + 3) lv (.ref sh.length :: st) (sh ++ [.inl ci]) (cl0 M sh.length)) : Wp X kc ks pc lv st sh M := by
  intro p e R s m args below meth c H locs ad0 ad ls C D
  obtain ⟨hl, hw, hS, ov, os, ha, hnn⟩ := id D
  obtain ⟨hlay, hty, hnm, hlen⟩ := clsL_ok hc
  refine va_new (fs := cellFs ad (fkL ci) (cl0 M sh.length) sh.length) C.1.1 C.1.2.1 C.1.2.2.2.2 hlay (tyL ci) hty C.1.2.2.2.1 (C.1.2.2.2.2 _ h1) (C.1.2.2.2.2 _ h2) (C.1.2.2.2.2 _ h3) C.2.2.2.1.1 hw.1 hw.2.1 hS (hA_of C) hc
    (kindOK hc ad _ _ (fun f => by simp [fI_cl0, fR_cl0])) (by rw [C.2.2.2.2.2.2.1]; exact hc1) (by rw [C.2.2.2.2.2.2.2.1]; exact hc2) hd (fun q H1 hP hD hS1 => ?_)
  have e0 : cellFs ad (fkL ci) (cl0 M sh.length) sh.length = cellFs (adP ad sh.length q) (fkL ci) (cl0 M sh.length) sh.length := by
    simp only [cellFs, fR_cl0, if_true, Option.map_none]
  have e1 := wsOf_push (cy := X.1.2.2.1) (ad := ad) (q := q) (s := .inl ci) hw.2.2 hn
  simp only [cellOf, ← e0] at e1
  rw [e1] at hP hD
  have kk := k p e R s m args below meth c H1 locs ad0 (adP ad sh.length q) ls C (dy_push D hn hP hD hS1 os)
  have e2 : (Value.ref sh.length :: st).map (cv (adP ad sh.length q)) = Value.ref q :: st.map (cv ad) := by
    rw [List.map_cons, cvs_eq (n := sh.length) (fun k h => adP_ok hn h) os]
    simp [cv, adP_self]
  rw [e2] at kk
  exact kk
theorem cyArr {cy : Nat → ClassId} {D : va_G} {s : State} (hK : va_K D clsL (tysOf cy) s) {t : Nat} {ty : FieldType} (ht : (tysOf cy)[t]? = some (cy t, ty)) {cA : ClassId} (hA : va_RA s cA ty) : cA = cy t := by
  have h := (hK.2 t _ ht).2
  cases ty <;> first
    | (obtain ⟨_, _, _, _, _, h⟩ := h; obtain ⟨_, _, _, _, _, hA⟩ := hA; exact Option.some.inj (hA.symm.trans h))
    | exact Option.some.inj ((show s.vm.findClass _ = some cA from hA).symm.trans (show s.vm.findClass _ = some (cy t) from h))
theorem wp_newarray {at' : ArrayType} {t N : Nat} {n : Int32} {ty : FieldType} (hd : decode X.2.1.2.2.1 pc = .ok (.newarray at', 2)) (hty : newarray.typeOf at' = ty) (ht : ∀ cy : Nat → ClassId, (tysOf cy)[t]? = some (cy t, ty)) (h1 : Cond.arrayClass (newarray.typeOf at') ∈ BIG)
    (hcell : ∀ (cy : Nat → ClassId) (ad : Nat → Nat) (M : Mem) (p : Nat) (cA : ClassId), (∀ i, aI M p i = 0 ∧ aL M p i = 0) → ∃ a0, cellOf cy ad M p (.inr (t, N)) = .inl (cy t, a0) ∧ vp_cell cA a0 = arrV cA N (fun _ => defaultValue ty)) (ht4 : t ≠ 4)
    (h0 : ¬ n < 0) (hN : n.toNatClampNeg = N) (hby : N * componentBytes ty ≤ 536870912) (hn : sh.length < 1000000) (hc1 : kc + 1 ≤ X.2.2.2.1) (hc2 : ks + N ≤ X.2.2.2.2.1)
    (k : Wp X (kc + 1) (ks + N) (pc + 2) lv (.ref sh.length :: st) (sh ++ [.inr (t, N)]) (cl0 M sh.length)) : Wp X kc ks pc lv (.int n :: st) sh M := by
  intro p e R s m args below meth c H locs ad0 ad ls C D
  obtain ⟨hl, hw, hS, ov, os, ha, hnn⟩ := id D
  have hz : ∀ i, aI (cl0 M sh.length) sh.length i = 0 ∧ aL (cl0 M sh.length) sh.length i = 0 := fun i => by simp [aI_cl0, aL_cl0]
  obtain ⟨a0, ha0, -⟩ := hcell X.1.2.2.1 ad (cl0 M sh.length) sh.length (X.1.2.2.1 t) hz
  refine va_newa (a0 := a0) C.1.1 C.1.2.1 (C.1.2.2.2.2 _ h1) hty C.2.2.2.1.1 hw.1 hw.2.1 hS (hA_of C) (fun cA => ?_) h0 hN hby (by rw [C.2.2.2.2.2.2.1]; exact hc1) (by rw [C.2.2.2.2.2.2.2.1]; exact hc2) hd (fun q cA H1 hK hP hD hS1 => ?_)
  · obtain ⟨a1, h1, h2⟩ := hcell X.1.2.2.1 ad (cl0 M sh.length) sh.length cA hz
    rw [ha0] at h1
    cases h1
    exact h2
  have hcA : cA = X.1.2.2.1 t := cyArr C.2.2.2.1.1 (ht _) (hK.2 (tysOf X.1.2.2.1).length (cA, ty) (by simp)).2
  subst hcA
  have e0 : cellOf X.1.2.2.1 (adP ad sh.length q) (cl0 M sh.length) sh.length (.inr (t, N)) = .inl (X.1.2.2.1 t, a0) := by
    rw [← ha0]
    simp only [cellOf, ht4, if_false]
  have e1 := wsOf_push (cy := X.1.2.2.1) (ad := ad) (q := q) (s := .inr (t, N)) hw.2.2 hn
  rw [e0] at e1
  rw [e1] at hP hD
  have kk := k p e R s m args below meth c H1 locs ad0 (adP ad sh.length q) ls C (dy_push D hn hP hD hS1 (oks_t os))
  have e2 : (Value.ref sh.length :: st).map (cv (adP ad sh.length q)) = Value.ref q :: st.map (cv ad) := by
    rw [List.map_cons, cvs_eq (n := sh.length) (fun k h => adP_ok hn h) (oks_t os)]
    simp [cv, adP_self]
  rw [e2] at kk
  exact kk
theorem wp_anewarray {idx N : Nat} {n : Int32} (hd : decode X.2.1.2.2.1 pc = .ok (.anewarray idx, 3)) (h1 : Cond.classLink X.2.1.2.1 idx "QueryTexts$Clause" ∈ BIG)
    (h0 : ¬ n < 0) (hN : n.toNatClampNeg = N) (hby : N * 4 ≤ 536870912) (hn : sh.length < 1000000) (hc1 : kc + 1 ≤ X.2.2.2.1) (hc2 : ks + N ≤ X.2.2.2.2.1)
    (k : Wp X (kc + 1) (ks + N) (pc + 3) lv (.ref sh.length :: st) (sh ++ [.inr (4, N)]) (cl0 M sh.length)) : Wp X kc ks pc lv (.int n :: st) sh M := by
  intro p e R s m args below meth c H locs ad0 ad ls C D
  obtain ⟨hl, hw, hS, ov, os, ha, hnn⟩ := id D
  refine va_newq C.1.1 C.1.2.1 C.1.2.2.2.1 (C.1.2.2.2.2 _ h1) C.2.2.2.1.2.2.2.1 C.2.2.2.1.1 hw.1 hw.2.1 hS (hA_of C) h0 hN hby (by rw [C.2.2.2.2.2.2.1]; exact hc1) (by rw [C.2.2.2.2.2.2.2.1]; exact hc2) hd (fun q cA H1 hK hP hD hS1 => ?_)
  have hcA : cA = X.1.2.2.1 4 := cyArr C.2.2.2.1.1 rfl (hK.2 (tysOf X.1.2.2.1).length (cA, .object "QueryTexts$Clause") (by simp)).2
  subst hcA
  have e0 : cellOf X.1.2.2.1 (adP ad sh.length q) (cl0 M sh.length) sh.length (.inr (4, N)) = .inl (X.1.2.2.1 4, N, .inr (.inr (.inr (.inr (fun _ => none))))) := by
    simp [cellOf, aR_cl0]
  have e1 := wsOf_push (cy := X.1.2.2.1) (ad := ad) (q := q) (s := .inr (4, N)) hw.2.2 hn
  rw [e0] at e1
  rw [e1] at hP hD
  have kk := k p e R s m args below meth c H1 locs ad0 (adP ad sh.length q) ls C (dy_push D hn hP hD hS1 (oks_t os))
  have e2 : (Value.ref sh.length :: st).map (cv (adP ad sh.length q)) = Value.ref q :: st.map (cv ad) := by
    rw [List.map_cons, cvs_eq (n := sh.length) (fun k h => adP_ok hn h) (oks_t os)]
    simp [cv, adP_self]
  rw [e2] at kk
  exact kk
theorem rowG_sG {M : Mem} {p f : Nat} {x : Option Nat} {ad : Nat → Nat} : (fun i => (aR (sG M p f x) p i).map ad) = va_up (fun i => (aR M p i).map ad) f (x.map ad) := by
  funext j
  by_cases h : j = f <;> simp [aR_sG, va_up, h]
theorem wp_aastore {o n v : Nat} {i : Int32} (hd : decode X.2.1.2.2.1 pc = .ok (.aastore, 1)) (hs : sh[o]? = some (.inr (4, n))) (hv : sh[v]? = some (.inl 0)) (hin : vp_in i n)
    (k : Wp X kc ks (pc + 1) lv st sh (sG M o i.toNatClampNeg (some v))) : Wp X kc ks pc lv (.ref v :: .int i :: .ref o :: st) sh M := by
  intro p e R s m args below meth c H locs ad0 ad ls C ⟨hl, hw, hS, ov, os, ha, hn⟩
  refine va_astq C.1.1 C.1.2.1 C.2.2.2.1.1 hw.1 hw.2.1 hS o 4 v 0 (r := (RX0, TX0, 8)) (wsOf_get hs) rfl (wsOf_get hv) rfl hin hd (fun H1 locs1 hP hD hS1 => ?_)
  rw [wsOf_set hs (M' := sG M o i.toNatClampNeg (some v)) (by simp only [cellOf, rowG_sG]; rfl) (fun k s' hk' => cellOf_sG k s' hk')] at hP hD
  exact k _ _ _ _ _ _ _ _ _ _ _ _ _ _ C ⟨hl, ⟨hP, hD, Vd_sG hw.2.2 (fun k' hk' => by cases hk'; exact (oks_cons.mp os).1)⟩, hS1, ov, oks_t3 os, ha, hn⟩
theorem wp_putFR {idx ci f o q : Nat} (hd : decode X.2.1.2.2.1 pc = .ok (.putfield idx, 3)) (hf : FL X.2.1.2.1 idx ci f) (hs : sh[o]? = some (.inl ci)) (hk : (fkL ci)[f]? = some false) (hfin : ∀ C T N, clsL[ci]? = some (C, T, N) → (T f).2.2.2 = true ∧ (T f).1 = X.2.1.2.1) (hin : X.2.1.1.name = "<init>")
    (hx : ∀ a : Nat, narrow (tyL ci f) (.ref a) = .ref a) (hfit : ∀ a : Nat, fits (tyL ci f) (.ref a) = true)
    (k : Wp X kc ks (pc + 3) lv st sh (sR M o f (some q))) : Wp X kc ks pc lv (.ref q :: .ref o :: st) sh M := by
  intro p e R s m args below meth c H locs ad0 ad ls C ⟨hl, hw, hS, ov, os, ha, hn⟩
  obtain ⟨Cn, T, N, hc, hfN, hlink⟩ := hf
  obtain ⟨hlay, hty, hnm, hlen⟩ := clsL_ok hc
  refine va_putF C.1.1 C.1.2.1 C.1.2.2.2.2 hlay (tyL ci) hty hnm C.1.2.2.2.1 C.2.2.2.1.1 hw.1 hw.2.1 hS o (wsOf_get hs) hc f hfN (C.1.2.2.2.2 _ hlink) (fun _ h => h) (hfin _ _ _ hc).1 (C.2.2.2.2.2.2.2.2.2.trans hin) (hfin _ _ _ hc).2 (hty f hfN) (hx _) (hfit _) (by rw [cellFs_len]; omega) hd (fun H1 locs1 hP hD hS1 => ?_)
  rw [wsOf_set hs (M' := sR M o f (some q)) (by simp only [cellOf, cellFs_sR hk]; rfl) (fun k s' hk' => cellOf_sR k s' hk')] at hP hD
  exact k _ _ _ _ _ _ _ _ _ _ _ _ _ _ C ⟨hl, ⟨hP, hD, Vd_sR hw.2.2 (fun k' hk' => by cases hk'; exact (oks_cons.mp os).1)⟩, hS1, ov, oks_t2 os, ha, hn⟩
theorem wp_objInit {idx o : Nat} (hd : decode X.2.1.2.2.1 pc = .ok (.invokespecial idx, 3)) (h1 : Cond.methodLink X.2.1.2.1 idx Lib.objectInit ∈ BIG) (h2 : Cond.instanceMethod Lib.objectInit ∈ BIG) (h3 : Cond.code Lib.objectInit ⟨#[0xb1]⟩ 1 none ∈ BIG) (hf : 1 ≤ X.2.2.1) (hW : (st.map fun v => v.category).sum ≤ 20)
    (k : Wp X kc ks (pc + 3) lv st sh M) : Wp X kc ks pc lv (.ref o :: st) sh M := by
  intro p e R s m args below meth c H locs ad0 ad ls C ⟨hl, hw, hS, ov, os, ha, hn⟩
  have hm0 : 2 * (F0 m pc ls ((Value.ref o :: st).map (cv ad))).monitorRoom = 0 := rfl
  have h5 := C.2.2.2.2.1
  have h6 := C.2.2.2.2.2.1
  refine W.objInit C.1.1 C.1.2.1 C.1.2.2.2.1 (C.1.2.2.2.2 _ h1) (C.1.2.2.2.2 _ h2) (C.1.2.2.2.2 _ h3) rfl (hl.1.trans C.1.2.2.1.symm) rfl hd (Nat.le_trans hf h5) ?_ (k _ _ _ _ _ _ _ _ _ _ _ _ _ _ C ⟨hl, hw, hS, ov, oks_t os, ha, hn⟩)
  rw [hm0, cats_c]
  omega
end WPN
end
