-- ===== PART A: goes FIRST, ahead of the names: the tables' words, and 'selects' of the private methods out of them =====
/-- a private method of a class that the tables say can be made, by its rows of tables_1 -/
def lw_okq (q : MethodName × Nat) : Prop := (q.1.cls ≠ "java/lang/invoke/MethodHandle" ∧ q.1.cls ≠ "java/lang/invoke/VarHandle") ∧ Cond.instantiable q.1.cls q.2 ∈ tables_1 ∧ Cond.privateMethod q.1 ∈ tables_1 ∧ Cond.instanceMethod q.1 ∈ tables_1
theorem lw_p0 : lw_okq (⟨"TwoLetterForms$Form", "findTurned", "(IIII)V"⟩, 4) := ⟨⟨by decide +kernel, by decide +kernel⟩, List.mem_of_getElem? (i := 37) (by decide +kernel), List.mem_of_getElem? (i := 314) (by decide +kernel), List.mem_of_getElem? (i := 315) (by decide +kernel)⟩
theorem lw_p1 : lw_okq (⟨"TwoLetterForms$SetUp", "takeClause", "()Z"⟩, 6) := ⟨⟨by decide +kernel, by decide +kernel⟩, List.mem_of_getElem? (i := 181) (by decide +kernel), List.mem_of_getElem? (i := 354) (by decide +kernel), List.mem_of_getElem? (i := 355) (by decide +kernel)⟩
theorem lw_p2 : lw_okq (⟨"TwoLetterForms$SetUp", "next", "()I"⟩, 6) := ⟨⟨by decide +kernel, by decide +kernel⟩, List.mem_of_getElem? (i := 181) (by decide +kernel), List.mem_of_getElem? (i := 358) (by decide +kernel), List.mem_of_getElem? (i := 359) (by decide +kernel)⟩
theorem lw_p3 : lw_okq (⟨"TwoLetterForms$SetUp", "takeDigit", "()Z"⟩, 6) := ⟨⟨by decide +kernel, by decide +kernel⟩, List.mem_of_getElem? (i := 181) (by decide +kernel), List.mem_of_getElem? (i := 371) (by decide +kernel), List.mem_of_getElem? (i := 372) (by decide +kernel)⟩
theorem lw_p4 : lw_okq (⟨"TwoLetterForms$SetUp", "isAtDigit", "()Z"⟩, 6) := ⟨⟨by decide +kernel, by decide +kernel⟩, List.mem_of_getElem? (i := 181) (by decide +kernel), List.mem_of_getElem? (i := 375) (by decide +kernel), List.mem_of_getElem? (i := 376) (by decide +kernel)⟩
theorem lw_p5 : lw_okq (⟨"TwoLetterForms$SetUp", "takeNumber", "()Z"⟩, 6) := ⟨⟨by decide +kernel, by decide +kernel⟩, List.mem_of_getElem? (i := 181) (by decide +kernel), List.mem_of_getElem? (i := 379) (by decide +kernel), List.mem_of_getElem? (i := 380) (by decide +kernel)⟩
theorem lw_p6 : lw_okq (⟨"TwoLetterForms", "clauseAnswer", "(I)I"⟩, 9) := ⟨⟨by decide +kernel, by decide +kernel⟩, List.mem_of_getElem? (i := 17) (by decide +kernel), List.mem_of_getElem? (i := 387) (by decide +kernel), List.mem_of_getElem? (i := 388) (by decide +kernel)⟩
theorem lw_p7 : lw_okq (⟨"TwoLetterForms$Rows", "cell", "(II)I"⟩, 2) := ⟨⟨by decide +kernel, by decide +kernel⟩, List.mem_of_getElem? (i := 75) (by decide +kernel), List.mem_of_getElem? (i := 395) (by decide +kernel), List.mem_of_getElem? (i := 396) (by decide +kernel)⟩
theorem lw_p8 : lw_okq (⟨"TwoLetterForms", "answersNow", "()LTwoLetterForms$Answers;"⟩, 9) := ⟨⟨by decide +kernel, by decide +kernel⟩, List.mem_of_getElem? (i := 17) (by decide +kernel), List.mem_of_getElem? (i := 420) (by decide +kernel), List.mem_of_getElem? (i := 421) (by decide +kernel)⟩
theorem lw_p9 : lw_okq (⟨"TwoLetterForms$Answers", "cellAt", "(II)I"⟩, 6) := ⟨⟨by decide +kernel, by decide +kernel⟩, List.mem_of_getElem? (i := 111) (by decide +kernel), List.mem_of_getElem? (i := 460) (by decide +kernel), List.mem_of_getElem? (i := 461) (by decide +kernel)⟩
theorem lw_p10 : lw_okq (⟨"TwoLetterForms$Answers", "setLabel", "(II)V"⟩, 6) := ⟨⟨by decide +kernel, by decide +kernel⟩, List.mem_of_getElem? (i := 111) (by decide +kernel), List.mem_of_getElem? (i := 465) (by decide +kernel), List.mem_of_getElem? (i := 466) (by decide +kernel)⟩
theorem lw_p11 : lw_okq (⟨"TwoLetterForms", "unitsNow", "()LTwoLetterForms$Units;"⟩, 9) := ⟨⟨by decide +kernel, by decide +kernel⟩, List.mem_of_getElem? (i := 17) (by decide +kernel), List.mem_of_getElem? (i := 469) (by decide +kernel), List.mem_of_getElem? (i := 470) (by decide +kernel)⟩
theorem lw_p12 : lw_okq (⟨"TwoLetterForms$Units", "add", "(IIII)V"⟩, 2) := ⟨⟨by decide +kernel, by decide +kernel⟩, List.mem_of_getElem? (i := 140) (by decide +kernel), List.mem_of_getElem? (i := 481) (by decide +kernel), List.mem_of_getElem? (i := 482) (by decide +kernel)⟩
theorem lw_p13 : lw_okq (⟨"TwoLetterForms", "answersInFamilies", "()LTwoLetterForms$Answers;"⟩, 9) := ⟨⟨by decide +kernel, by decide +kernel⟩, List.mem_of_getElem? (i := 17) (by decide +kernel), List.mem_of_getElem? (i := 485) (by decide +kernel), List.mem_of_getElem? (i := 486) (by decide +kernel)⟩
theorem lw_p14 : lw_okq (⟨"TwoLetterForms$Answers", "spread", "(ILTwoLetterForms$Units;)V"⟩, 6) := ⟨⟨by decide +kernel, by decide +kernel⟩, List.mem_of_getElem? (i := 111) (by decide +kernel), List.mem_of_getElem? (i := 494) (by decide +kernel), List.mem_of_getElem? (i := 495) (by decide +kernel)⟩
theorem lw_p15 : lw_okq (⟨"TwoLetterForms$Answers", "await", "(II)I"⟩, 6) := ⟨⟨by decide +kernel, by decide +kernel⟩, List.mem_of_getElem? (i := 111) (by decide +kernel), List.mem_of_getElem? (i := 498) (by decide +kernel), List.mem_of_getElem? (i := 499) (by decide +kernel)⟩
def lw_privs_1 : List (MethodName × Nat) := [(⟨"TwoLetterForms$Form", "findTurned", "(IIII)V"⟩, 4), (⟨"TwoLetterForms$SetUp", "takeClause", "()Z"⟩, 6), (⟨"TwoLetterForms$SetUp", "next", "()I"⟩, 6), (⟨"TwoLetterForms$SetUp", "takeDigit", "()Z"⟩, 6), (⟨"TwoLetterForms$SetUp", "isAtDigit", "()Z"⟩, 6), (⟨"TwoLetterForms$SetUp", "takeNumber", "()Z"⟩, 6), (⟨"TwoLetterForms", "clauseAnswer", "(I)I"⟩, 9), (⟨"TwoLetterForms$Rows", "cell", "(II)I"⟩, 2), (⟨"TwoLetterForms", "answersNow", "()LTwoLetterForms$Answers;"⟩, 9), (⟨"TwoLetterForms$Answers", "cellAt", "(II)I"⟩, 6), (⟨"TwoLetterForms$Answers", "setLabel", "(II)V"⟩, 6), (⟨"TwoLetterForms", "unitsNow", "()LTwoLetterForms$Units;"⟩, 9), (⟨"TwoLetterForms$Units", "add", "(IIII)V"⟩, 2), (⟨"TwoLetterForms", "answersInFamilies", "()LTwoLetterForms$Answers;"⟩, 9), (⟨"TwoLetterForms$Answers", "spread", "(ILTwoLetterForms$Units;)V"⟩, 6), (⟨"TwoLetterForms$Answers", "await", "(II)I"⟩, 6)]
theorem lw_r1 : ∀ q ∈ lw_privs_1, lw_okq q := List.forall_mem_cons.mpr ⟨lw_p0, List.forall_mem_cons.mpr ⟨lw_p1, List.forall_mem_cons.mpr ⟨lw_p2, List.forall_mem_cons.mpr ⟨lw_p3, List.forall_mem_cons.mpr ⟨lw_p4, List.forall_mem_cons.mpr ⟨lw_p5, List.forall_mem_cons.mpr ⟨lw_p6, List.forall_mem_cons.mpr ⟨lw_p7, List.forall_mem_cons.mpr ⟨lw_p8, List.forall_mem_cons.mpr ⟨lw_p9, List.forall_mem_cons.mpr ⟨lw_p10, List.forall_mem_cons.mpr ⟨lw_p11, List.forall_mem_cons.mpr ⟨lw_p12, List.forall_mem_cons.mpr ⟨lw_p13, List.forall_mem_cons.mpr ⟨lw_p14, List.forall_mem_cons.mpr ⟨lw_p15, fun _ h => absurd h List.not_mem_nil⟩⟩⟩⟩⟩⟩⟩⟩⟩⟩⟩⟩⟩⟩⟩⟩
theorem lw_p16 : lw_okq (⟨"TwoLetterForms$Answers", "behind", "(I)I"⟩, 6) := ⟨⟨by decide +kernel, by decide +kernel⟩, List.mem_of_getElem? (i := 111) (by decide +kernel), List.mem_of_getElem? (i := 506) (by decide +kernel), List.mem_of_getElem? (i := 507) (by decide +kernel)⟩
theorem lw_p17 : lw_okq (⟨"TwoLetterForms", "partsNow", "()LTwoLetterForms$Parts;"⟩, 9) := ⟨⟨by decide +kernel, by decide +kernel⟩, List.mem_of_getElem? (i := 17) (by decide +kernel), List.mem_of_getElem? (i := 520) (by decide +kernel), List.mem_of_getElem? (i := 521) (by decide +kernel)⟩
theorem lw_p18 : lw_okq (⟨"TwoLetterForms$Parts", "greatestFrom", "(I)I"⟩, 6) := ⟨⟨by decide +kernel, by decide +kernel⟩, List.mem_of_getElem? (i := 155) (by decide +kernel), List.mem_of_getElem? (i := 529) (by decide +kernel), List.mem_of_getElem? (i := 530) (by decide +kernel)⟩
theorem lw_p19 : lw_okq (⟨"TwoLetterForms$Parts", "at", "(I)J"⟩, 6) := ⟨⟨by decide +kernel, by decide +kernel⟩, List.mem_of_getElem? (i := 155) (by decide +kernel), List.mem_of_getElem? (i := 533) (by decide +kernel), List.mem_of_getElem? (i := 534) (by decide +kernel)⟩
theorem lw_p20 : lw_okq (⟨"TwoLetterForms$Parts", "keep", "(I)V"⟩, 6) := ⟨⟨by decide +kernel, by decide +kernel⟩, List.mem_of_getElem? (i := 155) (by decide +kernel), List.mem_of_getElem? (i := 537) (by decide +kernel), List.mem_of_getElem? (i := 538) (by decide +kernel)⟩
theorem lw_p21 : lw_okq (⟨"TwoLetterForms$Parts", "goBehind", "(I)V"⟩, 6) := ⟨⟨by decide +kernel, by decide +kernel⟩, List.mem_of_getElem? (i := 155) (by decide +kernel), List.mem_of_getElem? (i := 541) (by decide +kernel), List.mem_of_getElem? (i := 542) (by decide +kernel)⟩
theorem lw_p22 : lw_okq (⟨"TwoLetterForms$Parts", "isRowBeyond", "()Z"⟩, 6) := ⟨⟨by decide +kernel, by decide +kernel⟩, List.mem_of_getElem? (i := 155) (by decide +kernel), List.mem_of_getElem? (i := 545) (by decide +kernel), List.mem_of_getElem? (i := 546) (by decide +kernel)⟩
theorem lw_p23 : lw_okq (⟨"TwoLetterForms", "convergentAnswers", "()I"⟩, 9) := ⟨⟨by decide +kernel, by decide +kernel⟩, List.mem_of_getElem? (i := 17) (by decide +kernel), List.mem_of_getElem? (i := 551) (by decide +kernel), List.mem_of_getElem? (i := 552) (by decide +kernel)⟩
theorem lw_p24 : lw_okq (⟨"TwoLetterForms", "isAsSeen", "(LTwoLetterForms$Form;)Z"⟩, 9) := ⟨⟨by decide +kernel, by decide +kernel⟩, List.mem_of_getElem? (i := 17) (by decide +kernel), List.mem_of_getElem? (i := 658) (by decide +kernel), List.mem_of_getElem? (i := 659) (by decide +kernel)⟩
theorem lw_p25 : lw_okq (⟨"TwoLetterForms", "tryEvents", "()V"⟩, 9) := ⟨⟨by decide +kernel, by decide +kernel⟩, List.mem_of_getElem? (i := 17) (by decide +kernel), List.mem_of_getElem? (i := 700) (by decide +kernel), List.mem_of_getElem? (i := 701) (by decide +kernel)⟩
theorem lw_p26 : lw_okq (⟨"TwoLetterForms", "tapeAt", "(I)LTwoLetterForms$Tape;"⟩, 9) := ⟨⟨by decide +kernel, by decide +kernel⟩, List.mem_of_getElem? (i := 17) (by decide +kernel), List.mem_of_getElem? (i := 735) (by decide +kernel), List.mem_of_getElem? (i := 736) (by decide +kernel)⟩
theorem lw_p27 : lw_okq (⟨"TwoLetterForms$Tape", "lowestBits", "(J)J"⟩, 3) := ⟨⟨by decide +kernel, by decide +kernel⟩, List.mem_of_getElem? (i := 211) (by decide +kernel), List.mem_of_getElem? (i := 794) (by decide +kernel), List.mem_of_getElem? (i := 795) (by decide +kernel)⟩
theorem lw_p28 : lw_okq (⟨"TwoLetterFormsModel", "isNumber", "(I)Z"⟩, 39) := ⟨⟨by decide +kernel, by decide +kernel⟩, List.mem_of_getElem? (i := 811) (by decide +kernel), List.mem_of_getElem? (i := 949) (by decide +kernel), List.mem_of_getElem? (i := 950) (by decide +kernel)⟩
theorem lw_p29 : lw_okq (⟨"TwoLetterFormsModel", "moves", "(I)Z"⟩, 39) := ⟨⟨by decide +kernel, by decide +kernel⟩, List.mem_of_getElem? (i := 811) (by decide +kernel), List.mem_of_getElem? (i := 970) (by decide +kernel), List.mem_of_getElem? (i := 971) (by decide +kernel)⟩
theorem lw_p30 : lw_okq (⟨"TwoLetterFormsModel", "turns", "(JJJJ)V"⟩, 39) := ⟨⟨by decide +kernel, by decide +kernel⟩, List.mem_of_getElem? (i := 811) (by decide +kernel), List.mem_of_getElem? (i := 974) (by decide +kernel), List.mem_of_getElem? (i := 975) (by decide +kernel)⟩
theorem lw_p31 : lw_okq (⟨"TwoLetterFormsModel", "multiplies", "(JJ)V"⟩, 39) := ⟨⟨by decide +kernel, by decide +kernel⟩, List.mem_of_getElem? (i := 811) (by decide +kernel), List.mem_of_getElem? (i := 978) (by decide +kernel), List.mem_of_getElem? (i := 979) (by decide +kernel)⟩
def lw_privs_2 : List (MethodName × Nat) := [(⟨"TwoLetterForms$Answers", "behind", "(I)I"⟩, 6), (⟨"TwoLetterForms", "partsNow", "()LTwoLetterForms$Parts;"⟩, 9), (⟨"TwoLetterForms$Parts", "greatestFrom", "(I)I"⟩, 6), (⟨"TwoLetterForms$Parts", "at", "(I)J"⟩, 6), (⟨"TwoLetterForms$Parts", "keep", "(I)V"⟩, 6), (⟨"TwoLetterForms$Parts", "goBehind", "(I)V"⟩, 6), (⟨"TwoLetterForms$Parts", "isRowBeyond", "()Z"⟩, 6), (⟨"TwoLetterForms", "convergentAnswers", "()I"⟩, 9), (⟨"TwoLetterForms", "isAsSeen", "(LTwoLetterForms$Form;)Z"⟩, 9), (⟨"TwoLetterForms", "tryEvents", "()V"⟩, 9), (⟨"TwoLetterForms", "tapeAt", "(I)LTwoLetterForms$Tape;"⟩, 9), (⟨"TwoLetterForms$Tape", "lowestBits", "(J)J"⟩, 3), (⟨"TwoLetterFormsModel", "isNumber", "(I)Z"⟩, 39), (⟨"TwoLetterFormsModel", "moves", "(I)Z"⟩, 39), (⟨"TwoLetterFormsModel", "turns", "(JJJJ)V"⟩, 39), (⟨"TwoLetterFormsModel", "multiplies", "(JJ)V"⟩, 39)]
theorem lw_r2 : ∀ q ∈ lw_privs_2, lw_okq q := List.forall_mem_cons.mpr ⟨lw_p16, List.forall_mem_cons.mpr ⟨lw_p17, List.forall_mem_cons.mpr ⟨lw_p18, List.forall_mem_cons.mpr ⟨lw_p19, List.forall_mem_cons.mpr ⟨lw_p20, List.forall_mem_cons.mpr ⟨lw_p21, List.forall_mem_cons.mpr ⟨lw_p22, List.forall_mem_cons.mpr ⟨lw_p23, List.forall_mem_cons.mpr ⟨lw_p24, List.forall_mem_cons.mpr ⟨lw_p25, List.forall_mem_cons.mpr ⟨lw_p26, List.forall_mem_cons.mpr ⟨lw_p27, List.forall_mem_cons.mpr ⟨lw_p28, List.forall_mem_cons.mpr ⟨lw_p29, List.forall_mem_cons.mpr ⟨lw_p30, List.forall_mem_cons.mpr ⟨lw_p31, fun _ h => absurd h List.not_mem_nil⟩⟩⟩⟩⟩⟩⟩⟩⟩⟩⟩⟩⟩⟩⟩⟩
theorem lw_p32 : lw_okq (⟨"TwoLetterFormsModel", "becomesTurned", "()Z"⟩, 39) := ⟨⟨by decide +kernel, by decide +kernel⟩, List.mem_of_getElem? (i := 811) (by decide +kernel), List.mem_of_getElem? (i := 983) (by decide +kernel), List.mem_of_getElem? (i := 984) (by decide +kernel)⟩
theorem lw_p33 : lw_okq (⟨"TwoLetterFormsModel", "remainders", "(I)I"⟩, 39) := ⟨⟨by decide +kernel, by decide +kernel⟩, List.mem_of_getElem? (i := 811) (by decide +kernel), List.mem_of_getElem? (i := 998) (by decide +kernel), List.mem_of_getElem? (i := 999) (by decide +kernel)⟩
theorem lw_p34 : lw_okq (⟨"TwoLetterFormsModel", "valueAt", "(JJ)J"⟩, 39) := ⟨⟨by decide +kernel, by decide +kernel⟩, List.mem_of_getElem? (i := 811) (by decide +kernel), List.mem_of_getElem? (i := 1002) (by decide +kernel), List.mem_of_getElem? (i := 1003) (by decide +kernel)⟩
theorem lw_p35 : lw_okq (⟨"TwoLetterFormsModel", "bars", "(I)Z"⟩, 39) := ⟨⟨by decide +kernel, by decide +kernel⟩, List.mem_of_getElem? (i := 811) (by decide +kernel), List.mem_of_getElem? (i := 1009) (by decide +kernel), List.mem_of_getElem? (i := 1010) (by decide +kernel)⟩
theorem lw_p36 : lw_okq (⟨"TwoLetterFormsModel", "tellsAnswers", "()V"⟩, 39) := ⟨⟨by decide +kernel, by decide +kernel⟩, List.mem_of_getElem? (i := 811) (by decide +kernel), List.mem_of_getElem? (i := 1017) (by decide +kernel), List.mem_of_getElem? (i := 1018) (by decide +kernel)⟩
theorem lw_p37 : lw_okq (⟨"TwoLetterFormsModel", "firstBar", "()I"⟩, 39) := ⟨⟨by decide +kernel, by decide +kernel⟩, List.mem_of_getElem? (i := 811) (by decide +kernel), List.mem_of_getElem? (i := 1021) (by decide +kernel), List.mem_of_getElem? (i := 1022) (by decide +kernel)⟩
theorem lw_p38 : lw_okq (⟨"TwoLetterFormsModel", "tellsParts", "()V"⟩, 39) := ⟨⟨by decide +kernel, by decide +kernel⟩, List.mem_of_getElem? (i := 811) (by decide +kernel), List.mem_of_getElem? (i := 1029) (by decide +kernel), List.mem_of_getElem? (i := 1030) (by decide +kernel)⟩
theorem lw_p39 : lw_okq (⟨"TwoLetterFormsModel", "greatest", "(I)I"⟩, 39) := ⟨⟨by decide +kernel, by decide +kernel⟩, List.mem_of_getElem? (i := 811) (by decide +kernel), List.mem_of_getElem? (i := 1033) (by decide +kernel), List.mem_of_getElem? (i := 1034) (by decide +kernel)⟩
theorem lw_p40 : lw_okq (⟨"TwoLetterFormsModel", "rowAt", "(J)J"⟩, 39) := ⟨⟨by decide +kernel, by decide +kernel⟩, List.mem_of_getElem? (i := 811) (by decide +kernel), List.mem_of_getElem? (i := 1037) (by decide +kernel), List.mem_of_getElem? (i := 1038) (by decide +kernel)⟩
theorem lw_p41 : lw_okq (⟨"TwoLetterFormsModel", "goesOn", "(I)Z"⟩, 39) := ⟨⟨by decide +kernel, by decide +kernel⟩, List.mem_of_getElem? (i := 811) (by decide +kernel), List.mem_of_getElem? (i := 1041) (by decide +kernel), List.mem_of_getElem? (i := 1042) (by decide +kernel)⟩
theorem lw_p42 : lw_okq (⟨"TwoLetterFormsModel", "tellsConvergent", "(I)V"⟩, 39) := ⟨⟨by decide +kernel, by decide +kernel⟩, List.mem_of_getElem? (i := 811) (by decide +kernel), List.mem_of_getElem? (i := 1052) (by decide +kernel), List.mem_of_getElem? (i := 1053) (by decide +kernel)⟩
theorem lw_p43 : lw_okq (⟨"TwoLetterFormsModel", "tellsUnits", "()V"⟩, 39) := ⟨⟨by decide +kernel, by decide +kernel⟩, List.mem_of_getElem? (i := 811) (by decide +kernel), List.mem_of_getElem? (i := 1064) (by decide +kernel), List.mem_of_getElem? (i := 1065) (by decide +kernel)⟩
theorem lw_p44 : lw_okq (⟨"TwoLetterFormsModel", "tellsFamilies", "()V"⟩, 39) := ⟨⟨by decide +kernel, by decide +kernel⟩, List.mem_of_getElem? (i := 811) (by decide +kernel), List.mem_of_getElem? (i := 1068) (by decide +kernel), List.mem_of_getElem? (i := 1069) (by decide +kernel)⟩
theorem lw_p45 : lw_okq (⟨"TwoLetterFormsModel", "cell", "(II)I"⟩, 39) := ⟨⟨by decide +kernel, by decide +kernel⟩, List.mem_of_getElem? (i := 811) (by decide +kernel), List.mem_of_getElem? (i := 1072) (by decide +kernel), List.mem_of_getElem? (i := 1073) (by decide +kernel)⟩
theorem lw_p46 : lw_okq (⟨"TwoLetterFormsModel", "links", "(II)V"⟩, 39) := ⟨⟨by decide +kernel, by decide +kernel⟩, List.mem_of_getElem? (i := 811) (by decide +kernel), List.mem_of_getElem? (i := 1076) (by decide +kernel), List.mem_of_getElem? (i := 1077) (by decide +kernel)⟩
theorem lw_p47 : lw_okq (⟨"TwoLetterFormsModel", "leastOf", "(I)I"⟩, 39) := ⟨⟨by decide +kernel, by decide +kernel⟩, List.mem_of_getElem? (i := 811) (by decide +kernel), List.mem_of_getElem? (i := 1080) (by decide +kernel), List.mem_of_getElem? (i := 1081) (by decide +kernel)⟩
def lw_privs_3 : List (MethodName × Nat) := [(⟨"TwoLetterFormsModel", "becomesTurned", "()Z"⟩, 39), (⟨"TwoLetterFormsModel", "remainders", "(I)I"⟩, 39), (⟨"TwoLetterFormsModel", "valueAt", "(JJ)J"⟩, 39), (⟨"TwoLetterFormsModel", "bars", "(I)Z"⟩, 39), (⟨"TwoLetterFormsModel", "tellsAnswers", "()V"⟩, 39), (⟨"TwoLetterFormsModel", "firstBar", "()I"⟩, 39), (⟨"TwoLetterFormsModel", "tellsParts", "()V"⟩, 39), (⟨"TwoLetterFormsModel", "greatest", "(I)I"⟩, 39), (⟨"TwoLetterFormsModel", "rowAt", "(J)J"⟩, 39), (⟨"TwoLetterFormsModel", "goesOn", "(I)Z"⟩, 39), (⟨"TwoLetterFormsModel", "tellsConvergent", "(I)V"⟩, 39), (⟨"TwoLetterFormsModel", "tellsUnits", "()V"⟩, 39), (⟨"TwoLetterFormsModel", "tellsFamilies", "()V"⟩, 39), (⟨"TwoLetterFormsModel", "cell", "(II)I"⟩, 39), (⟨"TwoLetterFormsModel", "links", "(II)V"⟩, 39), (⟨"TwoLetterFormsModel", "leastOf", "(I)I"⟩, 39)]
theorem lw_r3 : ∀ q ∈ lw_privs_3, lw_okq q := List.forall_mem_cons.mpr ⟨lw_p32, List.forall_mem_cons.mpr ⟨lw_p33, List.forall_mem_cons.mpr ⟨lw_p34, List.forall_mem_cons.mpr ⟨lw_p35, List.forall_mem_cons.mpr ⟨lw_p36, List.forall_mem_cons.mpr ⟨lw_p37, List.forall_mem_cons.mpr ⟨lw_p38, List.forall_mem_cons.mpr ⟨lw_p39, List.forall_mem_cons.mpr ⟨lw_p40, List.forall_mem_cons.mpr ⟨lw_p41, List.forall_mem_cons.mpr ⟨lw_p42, List.forall_mem_cons.mpr ⟨lw_p43, List.forall_mem_cons.mpr ⟨lw_p44, List.forall_mem_cons.mpr ⟨lw_p45, List.forall_mem_cons.mpr ⟨lw_p46, List.forall_mem_cons.mpr ⟨lw_p47, fun _ h => absurd h List.not_mem_nil⟩⟩⟩⟩⟩⟩⟩⟩⟩⟩⟩⟩⟩⟩⟩⟩
theorem lw_p48 : lw_okq (⟨"TwoLetterFormsModel", "answering", "()I"⟩, 39) := ⟨⟨by decide +kernel, by decide +kernel⟩, List.mem_of_getElem? (i := 811) (by decide +kernel), List.mem_of_getElem? (i := 1084) (by decide +kernel), List.mem_of_getElem? (i := 1085) (by decide +kernel)⟩
theorem lw_p49 : lw_okq (⟨"TwoLetterFormsModel", "readsClause", "(I)Z"⟩, 39) := ⟨⟨by decide +kernel, by decide +kernel⟩, List.mem_of_getElem? (i := 811) (by decide +kernel), List.mem_of_getElem? (i := 1116) (by decide +kernel), List.mem_of_getElem? (i := 1117) (by decide +kernel)⟩
theorem lw_p50 : lw_okq (⟨"TwoLetterFormsModel", "here", "()I"⟩, 39) := ⟨⟨by decide +kernel, by decide +kernel⟩, List.mem_of_getElem? (i := 811) (by decide +kernel), List.mem_of_getElem? (i := 1120) (by decide +kernel), List.mem_of_getElem? (i := 1121) (by decide +kernel)⟩
theorem lw_p51 : lw_okq (⟨"TwoLetterFormsModel", "readsDigit", "(I)Z"⟩, 39) := ⟨⟨by decide +kernel, by decide +kernel⟩, List.mem_of_getElem? (i := 811) (by decide +kernel), List.mem_of_getElem? (i := 1124) (by decide +kernel), List.mem_of_getElem? (i := 1125) (by decide +kernel)⟩
theorem lw_p52 : lw_okq (⟨"TwoLetterFormsModel", "isDigit", "()Z"⟩, 39) := ⟨⟨by decide +kernel, by decide +kernel⟩, List.mem_of_getElem? (i := 811) (by decide +kernel), List.mem_of_getElem? (i := 1128) (by decide +kernel), List.mem_of_getElem? (i := 1129) (by decide +kernel)⟩
theorem lw_p53 : lw_okq (⟨"TwoLetterFormsModel", "readsNumber", "(I)Z"⟩, 39) := ⟨⟨by decide +kernel, by decide +kernel⟩, List.mem_of_getElem? (i := 811) (by decide +kernel), List.mem_of_getElem? (i := 1134) (by decide +kernel), List.mem_of_getElem? (i := 1135) (by decide +kernel)⟩
theorem lw_p54 : lw_okq (⟨"TwoLetterFormsModel", "does", "(I)I"⟩, 39) := ⟨⟨by decide +kernel, by decide +kernel⟩, List.mem_of_getElem? (i := 811) (by decide +kernel), List.mem_of_getElem? (i := 1138) (by decide +kernel), List.mem_of_getElem? (i := 1139) (by decide +kernel)⟩
theorem lw_p55 : lw_okq (⟨"TwoLetterFormsModel", "happens", "(II)V"⟩, 39) := ⟨⟨by decide +kernel, by decide +kernel⟩, List.mem_of_getElem? (i := 811) (by decide +kernel), List.mem_of_getElem? (i := 1174) (by decide +kernel), List.mem_of_getElem? (i := 1175) (by decide +kernel)⟩
theorem lw_p56 : lw_okq (⟨"TwoLetterFormsModel", "lays", "(Z)V"⟩, 39) := ⟨⟨by decide +kernel, by decide +kernel⟩, List.mem_of_getElem? (i := 811) (by decide +kernel), List.mem_of_getElem? (i := 1201) (by decide +kernel), List.mem_of_getElem? (i := 1202) (by decide +kernel)⟩
theorem lw_p57 : lw_okq (⟨"TwoLetterFormsModel", "laysRow", "(Z[II)V"⟩, 39) := ⟨⟨by decide +kernel, by decide +kernel⟩, List.mem_of_getElem? (i := 811) (by decide +kernel), List.mem_of_getElem? (i := 1205) (by decide +kernel), List.mem_of_getElem? (i := 1206) (by decide +kernel)⟩
theorem lw_p58 : lw_okq (⟨"TwoLetterFormsModel", "areThere", "(III)Z"⟩, 39) := ⟨⟨by decide +kernel, by decide +kernel⟩, List.mem_of_getElem? (i := 811) (by decide +kernel), List.mem_of_getElem? (i := 1236) (by decide +kernel), List.mem_of_getElem? (i := 1237) (by decide +kernel)⟩
def lw_privs_4 : List (MethodName × Nat) := [(⟨"TwoLetterFormsModel", "answering", "()I"⟩, 39), (⟨"TwoLetterFormsModel", "readsClause", "(I)Z"⟩, 39), (⟨"TwoLetterFormsModel", "here", "()I"⟩, 39), (⟨"TwoLetterFormsModel", "readsDigit", "(I)Z"⟩, 39), (⟨"TwoLetterFormsModel", "isDigit", "()Z"⟩, 39), (⟨"TwoLetterFormsModel", "readsNumber", "(I)Z"⟩, 39), (⟨"TwoLetterFormsModel", "does", "(I)I"⟩, 39), (⟨"TwoLetterFormsModel", "happens", "(II)V"⟩, 39), (⟨"TwoLetterFormsModel", "lays", "(Z)V"⟩, 39), (⟨"TwoLetterFormsModel", "laysRow", "(Z[II)V"⟩, 39), (⟨"TwoLetterFormsModel", "areThere", "(III)Z"⟩, 39)]
theorem lw_r4 : ∀ q ∈ lw_privs_4, lw_okq q := List.forall_mem_cons.mpr ⟨lw_p48, List.forall_mem_cons.mpr ⟨lw_p49, List.forall_mem_cons.mpr ⟨lw_p50, List.forall_mem_cons.mpr ⟨lw_p51, List.forall_mem_cons.mpr ⟨lw_p52, List.forall_mem_cons.mpr ⟨lw_p53, List.forall_mem_cons.mpr ⟨lw_p54, List.forall_mem_cons.mpr ⟨lw_p55, List.forall_mem_cons.mpr ⟨lw_p56, List.forall_mem_cons.mpr ⟨lw_p57, List.forall_mem_cons.mpr ⟨lw_p58, fun _ h => absurd h List.not_mem_nil⟩⟩⟩⟩⟩⟩⟩⟩⟩⟩⟩
def lw_privs : List (MethodName × Nat) := lw_privs_1 ++ (lw_privs_2 ++ (lw_privs_3 ++ (lw_privs_4)))
def lw_tbl : List Cond := k2_sels lw_privs ++ tables_1
theorem lw_privs_ok : ∀ q ∈ lw_privs, lw_okq q := by
  show ∀ q ∈ lw_privs_1 ++ (lw_privs_2 ++ (lw_privs_3 ++ (lw_privs_4))), lw_okq q
  exact List.forall_mem_append.mpr ⟨lw_r1, List.forall_mem_append.mpr ⟨lw_r2, List.forall_mem_append.mpr ⟨lw_r3, lw_r4⟩⟩⟩
def RX0 : String := "TwoLetterForms$Answers"
def TX0 : u_T := fun k => match k with
  | 0 => ("TwoLetterForms$Answers", "size", "I", false)
  | 1 => ("TwoLetterForms$Answers", "families", "I", false)
  | 2 => ("TwoLetterForms$Answers", "looked", "Z", false)
  | 3 => ("TwoLetterForms$Answers", "familiesFound", "Z", false)
  | 4 => ("TwoLetterForms$Answers", "equation", "LTwoLetterForms$Equation;", true)
  | _ => ("TwoLetterForms$Answers", "labels", "[I", true)
def tyX0 : Nat → FieldType := fun k => match k with
  | 0 => .int
  | 1 => .int
  | 2 => .boolean
  | 3 => .boolean
  | 4 => .object "TwoLetterForms$Equation"
  | _ => .array .int
abbrev wsX00 : List Cond := u_ws RX0 TX0 6
theorem nmX0 : ∀ a, a < 6 → ∀ b, b < 6 → a ≠ b → (TX0 a).2.1 ≠ (TX0 b).2.1 := by decide +kernel
theorem tyX0_ok : ∀ k, k < 6 → parseFieldDescriptor (TX0 k).2.2.1 = some (tyX0 k) := by decide +kernel
abbrev cX0_init : ByteArray := prog_2_method_1_code
def yX0_init : MethodName := ⟨RX0, "<init>", "()V"⟩
abbrev cX0_xOf : ByteArray := prog_2_method_2_code
def yX0_xOf : MethodName := ⟨RX0, "xOf", "(I)I"⟩
abbrev cX0_yOf : ByteArray := prog_2_method_3_code
def yX0_yOf : MethodName := ⟨RX0, "yOf", "(I)I"⟩
abbrev cX0_look : ByteArray := prog_2_method_4_code
def yX0_look : MethodName := ⟨RX0, "look", "(LTwoLetterForms$Equation;)V"⟩
abbrev cX0_findFamilies : ByteArray := prog_2_method_5_code
def yX0_findFamilies : MethodName := ⟨RX0, "findFamilies", "(LTwoLetterForms$Units;)V"⟩
abbrev cX0_cellOfAnswer : ByteArray := prog_2_method_6_code
def yX0_cellOfAnswer : MethodName := ⟨RX0, "cellOfAnswer", "(I)I"⟩
abbrev cX0_sizeOfFamily : ByteArray := prog_2_method_7_code
def yX0_sizeOfFamily : MethodName := ⟨RX0, "sizeOfFamily", "(I)I"⟩
abbrev cX0_labelAt : ByteArray := prog_2_method_8_code
def yX0_labelAt : MethodName := ⟨RX0, "labelAt", "(I)I"⟩
abbrev cX0_setLabel : ByteArray := prog_2_method_9_code
def yX0_setLabel : MethodName := ⟨RX0, "setLabel", "(II)V"⟩
abbrev cX0_cellAt : ByteArray := prog_2_method_10_code
def yX0_cellAt : MethodName := ⟨RX0, "cellAt", "(II)I"⟩
abbrev cX0_spread : ByteArray := prog_2_method_11_code
def yX0_spread : MethodName := ⟨RX0, "spread", "(ILTwoLetterForms$Units;)V"⟩
abbrev cX0_await : ByteArray := prog_2_method_12_code
def yX0_await : MethodName := ⟨RX0, "await", "(II)I"⟩
abbrev cX0_behind : ByteArray := prog_2_method_13_code
def yX0_behind : MethodName := ⟨RX0, "behind", "(I)I"⟩
def RX1 : String := "TwoLetterForms$Equation"
def TX1 : u_T := fun k => match k with
  | 0 => ("TwoLetterForms$Equation", "form", "LTwoLetterForms$Form;", true)
  | 1 => ("TwoLetterForms$Equation", "m", "I", false)
  | _ => ("TwoLetterForms$Equation", "b", "I", false)
def tyX1 : Nat → FieldType := fun k => match k with
  | 0 => .object "TwoLetterForms$Form"
  | 1 => .int
  | _ => .int
abbrev wsX10 : List Cond := u_ws RX1 TX1 3
theorem nmX1 : ∀ a, a < 3 → ∀ b, b < 3 → a ≠ b → (TX1 a).2.1 ≠ (TX1 b).2.1 := by decide +kernel
theorem tyX1_ok : ∀ k, k < 3 → parseFieldDescriptor (TX1 k).2.2.1 = some (tyX1 k) := by decide +kernel
abbrev cX1_init : ByteArray := prog_3_method_1_code
def yX1_init : MethodName := ⟨RX1, "<init>", "()V"⟩
abbrev cX1_copy : ByteArray := prog_3_method_2_code
def yX1_copy : MethodName := ⟨RX1, "copy", "(LTwoLetterForms$Equation;)V"⟩
abbrev cX1_isLike : ByteArray := prog_3_method_3_code
def yX1_isLike : MethodName := ⟨RX1, "isLike", "(LTwoLetterForms$Equation;)Z"⟩
abbrev cX1_hasInWindow : ByteArray := prog_3_method_4_code
def yX1_hasInWindow : MethodName := ⟨RX1, "hasInWindow", "(JJ)Z"⟩
abbrev cX1_isAnswer : ByteArray := prog_3_method_5_code
def yX1_isAnswer : MethodName := ⟨RX1, "isAnswer", "(JJ)Z"⟩
abbrev cX1_twos : ByteArray := prog_3_method_6_code
def yX1_twos : MethodName := ⟨RX1, "twos", "()J"⟩
abbrev cX1_howManyAnswers : ByteArray := prog_3_method_7_code
def yX1_howManyAnswers : MethodName := ⟨RX1, "howManyAnswers", "()I"⟩
abbrev cX1_valuesAboveM : ByteArray := prog_3_method_8_code
def yX1_valuesAboveM : MethodName := ⟨RX1, "valuesAboveM", "()J"⟩
abbrev cX1_valuesTogether : ByteArray := prog_3_method_9_code
def yX1_valuesTogether : MethodName := ⟨RX1, "valuesTogether", "()J"⟩
abbrev cX1_isBarredBy : ByteArray := prog_3_method_10_code
def yX1_isBarredBy : MethodName := ⟨RX1, "isBarredBy", "(I)Z"⟩
abbrev cX1_firstBar : ByteArray := prog_3_method_11_code
def yX1_firstBar : MethodName := ⟨RX1, "firstBar", "()I"⟩
abbrev cX1_addToM : ByteArray := prog_3_method_12_code
def yX1_addToM : MethodName := ⟨RX1, "addToM", "(I)V"⟩
def RX2 : String := "TwoLetterForms$Form"
def TX2 : u_T := fun k => match k with
  | 0 => ("TwoLetterForms$Form", "degree", "I", false)
  | 1 => ("TwoLetterForms$Form", "numbers", "[I", true)
  | 2 => ("TwoLetterForms$Form", "turned", "[J", true)
  | _ => ("TwoLetterForms$Form", "power", "[J", true)
def tyX2 : Nat → FieldType := fun k => match k with
  | 0 => .int
  | 1 => .array .int
  | 2 => .array .long
  | _ => .array .long
abbrev wsX20 : List Cond := u_ws RX2 TX2 4
theorem nmX2 : ∀ a, a < 4 → ∀ b, b < 4 → a ≠ b → (TX2 a).2.1 ≠ (TX2 b).2.1 := by decide +kernel
theorem tyX2_ok : ∀ k, k < 4 → parseFieldDescriptor (TX2 k).2.2.1 = some (tyX2 k) := by decide +kernel
abbrev cX2_init : ByteArray := prog_4_method_1_code
def yX2_init : MethodName := ⟨RX2, "<init>", "()V"⟩
abbrev cX2_isMove : ByteArray := prog_4_method_2_code
def yX2_isMove : MethodName := ⟨RX2, "isMove", "(I)Z"⟩
abbrev cX2_clear : ByteArray := prog_4_method_3_code
def yX2_clear : MethodName := ⟨RX2, "clear", "(I)V"⟩
abbrev cX2_copy : ByteArray := prog_4_method_4_code
def yX2_copy : MethodName := ⟨RX2, "copy", "(LTwoLetterForms$Form;)V"⟩
abbrev cX2_isLike : ByteArray := prog_4_method_5_code
def yX2_isLike : MethodName := ⟨RX2, "isLike", "(LTwoLetterForms$Form;)Z"⟩
abbrev cX2_has : ByteArray := prog_4_method_6_code
def yX2_has : MethodName := ⟨RX2, "has", "(I)Z"⟩
abbrev cX2_get : ByteArray := prog_4_method_7_code
def yX2_get : MethodName := ⟨RX2, "get", "(I)I"⟩
abbrev cX2_set : ByteArray := prog_4_method_8_code
def yX2_set : MethodName := ⟨RX2, "set", "(II)V"⟩
abbrev cX2_raise : ByteArray := prog_4_method_9_code
def yX2_raise : MethodName := ⟨RX2, "raise", "(I)V"⟩
abbrev cX2_at : ByteArray := prog_4_method_10_code
def yX2_at : MethodName := ⟨RX2, "at", "(JJ)J"⟩
abbrev cX2_remaindersBy : ByteArray := prog_4_method_11_code
def yX2_remaindersBy : MethodName := ⟨RX2, "remaindersBy", "(I)I"⟩
abbrev cX2_moveBy : ByteArray := prog_4_method_12_code
def yX2_moveBy : MethodName := ⟨RX2, "moveBy", "(I)Z"⟩
abbrev cX2_turnBy : ByteArray := prog_4_method_13_code
def yX2_turnBy : MethodName := ⟨RX2, "turnBy", "(IIII)Z"⟩
abbrev cX2_isLeftBy : ByteArray := prog_4_method_14_code
def yX2_isLeftBy : MethodName := ⟨RX2, "isLeftBy", "(IIII)Z"⟩
abbrev cX2_findTurned : ByteArray := prog_4_method_15_code
def yX2_findTurned : MethodName := ⟨RX2, "findTurned", "(IIII)V"⟩
abbrev cX2_multiply : ByteArray := prog_4_method_16_code
def yX2_multiply : MethodName := ⟨RX2, "multiply", "([JII)V"⟩
def RX3 : String := "TwoLetterForms$Parts"
def TX3 : u_T := fun k => match k with
  | 0 => ("TwoLetterForms$Parts", "size", "I", false)
  | 1 => ("TwoLetterForms$Parts", "degree", "I", false)
  | 2 => ("TwoLetterForms$Parts", "row", "[J", true)
  | 3 => ("TwoLetterForms$Parts", "wholes", "[I", true)
  | 4 => ("TwoLetterForms$Parts", "aboves", "[J", true)
  | _ => ("TwoLetterForms$Parts", "belows", "[J", true)
def tyX3 : Nat → FieldType := fun k => match k with
  | 0 => .int
  | 1 => .int
  | 2 => .array .long
  | 3 => .array .int
  | 4 => .array .long
  | _ => .array .long
abbrev wsX30 : List Cond := u_ws RX3 TX3 6
theorem nmX3 : ∀ a, a < 6 → ∀ b, b < 6 → a ≠ b → (TX3 a).2.1 ≠ (TX3 b).2.1 := by decide +kernel
theorem tyX3_ok : ∀ k, k < 6 → parseFieldDescriptor (TX3 k).2.2.1 = some (tyX3 k) := by decide +kernel
abbrev cX3_init : ByteArray := prog_5_method_1_code
def yX3_init : MethodName := ⟨RX3, "<init>", "()V"⟩
abbrev cX3_look : ByteArray := prog_5_method_2_code
def yX3_look : MethodName := ⟨RX3, "look", "(LTwoLetterForms$Form;)V"⟩
abbrev cX3_get : ByteArray := prog_5_method_3_code
def yX3_get : MethodName := ⟨RX3, "get", "(I)I"⟩
abbrev cX3_above : ByteArray := prog_5_method_4_code
def yX3_above : MethodName := ⟨RX3, "above", "(I)J"⟩
abbrev cX3_below : ByteArray := prog_5_method_5_code
def yX3_below : MethodName := ⟨RX3, "below", "(I)J"⟩
abbrev cX3_greatestFrom : ByteArray := prog_5_method_6_code
def yX3_greatestFrom : MethodName := ⟨RX3, "greatestFrom", "(I)I"⟩
abbrev cX3_at : ByteArray := prog_5_method_7_code
def yX3_at : MethodName := ⟨RX3, "at", "(I)J"⟩
abbrev cX3_keep : ByteArray := prog_5_method_8_code
def yX3_keep : MethodName := ⟨RX3, "keep", "(I)V"⟩
abbrev cX3_goBehind : ByteArray := prog_5_method_9_code
def yX3_goBehind : MethodName := ⟨RX3, "goBehind", "(I)V"⟩
abbrev cX3_isRowBeyond : ByteArray := prog_5_method_10_code
def yX3_isRowBeyond : MethodName := ⟨RX3, "isRowBeyond", "()Z"⟩
def RX4 : String := "TwoLetterForms$Rows"
def TX4 : u_T := fun k => match k with
  | 0 => ("TwoLetterForms$Rows", "size", "I", false)
  | _ => ("TwoLetterForms$Rows", "cells", "[I", true)
def tyX4 : Nat → FieldType := fun k => match k with
  | 0 => .int
  | _ => .array .int
abbrev wsX40 : List Cond := u_ws RX4 TX4 2
theorem nmX4 : ∀ a, a < 2 → ∀ b, b < 2 → a ≠ b → (TX4 a).2.1 ≠ (TX4 b).2.1 := by decide +kernel
theorem tyX4_ok : ∀ k, k < 2 → parseFieldDescriptor (TX4 k).2.2.1 = some (tyX4 k) := by decide +kernel
abbrev cX4_init : ByteArray := prog_6_method_1_code
def yX4_init : MethodName := ⟨RX4, "<init>", "(I)V"⟩
abbrev cX4_empty : ByteArray := prog_6_method_2_code
def yX4_empty : MethodName := ⟨RX4, "empty", "()I"⟩
abbrev cX4_add : ByteArray := prog_6_method_3_code
def yX4_add : MethodName := ⟨RX4, "add", "(III)I"⟩
abbrev cX4_copy : ByteArray := prog_6_method_4_code
def yX4_copy : MethodName := ⟨RX4, "copy", "(LTwoLetterForms$Rows;)V"⟩
abbrev cX4_first : ByteArray := prog_6_method_5_code
def yX4_first : MethodName := ⟨RX4, "first", "(I)I"⟩
abbrev cX4_second : ByteArray := prog_6_method_6_code
def yX4_second : MethodName := ⟨RX4, "second", "(I)I"⟩
abbrev cX4_third : ByteArray := prog_6_method_7_code
def yX4_third : MethodName := ⟨RX4, "third", "(I)I"⟩
abbrev cX4_cell : ByteArray := prog_6_method_8_code
def yX4_cell : MethodName := ⟨RX4, "cell", "(II)I"⟩
def RX5 : String := "TwoLetterForms$SetUp"
def TX5 : u_T := fun k => match k with
  | 0 => ("TwoLetterForms$SetUp", "size", "I", false)
  | 1 => ("TwoLetterForms$SetUp", "clauses", "LTwoLetterForms$Rows;", true)
  | 2 => ("TwoLetterForms$SetUp", "bytes", "[I", true)
  | 3 => ("TwoLetterForms$SetUp", "place", "I", false)
  | 4 => ("TwoLetterForms$SetUp", "digit", "I", false)
  | _ => ("TwoLetterForms$SetUp", "n", "I", false)
def tyX5 : Nat → FieldType := fun k => match k with
  | 0 => .int
  | 1 => .object "TwoLetterForms$Rows"
  | 2 => .array .int
  | 3 => .int
  | 4 => .int
  | _ => .int
abbrev wsX50 : List Cond := u_ws RX5 TX5 6
theorem nmX5 : ∀ a, a < 6 → ∀ b, b < 6 → a ≠ b → (TX5 a).2.1 ≠ (TX5 b).2.1 := by decide +kernel
theorem tyX5_ok : ∀ k, k < 6 → parseFieldDescriptor (TX5 k).2.2.1 = some (tyX5 k) := by decide +kernel
abbrev cX5_init : ByteArray := prog_7_method_1_code
def yX5_init : MethodName := ⟨RX5, "<init>", "()V"⟩
abbrev cX5_add : ByteArray := prog_7_method_2_code
def yX5_add : MethodName := ⟨RX5, "add", "(I)Z"⟩
abbrev cX5_findFault : ByteArray := prog_7_method_3_code
def yX5_findFault : MethodName := ⟨RX5, "findFault", "()I"⟩
abbrev cX5_next : ByteArray := prog_7_method_4_code
def yX5_next : MethodName := ⟨RX5, "next", "()I"⟩
abbrev cX5_takeClause : ByteArray := prog_7_method_5_code
def yX5_takeClause : MethodName := ⟨RX5, "takeClause", "()Z"⟩
abbrev cX5_isKind : ByteArray := prog_7_method_6_code
def yX5_isKind : MethodName := ⟨RX5, "isKind", "(I)Z"⟩
abbrev cX5_hasDigit : ByteArray := prog_7_method_7_code
def yX5_hasDigit : MethodName := ⟨RX5, "hasDigit", "(I)Z"⟩
abbrev cX5_hasNumber : ByteArray := prog_7_method_8_code
def yX5_hasNumber : MethodName := ⟨RX5, "hasNumber", "(I)Z"⟩
abbrev cX5_isAtDigit : ByteArray := prog_7_method_9_code
def yX5_isAtDigit : MethodName := ⟨RX5, "isAtDigit", "()Z"⟩
abbrev cX5_takeDigit : ByteArray := prog_7_method_10_code
def yX5_takeDigit : MethodName := ⟨RX5, "takeDigit", "()Z"⟩
abbrev cX5_takeNumber : ByteArray := prog_7_method_11_code
def yX5_takeNumber : MethodName := ⟨RX5, "takeNumber", "()Z"⟩
def RX6 : String := "TwoLetterForms$State"
def TX6 : u_T := fun k => match k with
  | 0 => ("TwoLetterForms$State", "equation", "LTwoLetterForms$Equation;", true)
  | 1 => ("TwoLetterForms$State", "seen", "LTwoLetterForms$Rows;", true)
  | 2 => ("TwoLetterForms$State", "events", "LTwoLetterForms$Rows;", true)
  | _ => ("TwoLetterForms$State", "book", "LTwoLetterForms$Rows;", true)
def tyX6 : Nat → FieldType := fun k => match k with
  | 0 => .object "TwoLetterForms$Equation"
  | 1 => .object "TwoLetterForms$Rows"
  | 2 => .object "TwoLetterForms$Rows"
  | _ => .object "TwoLetterForms$Rows"
abbrev wsX60 : List Cond := u_ws RX6 TX6 4
theorem nmX6 : ∀ a, a < 4 → ∀ b, b < 4 → a ≠ b → (TX6 a).2.1 ≠ (TX6 b).2.1 := by decide +kernel
theorem tyX6_ok : ∀ k, k < 4 → parseFieldDescriptor (TX6 k).2.2.1 = some (tyX6 k) := by decide +kernel
abbrev cX6_init : ByteArray := prog_8_method_1_code
def yX6_init : MethodName := ⟨RX6, "<init>", "()V"⟩
abbrev cX6_copy : ByteArray := prog_8_method_2_code
def yX6_copy : MethodName := ⟨RX6, "copy", "(LTwoLetterForms$State;)V"⟩
def RX7 : String := "TwoLetterForms$Tape"
def TX7 : u_T := fun k => match k with
  | 0 => ("TwoLetterForms$Tape", "sort", "I", false)
  | 1 => ("TwoLetterForms$Tape", "items", "[J", true)
  | _ => ("TwoLetterForms$Tape", "size", "I", false)
def tyX7 : Nat → FieldType := fun k => match k with
  | 0 => .int
  | 1 => .array .long
  | _ => .int
abbrev wsX70 : List Cond := u_ws RX7 TX7 3
theorem nmX7 : ∀ a, a < 3 → ∀ b, b < 3 → a ≠ b → (TX7 a).2.1 ≠ (TX7 b).2.1 := by decide +kernel
theorem tyX7_ok : ∀ k, k < 3 → parseFieldDescriptor (TX7 k).2.2.1 = some (tyX7 k) := by decide +kernel
abbrev cX7_init : ByteArray := prog_9_method_1_code
def yX7_init : MethodName := ⟨RX7, "<init>", "()V"⟩
abbrev cX7_become : ByteArray := prog_9_method_2_code
def yX7_become : MethodName := ⟨RX7, "become", "(II)V"⟩
abbrev cX7_holdsNothing : ByteArray := prog_9_method_3_code
def yX7_holdsNothing : MethodName := ⟨RX7, "holdsNothing", "()Z"⟩
abbrev cX7_has : ByteArray := prog_9_method_4_code
def yX7_has : MethodName := ⟨RX7, "has", "(I)Z"⟩
abbrev cX7_hasAll : ByteArray := prog_9_method_5_code
def yX7_hasAll : MethodName := ⟨RX7, "hasAll", "(II)Z"⟩
abbrev cX7_get : ByteArray := prog_9_method_6_code
def yX7_get : MethodName := ⟨RX7, "get", "(I)J"⟩
abbrev cX7_set : ByteArray := prog_9_method_7_code
def yX7_set : MethodName := ⟨RX7, "set", "(IJ)V"⟩
abbrev cX7_lowestBits : ByteArray := prog_9_method_8_code
def yX7_lowestBits : MethodName := ⟨RX7, "lowestBits", "(J)J"⟩
def RX8 : String := "TwoLetterForms$Units"
def TX8 : u_T := fun k => match k with
  | 0 => ("TwoLetterForms$Units", "size", "I", false)
  | _ => ("TwoLetterForms$Units", "entries", "[I", true)
def tyX8 : Nat → FieldType := fun k => match k with
  | 0 => .int
  | _ => .array .int
abbrev wsX80 : List Cond := u_ws RX8 TX8 2
theorem nmX8 : ∀ a, a < 2 → ∀ b, b < 2 → a ≠ b → (TX8 a).2.1 ≠ (TX8 b).2.1 := by decide +kernel
theorem tyX8_ok : ∀ k, k < 2 → parseFieldDescriptor (TX8 k).2.2.1 = some (tyX8 k) := by decide +kernel
abbrev cX8_init : ByteArray := prog_10_method_1_code
def yX8_init : MethodName := ⟨RX8, "<init>", "()V"⟩
abbrev cX8_look : ByteArray := prog_10_method_2_code
def yX8_look : MethodName := ⟨RX8, "look", "(LTwoLetterForms$Form;)V"⟩
abbrev cX8_get : ByteArray := prog_10_method_3_code
def yX8_get : MethodName := ⟨RX8, "get", "(II)I"⟩
abbrev cX8_add : ByteArray := prog_10_method_4_code
def yX8_add : MethodName := ⟨RX8, "add", "(IIII)V"⟩
def RX9 : String := "TwoLetterForms"
def TX9 : u_T := fun k => match k with
  | 0 => ("TwoLetterForms", "now", "LTwoLetterForms$State;", true)
  | 1 => ("TwoLetterForms", "kept", "LTwoLetterForms$State;", true)
  | 2 => ("TwoLetterForms", "imageTaken", "Z", false)
  | 3 => ("TwoLetterForms", "tried", "LTwoLetterForms$Equation;", true)
  | 4 => ("TwoLetterForms", "answers", "LTwoLetterForms$Answers;", true)
  | 5 => ("TwoLetterForms", "units", "LTwoLetterForms$Units;", true)
  | 6 => ("TwoLetterForms", "parts", "LTwoLetterForms$Parts;", true)
  | 7 => ("TwoLetterForms", "text", "LTwoLetterForms$SetUp;", true)
  | _ => ("TwoLetterForms", "tapes", "[LTwoLetterForms$Tape;", true)
def tyX9 : Nat → FieldType := fun k => match k with
  | 0 => .object "TwoLetterForms$State"
  | 1 => .object "TwoLetterForms$State"
  | 2 => .boolean
  | 3 => .object "TwoLetterForms$Equation"
  | 4 => .object "TwoLetterForms$Answers"
  | 5 => .object "TwoLetterForms$Units"
  | 6 => .object "TwoLetterForms$Parts"
  | 7 => .object "TwoLetterForms$SetUp"
  | _ => .array (.object "TwoLetterForms$Tape")
abbrev wsX90 : List Cond := u_ws RX9 TX9 9
theorem nmX9 : ∀ a, a < 9 → ∀ b, b < 9 → a ≠ b → (TX9 a).2.1 ≠ (TX9 b).2.1 := by decide +kernel
theorem tyX9_ok : ∀ k, k < 9 → parseFieldDescriptor (TX9 k).2.2.1 = some (tyX9 k) := by decide +kernel
abbrev cX9_init : ByteArray := prog_1_method_1_code
def yX9_init : MethodName := ⟨RX9, "<init>", "()V"⟩
abbrev cX9_degree : ByteArray := prog_1_method_2_code
def yX9_degree : MethodName := ⟨RX9, "degree", "(I)I"⟩
abbrev cX9_number : ByteArray := prog_1_method_3_code
def yX9_number : MethodName := ⟨RX9, "number", "(II)I"⟩
abbrev cX9_equal : ByteArray := prog_1_method_4_code
def yX9_equal : MethodName := ⟨RX9, "equal", "(I)I"⟩
abbrev cX9_window : ByteArray := prog_1_method_5_code
def yX9_window : MethodName := ⟨RX9, "window", "(I)I"⟩
abbrev cX9_move : ByteArray := prog_1_method_6_code
def yX9_move : MethodName := ⟨RX9, "move", "(I)I"⟩
abbrev cX9_turn : ByteArray := prog_1_method_7_code
def yX9_turn : MethodName := ⟨RX9, "turn", "(IIII)I"⟩
abbrev cX9_feed : ByteArray := prog_1_method_8_code
def yX9_feed : MethodName := ⟨RX9, "feed", "(I)I"⟩
abbrev cX9_read : ByteArray := prog_1_method_9_code
def yX9_read : MethodName := ⟨RX9, "read", "()I"⟩
abbrev cX9_of : ByteArray := prog_1_method_10_code
def yX9_of : MethodName := ⟨RX9, "of", "(I)I"⟩
abbrev cX9_told : ByteArray := prog_1_method_11_code
def yX9_told : MethodName := ⟨RX9, "told", "(I)I"⟩
abbrev cX9_value : ByteArray := prog_1_method_12_code
def yX9_value : MethodName := ⟨RX9, "value", "(II)J"⟩
abbrev cX9_answer : ByteArray := prog_1_method_13_code
def yX9_answer : MethodName := ⟨RX9, "answer", "(II)I"⟩
abbrev cX9_prime : ByteArray := prog_1_method_14_code
def yX9_prime : MethodName := ⟨RX9, "prime", "(II)I"⟩
abbrev cX9_reason : ByteArray := prog_1_method_15_code
def yX9_reason : MethodName := ⟨RX9, "reason", "(I)I"⟩
abbrev cX9_unit : ByteArray := prog_1_method_16_code
def yX9_unit : MethodName := ⟨RX9, "unit", "(II)I"⟩
abbrev cX9_family : ByteArray := prog_1_method_17_code
def yX9_family : MethodName := ⟨RX9, "family", "(I)I"⟩
abbrev cX9_part : ByteArray := prog_1_method_18_code
def yX9_part : MethodName := ⟨RX9, "part", "(I)I"⟩
abbrev cX9_convergent : ByteArray := prog_1_method_19_code
def yX9_convergent : MethodName := ⟨RX9, "convergent", "(II)J"⟩
abbrev cX9_see : ByteArray := prog_1_method_20_code
def yX9_see : MethodName := ⟨RX9, "see", "(III)I"⟩
abbrev cX9_fits : ByteArray := prog_1_method_21_code
def yX9_fits : MethodName := ⟨RX9, "fits", "(II)I"⟩
abbrev cX9_odds : ByteArray := prog_1_method_22_code
def yX9_odds : MethodName := ⟨RX9, "odds", "(I)J"⟩
abbrev cX9_mean : ByteArray := prog_1_method_23_code
def yX9_mean : MethodName := ⟨RX9, "mean", "(I)J"⟩
abbrev cX9_event : ByteArray := prog_1_method_24_code
def yX9_event : MethodName := ⟨RX9, "event", "(II)I"⟩
abbrev cX9_after : ByteArray := prog_1_method_25_code
def yX9_after : MethodName := ⟨RX9, "after", "(I)I"⟩
abbrev cX9_book : ByteArray := prog_1_method_26_code
def yX9_book : MethodName := ⟨RX9, "book", "(II)I"⟩
abbrev cX9_looked : ByteArray := prog_1_method_27_code
def yX9_looked : MethodName := ⟨RX9, "looked", "()I"⟩
abbrev cX9_judge : ByteArray := prog_1_method_28_code
def yX9_judge : MethodName := ⟨RX9, "judge", "(II)I"⟩
abbrev cX9_image : ByteArray := prog_1_method_29_code
def yX9_image : MethodName := ⟨RX9, "image", "()I"⟩
abbrev cX9_undo : ByteArray := prog_1_method_30_code
def yX9_undo : MethodName := ⟨RX9, "undo", "()I"⟩
abbrev cX9_count : ByteArray := prog_1_method_31_code
def yX9_count : MethodName := ⟨RX9, "count", "(I)I"⟩
abbrev cX9_tape : ByteArray := prog_1_method_32_code
def yX9_tape : MethodName := ⟨RX9, "tape", "(III)I"⟩
abbrev cX9_item : ByteArray := prog_1_method_33_code
def yX9_item : MethodName := ⟨RX9, "item", "(IIJ)I"⟩
abbrev cX9_peek : ByteArray := prog_1_method_34_code
def yX9_peek : MethodName := ⟨RX9, "peek", "(II)J"⟩
abbrev cX9_shift : ByteArray := prog_1_method_35_code
def yX9_shift : MethodName := ⟨RX9, "shift", "(IIIII)I"⟩
abbrev cX9_between : ByteArray := prog_1_method_36_code
def yX9_between : MethodName := ⟨RX9, "between", "(III)Z"⟩
abbrev cX9_isTurn : ByteArray := prog_1_method_37_code
def yX9_isTurn : MethodName := ⟨RX9, "isTurn", "(I)Z"⟩
abbrev cX9_lowest : ByteArray := prog_1_method_38_code
def yX9_lowest : MethodName := ⟨RX9, "lowest", "(JJI)J"⟩
abbrev cX9_commonDivisor : ByteArray := prog_1_method_39_code
def yX9_commonDivisor : MethodName := ⟨RX9, "commonDivisor", "(JJ)J"⟩
abbrev cX9_answersNow : ByteArray := prog_1_method_40_code
def yX9_answersNow : MethodName := ⟨RX9, "answersNow", "()LTwoLetterForms$Answers;"⟩
abbrev cX9_answersInFamilies : ByteArray := prog_1_method_41_code
def yX9_answersInFamilies : MethodName := ⟨RX9, "answersInFamilies", "()LTwoLetterForms$Answers;"⟩
abbrev cX9_unitsNow : ByteArray := prog_1_method_42_code
def yX9_unitsNow : MethodName := ⟨RX9, "unitsNow", "()LTwoLetterForms$Units;"⟩
abbrev cX9_partsNow : ByteArray := prog_1_method_43_code
def yX9_partsNow : MethodName := ⟨RX9, "partsNow", "()LTwoLetterForms$Parts;"⟩
abbrev cX9_convergentAnswers : ByteArray := prog_1_method_44_code
def yX9_convergentAnswers : MethodName := ⟨RX9, "convergentAnswers", "()I"⟩
abbrev cX9_clauseAnswer : ByteArray := prog_1_method_45_code
def yX9_clauseAnswer : MethodName := ⟨RX9, "clauseAnswer", "(I)I"⟩
abbrev cX9_isAsSeen : ByteArray := prog_1_method_46_code
def yX9_isAsSeen : MethodName := ⟨RX9, "isAsSeen", "(LTwoLetterForms$Form;)Z"⟩
abbrev cX9_tryEvents : ByteArray := prog_1_method_47_code
def yX9_tryEvents : MethodName := ⟨RX9, "tryEvents", "()V"⟩
abbrev cX9_tapeAt : ByteArray := prog_1_method_48_code
def yX9_tapeAt : MethodName := ⟨RX9, "tapeAt", "(I)LTwoLetterForms$Tape;"⟩
def RX10 : String := "TwoLetterFormsModel"
def TX10 : u_T := fun k => match k with
  | 0 => ("TwoLetterFormsModel", "d", "I", false)
  | 1 => ("TwoLetterFormsModel", "a", "[J", true)
  | 2 => ("TwoLetterFormsModel", "m", "I", false)
  | 3 => ("TwoLetterFormsModel", "b", "I", false)
  | 4 => ("TwoLetterFormsModel", "seen", "[I", true)
  | 5 => ("TwoLetterFormsModel", "seenMany", "I", false)
  | 6 => ("TwoLetterFormsModel", "events", "[I", true)
  | 7 => ("TwoLetterFormsModel", "eventMany", "I", false)
  | 8 => ("TwoLetterFormsModel", "book", "[I", true)
  | 9 => ("TwoLetterFormsModel", "bookMany", "I", false)
  | 10 => ("TwoLetterFormsModel", "turned", "[J", true)
  | 11 => ("TwoLetterFormsModel", "product", "[J", true)
  | 12 => ("TwoLetterFormsModel", "answers", "[I", true)
  | 13 => ("TwoLetterFormsModel", "answerMany", "I", false)
  | 14 => ("TwoLetterFormsModel", "units", "[I", true)
  | 15 => ("TwoLetterFormsModel", "unitMany", "I", false)
  | 16 => ("TwoLetterFormsModel", "placeOf", "[I", true)
  | 17 => ("TwoLetterFormsModel", "lesser", "[I", true)
  | 18 => ("TwoLetterFormsModel", "familyOf", "[I", true)
  | 19 => ("TwoLetterFormsModel", "familyMany", "I", false)
  | 20 => ("TwoLetterFormsModel", "primes", "[I", true)
  | 21 => ("TwoLetterFormsModel", "isRest", "[Z", true)
  | 22 => ("TwoLetterFormsModel", "row", "[J", true)
  | 23 => ("TwoLetterFormsModel", "next", "[J", true)
  | 24 => ("TwoLetterFormsModel", "parts", "[I", true)
  | 25 => ("TwoLetterFormsModel", "partMany", "I", false)
  | 26 => ("TwoLetterFormsModel", "above", "J", false)
  | 27 => ("TwoLetterFormsModel", "below", "J", false)
  | 28 => ("TwoLetterFormsModel", "text", "[I", true)
  | 29 => ("TwoLetterFormsModel", "length", "I", false)
  | 30 => ("TwoLetterFormsModel", "at", "I", false)
  | 31 => ("TwoLetterFormsModel", "told", "[I", true)
  | 32 => ("TwoLetterFormsModel", "wereNumbers", "[J", true)
  | 33 => ("TwoLetterFormsModel", "sorts", "[I", true)
  | 34 => ("TwoLetterFormsModel", "sizes", "[I", true)
  | 35 => ("TwoLetterFormsModel", "items", "[J", true)
  | 36 => ("TwoLetterFormsModel", "hasImage", "Z", false)
  | 37 => ("TwoLetterFormsModel", "imageNumbers", "[J", true)
  | _ => ("TwoLetterFormsModel", "imageRows", "[I", true)
def tyX10 : Nat → FieldType := fun k => match k with
  | 0 => .int
  | 1 => .array .long
  | 2 => .int
  | 3 => .int
  | 4 => .array .int
  | 5 => .int
  | 6 => .array .int
  | 7 => .int
  | 8 => .array .int
  | 9 => .int
  | 10 => .array .long
  | 11 => .array .long
  | 12 => .array .int
  | 13 => .int
  | 14 => .array .int
  | 15 => .int
  | 16 => .array .int
  | 17 => .array .int
  | 18 => .array .int
  | 19 => .int
  | 20 => .array .int
  | 21 => .array .boolean
  | 22 => .array .long
  | 23 => .array .long
  | 24 => .array .int
  | 25 => .int
  | 26 => .long
  | 27 => .long
  | 28 => .array .int
  | 29 => .int
  | 30 => .int
  | 31 => .array .int
  | 32 => .array .long
  | 33 => .array .int
  | 34 => .array .int
  | 35 => .array .long
  | 36 => .boolean
  | 37 => .array .long
  | _ => .array .int
abbrev wsX100 : List Cond := u_ws RX10 TX10 39
theorem nmX10 : ∀ a, a < 39 → ∀ b, b < 39 → a ≠ b → (TX10 a).2.1 ≠ (TX10 b).2.1 := by decide +kernel
theorem tyX10_ok : ∀ k, k < 39 → parseFieldDescriptor (TX10 k).2.2.1 = some (tyX10 k) := by decide +kernel
abbrev cX10_init : ByteArray := prog_12_method_1_code
def yX10_init : MethodName := ⟨RX10, "<init>", "()V"⟩
abbrev cX10_in : ByteArray := prog_12_method_2_code
def yX10_in : MethodName := ⟨RX10, "in", "(JJJ)Z"⟩
abbrev cX10_isNumber : ByteArray := prog_12_method_3_code
def yX10_isNumber : MethodName := ⟨RX10, "isNumber", "(I)Z"⟩
abbrev cX10_degree : ByteArray := prog_12_method_4_code
def yX10_degree : MethodName := ⟨RX10, "degree", "(I)I"⟩
abbrev cX10_number : ByteArray := prog_12_method_5_code
def yX10_number : MethodName := ⟨RX10, "number", "(II)I"⟩
abbrev cX10_equal : ByteArray := prog_12_method_6_code
def yX10_equal : MethodName := ⟨RX10, "equal", "(I)I"⟩
abbrev cX10_window : ByteArray := prog_12_method_7_code
def yX10_window : MethodName := ⟨RX10, "window", "(I)I"⟩
abbrev cX10_power : ByteArray := prog_12_method_8_code
def yX10_power : MethodName := ⟨RX10, "power", "(JI)J"⟩
abbrev cX10_valueAt : ByteArray := prog_12_method_9_code
def yX10_valueAt : MethodName := ⟨RX10, "valueAt", "(JJ)J"⟩
abbrev cX10_multiplies : ByteArray := prog_12_method_10_code
def yX10_multiplies : MethodName := ⟨RX10, "multiplies", "(JJ)V"⟩
abbrev cX10_turns : ByteArray := prog_12_method_11_code
def yX10_turns : MethodName := ⟨RX10, "turns", "(JJJJ)V"⟩
abbrev cX10_becomesTurned : ByteArray := prog_12_method_12_code
def yX10_becomesTurned : MethodName := ⟨RX10, "becomesTurned", "()Z"⟩
abbrev cX10_moves : ByteArray := prog_12_method_13_code
def yX10_moves : MethodName := ⟨RX10, "moves", "(I)Z"⟩
abbrev cX10_move : ByteArray := prog_12_method_14_code
def yX10_move : MethodName := ⟨RX10, "move", "(I)I"⟩
abbrev cX10_turn : ByteArray := prog_12_method_15_code
def yX10_turn : MethodName := ⟨RX10, "turn", "(IIII)I"⟩
abbrev cX10_tellsAnswers : ByteArray := prog_12_method_16_code
def yX10_tellsAnswers : MethodName := ⟨RX10, "tellsAnswers", "()V"⟩
abbrev cX10_tellsUnits : ByteArray := prog_12_method_17_code
def yX10_tellsUnits : MethodName := ⟨RX10, "tellsUnits", "()V"⟩
abbrev cX10_cell : ByteArray := prog_12_method_18_code
def yX10_cell : MethodName := ⟨RX10, "cell", "(II)I"⟩
abbrev cX10_leastOf : ByteArray := prog_12_method_19_code
def yX10_leastOf : MethodName := ⟨RX10, "leastOf", "(I)I"⟩
abbrev cX10_links : ByteArray := prog_12_method_20_code
def yX10_links : MethodName := ⟨RX10, "links", "(II)V"⟩
abbrev cX10_tellsFamilies : ByteArray := prog_12_method_21_code
def yX10_tellsFamilies : MethodName := ⟨RX10, "tellsFamilies", "()V"⟩
abbrev cX10_remainders : ByteArray := prog_12_method_22_code
def yX10_remainders : MethodName := ⟨RX10, "remainders", "(I)I"⟩
abbrev cX10_bars : ByteArray := prog_12_method_23_code
def yX10_bars : MethodName := ⟨RX10, "bars", "(I)Z"⟩
abbrev cX10_firstBar : ByteArray := prog_12_method_24_code
def yX10_firstBar : MethodName := ⟨RX10, "firstBar", "()I"⟩
abbrev cX10_prime : ByteArray := prog_12_method_25_code
def yX10_prime : MethodName := ⟨RX10, "prime", "(II)I"⟩
abbrev cX10_reason : ByteArray := prog_12_method_26_code
def yX10_reason : MethodName := ⟨RX10, "reason", "(I)I"⟩
abbrev cX10_rowAt : ByteArray := prog_12_method_27_code
def yX10_rowAt : MethodName := ⟨RX10, "rowAt", "(J)J"⟩
abbrev cX10_greatest : ByteArray := prog_12_method_28_code
def yX10_greatest : MethodName := ⟨RX10, "greatest", "(I)I"⟩
abbrev cX10_goesOn : ByteArray := prog_12_method_29_code
def yX10_goesOn : MethodName := ⟨RX10, "goesOn", "(I)Z"⟩
abbrev cX10_tellsParts : ByteArray := prog_12_method_30_code
def yX10_tellsParts : MethodName := ⟨RX10, "tellsParts", "()V"⟩
abbrev cX10_tellsConvergent : ByteArray := prog_12_method_31_code
def yX10_tellsConvergent : MethodName := ⟨RX10, "tellsConvergent", "(I)V"⟩
abbrev cX10_part : ByteArray := prog_12_method_32_code
def yX10_part : MethodName := ⟨RX10, "part", "(I)I"⟩
abbrev cX10_convergent : ByteArray := prog_12_method_33_code
def yX10_convergent : MethodName := ⟨RX10, "convergent", "(II)J"⟩
abbrev cX10_answering : ByteArray := prog_12_method_34_code
def yX10_answering : MethodName := ⟨RX10, "answering", "()I"⟩
abbrev cX10_of : ByteArray := prog_12_method_35_code
def yX10_of : MethodName := ⟨RX10, "of", "(I)I"⟩
abbrev cX10_told : ByteArray := prog_12_method_36_code
def yX10_told : MethodName := ⟨RX10, "told", "(I)I"⟩
abbrev cX10_value : ByteArray := prog_12_method_37_code
def yX10_value : MethodName := ⟨RX10, "value", "(II)J"⟩
abbrev cX10_answer : ByteArray := prog_12_method_38_code
def yX10_answer : MethodName := ⟨RX10, "answer", "(II)I"⟩
abbrev cX10_unit : ByteArray := prog_12_method_39_code
def yX10_unit : MethodName := ⟨RX10, "unit", "(II)I"⟩
abbrev cX10_family : ByteArray := prog_12_method_40_code
def yX10_family : MethodName := ⟨RX10, "family", "(I)I"⟩
abbrev cX10_feed : ByteArray := prog_12_method_41_code
def yX10_feed : MethodName := ⟨RX10, "feed", "(I)I"⟩
abbrev cX10_here : ByteArray := prog_12_method_42_code
def yX10_here : MethodName := ⟨RX10, "here", "()I"⟩
abbrev cX10_isDigit : ByteArray := prog_12_method_43_code
def yX10_isDigit : MethodName := ⟨RX10, "isDigit", "()Z"⟩
abbrev cX10_readsDigit : ByteArray := prog_12_method_44_code
def yX10_readsDigit : MethodName := ⟨RX10, "readsDigit", "(I)Z"⟩
abbrev cX10_readsNumber : ByteArray := prog_12_method_45_code
def yX10_readsNumber : MethodName := ⟨RX10, "readsNumber", "(I)Z"⟩
abbrev cX10_readsClause : ByteArray := prog_12_method_46_code
def yX10_readsClause : MethodName := ⟨RX10, "readsClause", "(I)Z"⟩
abbrev cX10_does : ByteArray := prog_12_method_47_code
def yX10_does : MethodName := ⟨RX10, "does", "(I)I"⟩
abbrev cX10_read : ByteArray := prog_12_method_48_code
def yX10_read : MethodName := ⟨RX10, "read", "()I"⟩
abbrev cX10_see : ByteArray := prog_12_method_49_code
def yX10_see : MethodName := ⟨RX10, "see", "(III)I"⟩
abbrev cX10_fits : ByteArray := prog_12_method_50_code
def yX10_fits : MethodName := ⟨RX10, "fits", "(II)I"⟩
abbrev cX10_lowest : ByteArray := prog_12_method_51_code
def yX10_lowest : MethodName := ⟨RX10, "lowest", "(JJI)J"⟩
abbrev cX10_odds : ByteArray := prog_12_method_52_code
def yX10_odds : MethodName := ⟨RX10, "odds", "(I)J"⟩
abbrev cX10_mean : ByteArray := prog_12_method_53_code
def yX10_mean : MethodName := ⟨RX10, "mean", "(I)J"⟩
abbrev cX10_event : ByteArray := prog_12_method_54_code
def yX10_event : MethodName := ⟨RX10, "event", "(II)I"⟩
abbrev cX10_happens : ByteArray := prog_12_method_55_code
def yX10_happens : MethodName := ⟨RX10, "happens", "(II)V"⟩
abbrev cX10_after : ByteArray := prog_12_method_56_code
def yX10_after : MethodName := ⟨RX10, "after", "(I)I"⟩
abbrev cX10_book : ByteArray := prog_12_method_57_code
def yX10_book : MethodName := ⟨RX10, "book", "(II)I"⟩
abbrev cX10_looked : ByteArray := prog_12_method_58_code
def yX10_looked : MethodName := ⟨RX10, "looked", "()I"⟩
abbrev cX10_isTape : ByteArray := prog_12_method_59_code
def yX10_isTape : MethodName := ⟨RX10, "isTape", "(I)Z"⟩
abbrev cX10_judge : ByteArray := prog_12_method_60_code
def yX10_judge : MethodName := ⟨RX10, "judge", "(II)I"⟩
abbrev cX10_lays : ByteArray := prog_12_method_61_code
def yX10_lays : MethodName := ⟨RX10, "lays", "(Z)V"⟩
abbrev cX10_laysRow : ByteArray := prog_12_method_62_code
def yX10_laysRow : MethodName := ⟨RX10, "laysRow", "(Z[II)V"⟩
abbrev cX10_image : ByteArray := prog_12_method_63_code
def yX10_image : MethodName := ⟨RX10, "image", "()I"⟩
abbrev cX10_undo : ByteArray := prog_12_method_64_code
def yX10_undo : MethodName := ⟨RX10, "undo", "()I"⟩
abbrev cX10_count : ByteArray := prog_12_method_65_code
def yX10_count : MethodName := ⟨RX10, "count", "(I)I"⟩
abbrev cX10_held : ByteArray := prog_12_method_66_code
def yX10_held : MethodName := ⟨RX10, "held", "(IJ)J"⟩
abbrev cX10_tape : ByteArray := prog_12_method_67_code
def yX10_tape : MethodName := ⟨RX10, "tape", "(III)I"⟩
abbrev cX10_item : ByteArray := prog_12_method_68_code
def yX10_item : MethodName := ⟨RX10, "item", "(IIJ)I"⟩
abbrev cX10_peek : ByteArray := prog_12_method_69_code
def yX10_peek : MethodName := ⟨RX10, "peek", "(II)J"⟩
abbrev cX10_areThere : ByteArray := prog_12_method_70_code
def yX10_areThere : MethodName := ⟨RX10, "areThere", "(III)Z"⟩
abbrev cX10_shift : ByteArray := prog_12_method_71_code
def yX10_shift : MethodName := ⟨RX10, "shift", "(IIIII)I"⟩
def RJ6 : String := "java/lang/Integer"
abbrev cJ6_bitCount_0f7a4 : ByteArray := prog_13_method_49_code
def yJ6_bitCount_0f7a4 : MethodName := ⟨RJ6, "bitCount", "(I)I"⟩
def RJ9 : String := "java/lang/Math"
abbrev cJ9_floorMod_7cf53 : ByteArray := prog_14_method_50_code
def yJ9_floorMod_7cf53 : MethodName := ⟨RJ9, "floorMod", "(II)I"⟩
abbrev cJ9_floorMod_1978a : ByteArray := prog_14_method_51_code
def yJ9_floorMod_1978a : MethodName := ⟨RJ9, "floorMod", "(JI)I"⟩
abbrev cJ9_floorMod_f86c9 : ByteArray := prog_14_method_52_code
def yJ9_floorMod_f86c9 : MethodName := ⟨RJ9, "floorMod", "(JJ)J"⟩
abbrev cJ9_abs_067f4 : ByteArray := prog_14_method_61_code
def yJ9_abs_067f4 : MethodName := ⟨RJ9, "abs", "(J)J"⟩
abbrev cJ9_max_7cf53 : ByteArray := prog_14_method_65_code
def yJ9_max_7cf53 : MethodName := ⟨RJ9, "max", "(II)I"⟩
abbrev cJ9_min_7cf53 : ByteArray := prog_14_method_69_code
def yJ9_min_7cf53 : MethodName := ⟨RJ9, "min", "(II)I"⟩
abbrev cJ9_min_f86c9 : ByteArray := prog_14_method_70_code
def yJ9_min_f86c9 : MethodName := ⟨RJ9, "min", "(JJ)J"⟩
def RJ10 : String := "java/lang/System"
def RJ7 : String := "java/util/Arrays"
abbrev cJ7_fill_d0a16 : ByteArray := prog_16_method_101_code
def yJ7_fill_d0a16 : MethodName := ⟨RJ7, "fill", "([JJ)V"⟩
abbrev cJ7_fill_53178 : ByteArray := prog_16_method_103_code
def yJ7_fill_53178 : MethodName := ⟨RJ7, "fill", "([II)V"⟩
def RL : String := "TwoLetterFormsLaw"
abbrev cL_law : ByteArray := code
def yL_law : MethodName := ⟨RL, "law", "([I)Z"⟩
abbrev vwCl : List vw_C := [(RX0, TX0, 6), (RX1, TX1, 3), (RX2, TX2, 4), (RX3, TX3, 6), (RX4, TX4, 2), (RX5, TX5, 6), (RX6, TX6, 4), (RX7, TX7, 3), (RX8, TX8, 2), (RX9, TX9, 9), (RX10, TX10, 39)]
