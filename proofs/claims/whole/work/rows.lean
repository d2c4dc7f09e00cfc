section
-- ===== PART A: goes FIRST, ahead of the names: the tables' words, and 'selects' of the private methods out of them =====
/-- a private method of a class that the tables say can be made, by its rows of tables_1 -/
def lw_okq (q : MethodName × Nat) : Prop := (q.1.cls ≠ "java/lang/invoke/MethodHandle" ∧ q.1.cls ≠ "java/lang/invoke/VarHandle") ∧ Cond.instantiable q.1.cls q.2 ∈ tables_1 ∧ Cond.privateMethod q.1 ∈ tables_1 ∧ Cond.instanceMethod q.1 ∈ tables_1
theorem lw_p0 : lw_okq (⟨"TwoLetterForms$Form", "findTurned", "(IIII)V"⟩, 4) := ⟨⟨by decide +kernel, by decide +kernel⟩, List.mem_of_getElem? (i := 37) (by decide +kernel), List.mem_of_getElem? (i := 314) (by decide +kernel), List.mem_of_getElem? (i := 315) (by decide +kernel)⟩
theorem lw_p1 : lw_okq (⟨"TwoLetterForms$SetUp", "takeClause", "()Z"⟩, 6) := ⟨⟨by decide +kernel, by decide +kernel⟩, List.mem_of_getElem? (i := 181) (by decide +kernel), List.mem_of_getElem? (i := 354) (by decide +kernel), List.mem_of_getElem? (i := 355) (by decide +kernel)⟩
theorem lw_p2 : lw_okq (⟨"TwoLetterForms$SetUp", "next", "()I"⟩, 6) := ⟨⟨by decide +kernel, by decide +kernel⟩, List.mem_of_getElem? (i := 181) (by decide +kernel), List.mem_of_getElem? (i := 358) (by decide +kernel), List.mem_of_getElem? (i := 359) (by decide +kernel)⟩
theorem lw_p3 : lw_okq (⟨"TwoLetterForms$SetUp", "takeDigit", "()Z"⟩, 6) := ⟨⟨by decide +kernel, by decide +kernel⟩, List.mem_of_getElem? (i := 181) (by decide +kernel), List.mem_of_getElem? (i := 371) (by decide +kernel), List.mem_of_getElem? (i := 372) (by decide +kernel)⟩
theorem lw_p4 : lw_okq (⟨"TwoLetterForms$SetUp", "isAtDigit", "()Z"⟩, 6) := ⟨⟨by decide +kernel, by decide +kernel⟩, List.mem_of_getElem? (i := 181) (by decide +kernel), List.mem_of_getElem? (i := 375) (by decide +kernel), List.mem_of_getElem? (i := 376) (by decide +kernel)⟩
theorem lw_p5 : lw_okq (⟨"TwoLetterForms$SetUp", "takeNumber", "()Z"⟩, 6) := ⟨⟨by decide +kernel, by decide +kernel⟩, List.mem_of_getElem? (i := 181) (by decide +kernel), List.mem_of_getElem? (i := 379) (by decide +kernel), List.mem_of_getElem? (i := 380) (by decide +kernel)⟩
theorem lw_p6 : lw_okq (⟨"TwoLetterForms", "clauseAnswer", "(I)I"⟩, 9) := ⟨⟨by decide +kernel, by decide +kernel⟩, List.mem_of_getElem? (i := 17) (by decide +kernel), List.mem_of_getElem? (i := 387) (by decide +kernel), List.mem_of_getElem? (i := 388) (by decide +kernel)⟩
theorem lw_p7 : lw_okq (⟨"TwoLetterForms$Rows", "cell", "(II)I"⟩, 2) := ⟨⟨by decide +kernel, by decide +kernel⟩, List.mem_of_getElem? (i := 75) (by decide +kernel), List.mem_of_getElem? (i := 395) (by decide +kernel), List.mem_of_getElem? (i := 396) (by decide +kernel)⟩
theorem lw_p8 : lw_okq (⟨"TwoLetterForms", "answersNow", "()LTwoLetterForms$Answers;"⟩, 9) := ⟨⟨by decide +kernel, by decide +kernel⟩, List.mem_of_getElem? (i := 17) (by decide +kernel), List.mem_of_getElem? (i := 420) (by decide +kernel), List.mem_of_getElem? (i := 421) (by decide +kernel)⟩
theorem lw_p9 : lw_okq (⟨"TwoLetterForms$Answers", "cellAt", "(II)I"⟩, 6) := ⟨⟨by decide +kernel, by decide +kernel⟩, List.mem_of_getElem? (i := 111) (by decide +kernel), List.mem_of_getElem? (i := 460) (by decide +kernel), List.mem_of_getElem? (i := 461) (by decide +kernel)⟩
theorem lw_p10 : lw_okq (⟨"TwoLetterForms$Answers", "setLabel", "(II)V"⟩, 6) := ⟨⟨by decide +kernel, by decide +kernel⟩, List.mem_of_getElem? (i := 111) (by decide +kernel), List.mem_of_getElem? (i := 465) (by decide +kernel), List.mem_of_getElem? (i := 466) (by decide +kernel)⟩
theorem lw_p11 : lw_okq (⟨"TwoLetterForms", "unitsNow", "()LTwoLetterForms$Units;"⟩, 9) := ⟨⟨by decide +kernel, by decide +kernel⟩, List.mem_of_getElem? (i := 17) (by decide +kernel), List.mem_of_getElem? (i := 469) (by decide +kernel), List.mem_of_getElem? (i := 470) (by decide +kernel)⟩
theorem lw_p12 : lw_okq (⟨"TwoLetterForms$Units", "add", "(IIII)V"⟩, 2) := ⟨⟨by decide +kernel, by decide +kernel⟩, List.mem_of_getElem? (i := 140) (by decide +kernel), List.mem_of_getElem? (i := 481) (by decide +kernel), List.mem_of_getElem? (i := 482) (by decide +kernel)⟩
theorem lw_p13 : lw_okq (⟨"TwoLetterForms", "answersInFamilies", "()LTwoLetterForms$Answers;"⟩, 9) := ⟨⟨by decide +kernel, by decide +kernel⟩, List.mem_of_getElem? (i := 17) (by decide +kernel), List.mem_of_getElem? (i := 485) (by decide +kernel), List.mem_of_getElem? (i := 486) (by decide +kernel)⟩
theorem lw_p14 : lw_okq (⟨"TwoLetterForms$Answers", "spread", "(ILTwoLetterForms$Units;)V"⟩, 6) := ⟨⟨by decide +kernel, by decide +kernel⟩, List.mem_of_getElem? (i := 111) (by decide +kernel), List.mem_of_getElem? (i := 494) (by decide +kernel), List.mem_of_getElem? (i := 495) (by decide +kernel)⟩
theorem lw_p15 : lw_okq (⟨"TwoLetterForms$Answers", "await", "(II)I"⟩, 6) := ⟨⟨by decide +kernel, by decide +kernel⟩, List.mem_of_getElem? (i := 111) (by decide +kernel), List.mem_of_getElem? (i := 498) (by decide +kernel), List.mem_of_getElem? (i := 499) (by decide +kernel)⟩
def lw_privs_1 : List (MethodName × Nat) := [(⟨"TwoLetterForms$Form", "findTurned", "(IIII)V"⟩, 4), (⟨"TwoLetterForms$SetUp", "takeClause", "()Z"⟩, 6), (⟨"TwoLetterForms$SetUp", "next", "()I"⟩, 6), (⟨"TwoLetterForms$SetUp", "takeDigit", "()Z"⟩, 6), (⟨"TwoLetterForms$SetUp", "isAtDigit", "()Z"⟩, 6), (⟨"TwoLetterForms$SetUp", "takeNumber", "()Z"⟩, 6), (⟨"TwoLetterForms", "clauseAnswer", "(I)I"⟩, 9), (⟨"TwoLetterForms$Rows", "cell", "(II)I"⟩, 2), (⟨"TwoLetterForms", "answersNow", "()LTwoLetterForms$Answers;"⟩, 9), (⟨"TwoLetterForms$Answers", "cellAt", "(II)I"⟩, 6), (⟨"TwoLetterForms$Answers", "setLabel", "(II)V"⟩, 6), (⟨"TwoLetterForms", "unitsNow", "()LTwoLetterForms$Units;"⟩, 9), (⟨"TwoLetterForms$Units", "add", "(IIII)V"⟩, 2), (⟨"TwoLetterForms", "answersInFamilies", "()LTwoLetterForms$Answers;"⟩, 9), (⟨"TwoLetterForms$Answers", "spread", "(ILTwoLetterForms$Units;)V"⟩, 6), (⟨"TwoLetterForms$Answers", "await", "(II)I"⟩, 6)]
theorem lw_r1 : ∀ q ∈ lw_privs_1, lw_okq q := List.forall_mem_cons.mpr ⟨lw_p0, List.forall_mem_cons.mpr ⟨lw_p1, List.forall_mem_cons.mpr ⟨lw_p2, List.forall_mem_cons.mpr ⟨lw_p3, List.forall_mem_cons.mpr ⟨lw_p4, List.forall_mem_cons.mpr ⟨lw_p5, List.forall_mem_cons.mpr ⟨lw_p6, List.forall_mem_cons.mpr ⟨lw_p7, List.forall_mem_cons.mpr ⟨lw_p8, List.forall_mem_cons.mpr ⟨lw_p9, List.forall_mem_cons.mpr ⟨lw_p10, List.forall_mem_cons.mpr ⟨lw_p11, List.forall_mem_cons.mpr ⟨lw_p12, List.forall_mem_cons.mpr ⟨lw_p13, List.forall_mem_cons.mpr ⟨lw_p14, List.forall_mem_cons.mpr ⟨lw_p15, fun _ h => absurd h List.not_mem_nil⟩⟩⟩⟩⟩⟩⟩⟩⟩⟩⟩⟩⟩⟩⟩⟩
theorem lw_p16 : lw_okq (⟨"TwoLetterForms$Answers", "behind", "(I)I"⟩, 6) := ⟨⟨by decide +kernel, by decide +kernel⟩, List.mem_of_getElem? (i := 111) (by decide +kernel), List.mem_of_getElem? (i := 506) (by decide +kernel), List.mem_of_getElem? (i := 507) (by decide +kernel)⟩
theorem lw_p17 : lw_okq (⟨"TwoLetterForms", "partsNow", "()LTwoLetterForms$Parts;"⟩, 9) := ⟨⟨by decide +kernel, by decide +kernel⟩, List.mem_of_getElem? (i := 17) (by decide +kernel), List.mem_of_getElem? (i := 520) (by decide +kernel), List.mem_of_getElem? (i := 521) (by decide +kernel)⟩
theorem lw_p18 : lw_okq (⟨"TwoLetterForms$Parts", "greatestFrom", "(I)I"⟩, 6) := ⟨⟨by decide +kernel, by decide +kernel⟩, List.mem_of_getElem? (i := 155) (by decide +kernel), List.mem_of_getElem? (i := 529) (by decide +kernel), List.mem_of_getElem? (i := 530) (by decide +kernel)⟩
theorem lw_p19 : lw_okq (⟨"TwoLetterForms$Parts", "at", "(I)J"⟩, 6) := ⟨⟨by decide +kernel, by decide +kernel⟩, List.mem_of_getElem? (i := 155) (by decide +kernel), List.mem_of_getElem? (i := 533) (by decide +kernel), List.mem_of_getElem? (i := 534) (by decide +kernel)⟩
theorem lw_p20 : lw_okq (⟨"TwoLetterForms$Parts", "keep", "(I)V"⟩, 6) := ⟨⟨by decide +kernel, by decide +kernel⟩, List.mem_of_getElem? (i := 155) (by decide +kernel), List.mem_of_getElem? (i := 537) (by decide +kernel), List.mem_of_getElem? (i := 538) (by decide +kernel)⟩
theorem lw_p21 : lw_okq (⟨"TwoLetterForms$Parts", "goBehind", "(I)V"⟩, 6) := ⟨⟨by decide +kernel, by decide +kernel⟩, List.mem_of_getElem? (i := 155) (by decide +kernel), List.mem_of_getElem? (i := 541) (by decide +kernel), List.mem_of_getElem? (i := 542) (by decide +kernel)⟩
theorem lw_p22 : lw_okq (⟨"TwoLetterForms$Parts", "isRowBeyond", "()Z"⟩, 6) := ⟨⟨by decide +kernel, by decide +kernel⟩, List.mem_of_getElem? (i := 155) (by decide +kernel), List.mem_of_getElem? (i := 545) (by decide +kernel), List.mem_of_getElem? (i := 546) (by decide +kernel)⟩
theorem lw_p23 : lw_okq (⟨"TwoLetterForms", "convergentAnswers", "()I"⟩, 9) := ⟨⟨by decide +kernel, by decide +kernel⟩, List.mem_of_getElem? (i := 17) (by decide +kernel), List.mem_of_getElem? (i := 551) (by decide +kernel), List.mem_of_getElem? (i := 552) (by decide +kernel)⟩
theorem lw_p24 : lw_okq (⟨"TwoLetterForms", "isAsSeen", "(LTwoLetterForms$Form;)Z"⟩, 9) := ⟨⟨by decide +kernel, by decide +kernel⟩, List.mem_of_getElem? (i := 17) (by decide +kernel), List.mem_of_getElem? (i := 658) (by decide +kernel), List.mem_of_getElem? (i := 659) (by decide +kernel)⟩
theorem lw_p25 : lw_okq (⟨"TwoLetterForms", "tryEvents", "()V"⟩, 9) := ⟨⟨by decide +kernel, by decide +kernel⟩, List.mem_of_getElem? (i := 17) (by decide +kernel), List.mem_of_getElem? (i := 700) (by decide +kernel), List.mem_of_getElem? (i := 701) (by decide +kernel)⟩
theorem lw_p26 : lw_okq (⟨"TwoLetterForms", "tapeAt", "(I)LTwoLetterForms$Tape;"⟩, 9) := ⟨⟨by decide +kernel, by decide +kernel⟩, List.mem_of_getElem? (i := 17) (by decide +kernel), List.mem_of_getElem? (i := 735) (by decide +kernel), List.mem_of_getElem? (i := 736) (by decide +kernel)⟩
theorem lw_p27 : lw_okq (⟨"TwoLetterForms$Tape", "lowestBits", "(J)J"⟩, 3) := ⟨⟨by decide +kernel, by decide +kernel⟩, List.mem_of_getElem? (i := 211) (by decide +kernel), List.mem_of_getElem? (i := 794) (by decide +kernel), List.mem_of_getElem? (i := 795) (by decide +kernel)⟩
theorem lw_p28 : lw_okq (⟨"TwoLetterFormsModel", "isNumber", "(I)Z"⟩, 39) := ⟨⟨by decide +kernel, by decide +kernel⟩, List.mem_of_getElem? (i := 811) (by decide +kernel), List.mem_of_getElem? (i := 949) (by decide +kernel), List.mem_of_getElem? (i := 950) (by decide +kernel)⟩
theorem lw_p29 : lw_okq (⟨"TwoLetterFormsModel", "moves", "(I)Z"⟩, 39) := ⟨⟨by decide +kernel, by decide +kernel⟩, List.mem_of_getElem? (i := 811) (by decide +kernel), List.mem_of_getElem? (i := 970) (by decide +kernel), List.mem_of_getElem? (i := 971) (by decide +kernel)⟩
theorem lw_p30 : lw_okq (⟨"TwoLetterFormsModel", "turns", "(JJJJ)V"⟩, 39) := ⟨⟨by decide +kernel, by decide +kernel⟩, List.mem_of_getElem? (i := 811) (by decide +kernel), List.mem_of_getElem? (i := 974) (by decide +kernel), List.mem_of_getElem? (i := 975) (by decide +kernel)⟩
theorem lw_p31 : lw_okq (⟨"TwoLetterFormsModel", "multiplies", "(JJ)V"⟩, 39) := ⟨⟨by decide +kernel, by decide +kernel⟩, List.mem_of_getElem? (i := 811) (by decide +kernel), List.mem_of_getElem? (i := 978) (by decide +kernel), List.mem_of_getElem? (i := 979) (by decide +kernel)⟩
def lw_privs_2 : List (MethodName × Nat) := [(⟨"TwoLetterForms$Answers", "behind", "(I)I"⟩, 6), (⟨"TwoLetterForms", "partsNow", "()LTwoLetterForms$Parts;"⟩, 9), (⟨"TwoLetterForms$Parts", "greatestFrom", "(I)I"⟩, 6), (⟨"TwoLetterForms$Parts", "at", "(I)J"⟩, 6), (⟨"TwoLetterForms$Parts", "keep", "(I)V"⟩, 6), (⟨"TwoLetterForms$Parts", "goBehind", "(I)V"⟩, 6), (⟨"TwoLetterForms$Parts", "isRowBeyond", "()Z"⟩, 6), (⟨"TwoLetterForms", "convergentAnswers", "()I"⟩, 9), (⟨"TwoLetterForms", "isAsSeen", "(LTwoLetterForms$Form;)Z"⟩, 9), (⟨"TwoLetterForms", "tryEvents", "()V"⟩, 9), (⟨"TwoLetterForms", "tapeAt", "(I)LTwoLetterForms$Tape;"⟩, 9), (⟨"TwoLetterForms$Tape", "lowestBits", "(J)J"⟩, 3), (⟨"TwoLetterFormsModel", "isNumber", "(I)Z"⟩, 39), (⟨"TwoLetterFormsModel", "moves", "(I)Z"⟩, 39), (⟨"TwoLetterFormsModel", "turns", "(JJJJ)V"⟩, 39), (⟨"TwoLetterFormsModel", "multiplies", "(JJ)V"⟩, 39)]
theorem lw_r2 : ∀ q ∈ lw_privs_2, lw_okq q := List.forall_mem_cons.mpr ⟨lw_p16, List.forall_mem_cons.mpr ⟨lw_p17, List.forall_mem_cons.mpr ⟨lw_p18, List.forall_mem_cons.mpr ⟨lw_p19, List.forall_mem_cons.mpr ⟨lw_p20, List.forall_mem_cons.mpr ⟨lw_p21, List.forall_mem_cons.mpr ⟨lw_p22, List.forall_mem_cons.mpr ⟨lw_p23, List.forall_mem_cons.mpr ⟨lw_p24, List.forall_mem_cons.mpr ⟨lw_p25, List.forall_mem_cons.mpr ⟨lw_p26, List.forall_mem_cons.mpr ⟨lw_p27, List.forall_mem_cons.mpr ⟨lw_p28, List.forall_mem_cons.mpr ⟨lw_p29, List.forall_mem_cons.mpr ⟨lw_p30, List.forall_mem_cons.mpr ⟨lw_p31, fun _ h => absurd h List.not_mem_nil⟩⟩⟩⟩⟩⟩⟩⟩⟩⟩⟩⟩⟩⟩⟩⟩
theorem lw_p32 : lw_okq (⟨"TwoLetterFormsModel", "becomesTurned", "()Z"⟩, 39) := ⟨⟨by decide +kernel, by decide +kernel⟩, List.mem_of_getElem? (i := 811) (by decide +kernel), List.mem_of_getElem? (i := 983) (by decide +kernel), List.mem_of_getElem? (i := 984) (by decide +kernel)⟩
theorem lw_p33 : lw_okq (⟨"TwoLetterFormsModel", "remainders", "(I)I"⟩, 39) := ⟨⟨by decide +kernel, by decide +kernel⟩, List.mem_of_getElem? (i := 811) (by decide +kernel), List.mem_of_getElem? (i := 998) (by decide +kernel), List.mem_of_getElem? (i := 999) (by decide +kernel)⟩
theorem lw_p34 : lw_okq (⟨"TwoLetterFormsModel", "valueAt", "(JJ)J"⟩, 39) := ⟨⟨by decide +kernel, by decide +kernel⟩, List.mem_of_getElem? (i := 811) (by decide +kernel), List.mem_of_getElem? (i := 1002) (by decide +kernel), List.mem_of_getElem? (i := 1003) (by decide +kernel)⟩
theorem lw_p35 : lw_okq (⟨"TwoLetterFormsModel", "bars", "(I)Z"⟩, 39) := ⟨⟨by decide +kernel, by decide +kernel⟩, List.mem_of_getElem? (i := 811) (by decide +kernel), List.mem_of_getElem? (i := 1009) (by decide +kernel), List.mem_of_getElem? (i := 1010) (by decide +kernel)⟩
theorem lw_p36 : lw_okq (⟨"TwoLetterFormsModel", "tellsAnswers", "()V"⟩, 39) := ⟨⟨by decide +kernel, by decide +kernel⟩, List.mem_of_getElem? (i := 811) (by decide +kernel), List.mem_of_getElem? (i := 1017) (by decide +kernel), List.mem_of_getElem? (i := 1018) (by decide +kernel)⟩
theorem lw_p37 : lw_okq (⟨"TwoLetterFormsModel", "firstBar", "()I"⟩, 39) := ⟨⟨by decide +kernel, by decide +kernel⟩, List.mem_of_getElem? (i := 811) (by decide +kernel), List.mem_of_getElem? (i := 1021) (by decide +kernel), List.mem_of_getElem? (i := 1022) (by decide +kernel)⟩
theorem lw_p38 : lw_okq (⟨"TwoLetterFormsModel", "tellsParts", "()V"⟩, 39) := ⟨⟨by decide +kernel, by decide +kernel⟩, List.mem_of_getElem? (i := 811) (by decide +kernel), List.mem_of_getElem? (i := 1029) (by decide +kernel), List.mem_of_getElem? (i := 1030) (by decide +kernel)⟩
theorem lw_p39 : lw_okq (⟨"TwoLetterFormsModel", "greatest", "(I)I"⟩, 39) := ⟨⟨by decide +kernel, by decide +kernel⟩, List.mem_of_getElem? (i := 811) (by decide +kernel), List.mem_of_getElem? (i := 1033) (by decide +kernel), List.mem_of_getElem? (i := 1034) (by decide +kernel)⟩
theorem lw_p40 : lw_okq (⟨"TwoLetterFormsModel", "rowAt", "(J)J"⟩, 39) := ⟨⟨by decide +kernel, by decide +kernel⟩, List.mem_of_getElem? (i := 811) (by decide +kernel), List.mem_of_getElem? (i := 1037) (by decide +kernel), List.mem_of_getElem? (i := 1038) (by decide +kernel)⟩
theorem lw_p41 : lw_okq (⟨"TwoLetterFormsModel", "goesOn", "(I)Z"⟩, 39) := ⟨⟨by decide +kernel, by decide +kernel⟩, List.mem_of_getElem? (i := 811) (by decide +kernel), List.mem_of_getElem? (i := 1041) (by decide +kernel), List.mem_of_getElem? (i := 1042) (by decide +kernel)⟩
theorem lw_p42 : lw_okq (⟨"TwoLetterFormsModel", "tellsConvergent", "(I)V"⟩, 39) := ⟨⟨by decide +kernel, by decide +kernel⟩, List.mem_of_getElem? (i := 811) (by decide +kernel), List.mem_of_getElem? (i := 1052) (by decide +kernel), List.mem_of_getElem? (i := 1053) (by decide +kernel)⟩
theorem lw_p43 : lw_okq (⟨"TwoLetterFormsModel", "tellsUnits", "()V"⟩, 39) := ⟨⟨by decide +kernel, by decide +kernel⟩, List.mem_of_getElem? (i := 811) (by decide +kernel), List.mem_of_getElem? (i := 1064) (by decide +kernel), List.mem_of_getElem? (i := 1065) (by decide +kernel)⟩
theorem lw_p44 : lw_okq (⟨"TwoLetterFormsModel", "tellsFamilies", "()V"⟩, 39) := ⟨⟨by decide +kernel, by decide +kernel⟩, List.mem_of_getElem? (i := 811) (by decide +kernel), List.mem_of_getElem? (i := 1068) (by decide +kernel), List.mem_of_getElem? (i := 1069) (by decide +kernel)⟩
theorem lw_p45 : lw_okq (⟨"TwoLetterFormsModel", "cell", "(II)I"⟩, 39) := ⟨⟨by decide +kernel, by decide +kernel⟩, List.mem_of_getElem? (i := 811) (by decide +kernel), List.mem_of_getElem? (i := 1072) (by decide +kernel), List.mem_of_getElem? (i := 1073) (by decide +kernel)⟩
theorem lw_p46 : lw_okq (⟨"TwoLetterFormsModel", "links", "(II)V"⟩, 39) := ⟨⟨by decide +kernel, by decide +kernel⟩, List.mem_of_getElem? (i := 811) (by decide +kernel), List.mem_of_getElem? (i := 1076) (by decide +kernel), List.mem_of_getElem? (i := 1077) (by decide +kernel)⟩
theorem lw_p47 : lw_okq (⟨"TwoLetterFormsModel", "leastOf", "(I)I"⟩, 39) := ⟨⟨by decide +kernel, by decide +kernel⟩, List.mem_of_getElem? (i := 811) (by decide +kernel), List.mem_of_getElem? (i := 1080) (by decide +kernel), List.mem_of_getElem? (i := 1081) (by decide +kernel)⟩
def lw_privs_3 : List (MethodName × Nat) := [(⟨"TwoLetterFormsModel", "becomesTurned", "()Z"⟩, 39), (⟨"TwoLetterFormsModel", "remainders", "(I)I"⟩, 39), (⟨"TwoLetterFormsModel", "valueAt", "(JJ)J"⟩, 39), (⟨"TwoLetterFormsModel", "bars", "(I)Z"⟩, 39), (⟨"TwoLetterFormsModel", "tellsAnswers", "()V"⟩, 39), (⟨"TwoLetterFormsModel", "firstBar", "()I"⟩, 39), (⟨"TwoLetterFormsModel", "tellsParts", "()V"⟩, 39), (⟨"TwoLetterFormsModel", "greatest", "(I)I"⟩, 39), (⟨"TwoLetterFormsModel", "rowAt", "(J)J"⟩, 39), (⟨"TwoLetterFormsModel", "goesOn", "(I)Z"⟩, 39), (⟨"TwoLetterFormsModel", "tellsConvergent", "(I)V"⟩, 39), (⟨"TwoLetterFormsModel", "tellsUnits", "()V"⟩, 39), (⟨"TwoLetterFormsModel", "tellsFamilies", "()V"⟩, 39), (⟨"TwoLetterFormsModel", "cell", "(II)I"⟩, 39), (⟨"TwoLetterFormsModel", "links", "(II)V"⟩, 39), (⟨"TwoLetterFormsModel", "leastOf", "(I)I"⟩, 39)]
theorem lw_r3 : ∀ q ∈ lw_privs_3, lw_okq q := List.forall_mem_cons.mpr ⟨lw_p32, List.forall_mem_cons.mpr ⟨lw_p33, List.forall_mem_cons.mpr ⟨lw_p34, List.forall_mem_cons.mpr ⟨lw_p35, List.forall_mem_cons.mpr ⟨lw_p36, List.forall_mem_cons.mpr ⟨lw_p37, List.forall_mem_cons.mpr ⟨lw_p38, List.forall_mem_cons.mpr ⟨lw_p39, List.forall_mem_cons.mpr ⟨lw_p40, List.forall_mem_cons.mpr ⟨lw_p41, List.forall_mem_cons.mpr ⟨lw_p42, List.forall_mem_cons.mpr ⟨lw_p43, List.forall_mem_cons.mpr ⟨lw_p44, List.forall_mem_cons.mpr ⟨lw_p45, List.forall_mem_cons.mpr ⟨lw_p46, List.forall_mem_cons.mpr ⟨lw_p47, fun _ h => absurd h List.not_mem_nil⟩⟩⟩⟩⟩⟩⟩⟩⟩⟩⟩⟩⟩⟩⟩⟩
theorem lw_p48 : lw_okq (⟨"TwoLetterFormsModel", "answering", "()I"⟩, 39) := ⟨⟨by decide +kernel, by decide +kernel⟩, List.mem_of_getElem? (i := 811) (by decide +kernel), List.mem_of_getElem? (i := 1084) (by decide +kernel), List.mem_of_getElem? (i := 1085) (by decide +kernel)⟩
theorem lw_p49 : lw_okq (⟨"TwoLetterFormsModel", "readsClause", "(I)Z"⟩, 39) := ⟨⟨by decide +kernel, by decide +kernel⟩, List.mem_of_getElem? (i := 811) (by decide +kernel), List.mem_of_getElem? (i := 1116) (by decide +kernel), List.mem_of_getElem? (i := 1117) (by decide +kernel)⟩
theorem lw_p50 : lw_okq (⟨"TwoLetterFormsModel", "here", "()I"⟩, 39) := ⟨⟨by decide +kernel, by decide +kernel⟩, List.mem_of_getElem? (i := 811) (by decide +kernel), List.mem_of_getElem? (i := 1120) (by decide +kernel), List.mem_of_getElem? (i := 1121) (by decide +kernel)⟩
theorem lw_p51 : lw_okq (⟨"TwoLetterFormsModel", "readsDigit", "(I)Z"⟩, 39) := ⟨⟨by decide +kernel, by decide +kernel⟩, List.mem_of_getElem? (i := 811) (by decide +kernel), List.mem_of_getElem? (i := 1124) (by decide +kernel), List.mem_of_getElem? (i := 1125) (by decide +kernel)⟩
theorem lw_p52 : lw_okq (⟨"TwoLetterFormsModel", "isDigit", "()Z"⟩, 39) := ⟨⟨by decide +kernel, by decide +kernel⟩, List.mem_of_getElem? (i := 811) (by decide +kernel), List.mem_of_getElem? (i := 1128) (by decide +kernel), List.mem_of_getElem? (i := 1129) (by decide +kernel)⟩
theorem lw_p53 : lw_okq (⟨"TwoLetterFormsModel", "readsNumber", "(I)Z"⟩, 39) := ⟨⟨by decide +kernel, by decide +kernel⟩, List.mem_of_getElem? (i := 811) (by decide +kernel), List.mem_of_getElem? (i := 1134) (by decide +kernel), List.mem_of_getElem? (i := 1135) (by decide +kernel)⟩
theorem lw_p54 : lw_okq (⟨"TwoLetterFormsModel", "does", "(I)I"⟩, 39) := ⟨⟨by decide +kernel, by decide +kernel⟩, List.mem_of_getElem? (i := 811) (by decide +kernel), List.mem_of_getElem? (i := 1138) (by decide +kernel), List.mem_of_getElem? (i := 1139) (by decide +kernel)⟩
theorem lw_p55 : lw_okq (⟨"TwoLetterFormsModel", "happens", "(II)V"⟩, 39) := ⟨⟨by decide +kernel, by decide +kernel⟩, List.mem_of_getElem? (i := 811) (by decide +kernel), List.mem_of_getElem? (i := 1174) (by decide +kernel), List.mem_of_getElem? (i := 1175) (by decide +kernel)⟩
theorem lw_p56 : lw_okq (⟨"TwoLetterFormsModel", "lays", "(Z)V"⟩, 39) := ⟨⟨by decide +kernel, by decide +kernel⟩, List.mem_of_getElem? (i := 811) (by decide +kernel), List.mem_of_getElem? (i := 1201) (by decide +kernel), List.mem_of_getElem? (i := 1202) (by decide +kernel)⟩
theorem lw_p57 : lw_okq (⟨"TwoLetterFormsModel", "laysRow", "(Z[II)V"⟩, 39) := ⟨⟨by decide +kernel, by decide +kernel⟩, List.mem_of_getElem? (i := 811) (by decide +kernel), List.mem_of_getElem? (i := 1205) (by decide +kernel), List.mem_of_getElem? (i := 1206) (by decide +kernel)⟩
theorem lw_p58 : lw_okq (⟨"TwoLetterFormsModel", "areThere", "(III)Z"⟩, 39) := ⟨⟨by decide +kernel, by decide +kernel⟩, List.mem_of_getElem? (i := 811) (by decide +kernel), List.mem_of_getElem? (i := 1236) (by decide +kernel), List.mem_of_getElem? (i := 1237) (by decide +kernel)⟩
def lw_privs_4 : List (MethodName × Nat) := [(⟨"TwoLetterFormsModel", "answering", "()I"⟩, 39), (⟨"TwoLetterFormsModel", "readsClause", "(I)Z"⟩, 39), (⟨"TwoLetterFormsModel", "here", "()I"⟩, 39), (⟨"TwoLetterFormsModel", "readsDigit", "(I)Z"⟩, 39), (⟨"TwoLetterFormsModel", "isDigit", "()Z"⟩, 39), (⟨"TwoLetterFormsModel", "readsNumber", "(I)Z"⟩, 39), (⟨"TwoLetterFormsModel", "does", "(I)I"⟩, 39), (⟨"TwoLetterFormsModel", "happens", "(II)V"⟩, 39), (⟨"TwoLetterFormsModel", "lays", "(Z)V"⟩, 39), (⟨"TwoLetterFormsModel", "laysRow", "(Z[II)V"⟩, 39), (⟨"TwoLetterFormsModel", "areThere", "(III)Z"⟩, 39)]
theorem lw_r4 : ∀ q ∈ lw_privs_4, lw_okq q := List.forall_mem_cons.mpr ⟨lw_p48, List.forall_mem_cons.mpr ⟨lw_p49, List.forall_mem_cons.mpr ⟨lw_p50, List.forall_mem_cons.mpr ⟨lw_p51, List.forall_mem_cons.mpr ⟨lw_p52, List.forall_mem_cons.mpr ⟨lw_p53, List.forall_mem_cons.mpr ⟨lw_p54, List.forall_mem_cons.mpr ⟨lw_p55, List.forall_mem_cons.mpr ⟨lw_p56, List.forall_mem_cons.mpr ⟨lw_p57, List.forall_mem_cons.mpr ⟨lw_p58, fun _ h => absurd h List.not_mem_nil⟩⟩⟩⟩⟩⟩⟩⟩⟩⟩⟩
def lw_privs : List (MethodName × Nat) := lw_privs_1 ++ (lw_privs_2 ++ (lw_privs_3 ++ (lw_privs_4)))
def lw_tbl : List Cond := k2_sels lw_privs ++ tables_1
theorem lw_privs_ok : ∀ q ∈ lw_privs, lw_okq q := by
  show ∀ q ∈ lw_privs_1 ++ (lw_privs_2 ++ (lw_privs_3 ++ (lw_privs_4))), lw_okq q
  exact List.forall_mem_append.mpr ⟨lw_r1, List.forall_mem_append.mpr ⟨lw_r2, List.forall_mem_append.mpr ⟨lw_r3, lw_r4⟩⟩⟩
def RX0 : String := "TwoLetterForms$Answers"
def TX0 : u_T := fun k => match k with
  | 0 => ("TwoLetterForms$Answers", "size", "I", false)
  | 1 => ("TwoLetterForms$Answers", "families", "I", false)
  | 2 => ("TwoLetterForms$Answers", "looked", "Z", false)
  | 3 => ("TwoLetterForms$Answers", "familiesFound", "Z", false)
  | 4 => ("TwoLetterForms$Answers", "equation", "LTwoLetterForms$Equation;", true)
  | _ => ("TwoLetterForms$Answers", "labels", "[I", true)
def tyX0 : Nat → FieldType := fun k => match k with
  | 0 => .int
  | 1 => .int
  | 2 => .boolean
  | 3 => .boolean
  | 4 => .object "TwoLetterForms$Equation"
  | _ => .array .int
abbrev wsX00 : List Cond := u_ws RX0 TX0 6
theorem nmX0 : ∀ a, a < 6 → ∀ b, b < 6 → a ≠ b → (TX0 a).2.1 ≠ (TX0 b).2.1 := by decide +kernel
theorem tyX0_ok : ∀ k, k < 6 → parseFieldDescriptor (TX0 k).2.2.1 = some (tyX0 k) := by decide +kernel
abbrev cX0_init : ByteArray := prog_2_method_1_code
def yX0_init : MethodName := ⟨RX0, "<init>", "()V"⟩
abbrev cX0_xOf : ByteArray := prog_2_method_2_code
def yX0_xOf : MethodName := ⟨RX0, "xOf", "(I)I"⟩
abbrev cX0_yOf : ByteArray := prog_2_method_3_code
def yX0_yOf : MethodName := ⟨RX0, "yOf", "(I)I"⟩
abbrev cX0_look : ByteArray := prog_2_method_4_code
def yX0_look : MethodName := ⟨RX0, "look", "(LTwoLetterForms$Equation;)V"⟩
abbrev cX0_findFamilies : ByteArray := prog_2_method_5_code
def yX0_findFamilies : MethodName := ⟨RX0, "findFamilies", "(LTwoLetterForms$Units;)V"⟩
abbrev cX0_cellOfAnswer : ByteArray := prog_2_method_6_code
def yX0_cellOfAnswer : MethodName := ⟨RX0, "cellOfAnswer", "(I)I"⟩
abbrev cX0_sizeOfFamily : ByteArray := prog_2_method_7_code
def yX0_sizeOfFamily : MethodName := ⟨RX0, "sizeOfFamily", "(I)I"⟩
abbrev cX0_labelAt : ByteArray := prog_2_method_8_code
def yX0_labelAt : MethodName := ⟨RX0, "labelAt", "(I)I"⟩
abbrev cX0_setLabel : ByteArray := prog_2_method_9_code
def yX0_setLabel : MethodName := ⟨RX0, "setLabel", "(II)V"⟩
abbrev cX0_cellAt : ByteArray := prog_2_method_10_code
def yX0_cellAt : MethodName := ⟨RX0, "cellAt", "(II)I"⟩
abbrev cX0_spread : ByteArray := prog_2_method_11_code
def yX0_spread : MethodName := ⟨RX0, "spread", "(ILTwoLetterForms$Units;)V"⟩
abbrev cX0_await : ByteArray := prog_2_method_12_code
def yX0_await : MethodName := ⟨RX0, "await", "(II)I"⟩
abbrev cX0_behind : ByteArray := prog_2_method_13_code
def yX0_behind : MethodName := ⟨RX0, "behind", "(I)I"⟩
def RX1 : String := "TwoLetterForms$Equation"
def TX1 : u_T := fun k => match k with
  | 0 => ("TwoLetterForms$Equation", "form", "LTwoLetterForms$Form;", true)
  | 1 => ("TwoLetterForms$Equation", "m", "I", false)
  | _ => ("TwoLetterForms$Equation", "b", "I", false)
def tyX1 : Nat → FieldType := fun k => match k with
  | 0 => .object "TwoLetterForms$Form"
  | 1 => .int
  | _ => .int
abbrev wsX10 : List Cond := u_ws RX1 TX1 3
theorem nmX1 : ∀ a, a < 3 → ∀ b, b < 3 → a ≠ b → (TX1 a).2.1 ≠ (TX1 b).2.1 := by decide +kernel
theorem tyX1_ok : ∀ k, k < 3 → parseFieldDescriptor (TX1 k).2.2.1 = some (tyX1 k) := by decide +kernel
abbrev cX1_init : ByteArray := prog_3_method_1_code
def yX1_init : MethodName := ⟨RX1, "<init>", "()V"⟩
abbrev cX1_copy : ByteArray := prog_3_method_2_code
def yX1_copy : MethodName := ⟨RX1, "copy", "(LTwoLetterForms$Equation;)V"⟩
abbrev cX1_isLike : ByteArray := prog_3_method_3_code
def yX1_isLike : MethodName := ⟨RX1, "isLike", "(LTwoLetterForms$Equation;)Z"⟩
abbrev cX1_hasInWindow : ByteArray := prog_3_method_4_code
def yX1_hasInWindow : MethodName := ⟨RX1, "hasInWindow", "(JJ)Z"⟩
abbrev cX1_isAnswer : ByteArray := prog_3_method_5_code
def yX1_isAnswer : MethodName := ⟨RX1, "isAnswer", "(JJ)Z"⟩
abbrev cX1_twos : ByteArray := prog_3_method_6_code
def yX1_twos : MethodName := ⟨RX1, "twos", "()J"⟩
abbrev cX1_howManyAnswers : ByteArray := prog_3_method_7_code
def yX1_howManyAnswers : MethodName := ⟨RX1, "howManyAnswers", "()I"⟩
abbrev cX1_valuesAboveM : ByteArray := prog_3_method_8_code
def yX1_valuesAboveM : MethodName := ⟨RX1, "valuesAboveM", "()J"⟩
abbrev cX1_valuesTogether : ByteArray := prog_3_method_9_code
def yX1_valuesTogether : MethodName := ⟨RX1, "valuesTogether", "()J"⟩
abbrev cX1_isBarredBy : ByteArray := prog_3_method_10_code
def yX1_isBarredBy : MethodName := ⟨RX1, "isBarredBy", "(I)Z"⟩
abbrev cX1_firstBar : ByteArray := prog_3_method_11_code
def yX1_firstBar : MethodName := ⟨RX1, "firstBar", "()I"⟩
abbrev cX1_addToM : ByteArray := prog_3_method_12_code
def yX1_addToM : MethodName := ⟨RX1, "addToM", "(I)V"⟩
def RX2 : String := "TwoLetterForms$Form"
def TX2 : u_T := fun k => match k with
  | 0 => ("TwoLetterForms$Form", "degree", "I", false)
  | 1 => ("TwoLetterForms$Form", "numbers", "[I", true)
  | 2 => ("TwoLetterForms$Form", "turned", "[J", true)
  | _ => ("TwoLetterForms$Form", "power", "[J", true)
def tyX2 : Nat → FieldType := fun k => match k with
  | 0 => .int
  | 1 => .array .int
  | 2 => .array .long
  | _ => .array .long
abbrev wsX20 : List Cond := u_ws RX2 TX2 4
theorem nmX2 : ∀ a, a < 4 → ∀ b, b < 4 → a ≠ b → (TX2 a).2.1 ≠ (TX2 b).2.1 := by decide +kernel
theorem tyX2_ok : ∀ k, k < 4 → parseFieldDescriptor (TX2 k).2.2.1 = some (tyX2 k) := by decide +kernel
abbrev cX2_init : ByteArray := prog_4_method_1_code
def yX2_init : MethodName := ⟨RX2, "<init>", "()V"⟩
abbrev cX2_isMove : ByteArray := prog_4_method_2_code
def yX2_isMove : MethodName := ⟨RX2, "isMove", "(I)Z"⟩
abbrev cX2_clear : ByteArray := prog_4_method_3_code
def yX2_clear : MethodName := ⟨RX2, "clear", "(I)V"⟩
abbrev cX2_copy : ByteArray := prog_4_method_4_code
def yX2_copy : MethodName := ⟨RX2, "copy", "(LTwoLetterForms$Form;)V"⟩
abbrev cX2_isLike : ByteArray := prog_4_method_5_code
def yX2_isLike : MethodName := ⟨RX2, "isLike", "(LTwoLetterForms$Form;)Z"⟩
abbrev cX2_has : ByteArray := prog_4_method_6_code
def yX2_has : MethodName := ⟨RX2, "has", "(I)Z"⟩
abbrev cX2_get : ByteArray := prog_4_method_7_code
def yX2_get : MethodName := ⟨RX2, "get", "(I)I"⟩
abbrev cX2_set : ByteArray := prog_4_method_8_code
def yX2_set : MethodName := ⟨RX2, "set", "(II)V"⟩
abbrev cX2_raise : ByteArray := prog_4_method_9_code
def yX2_raise : MethodName := ⟨RX2, "raise", "(I)V"⟩
abbrev cX2_at : ByteArray := prog_4_method_10_code
def yX2_at : MethodName := ⟨RX2, "at", "(JJ)J"⟩
abbrev cX2_remaindersBy : ByteArray := prog_4_method_11_code
def yX2_remaindersBy : MethodName := ⟨RX2, "remaindersBy", "(I)I"⟩
abbrev cX2_moveBy : ByteArray := prog_4_method_12_code
def yX2_moveBy : MethodName := ⟨RX2, "moveBy", "(I)Z"⟩
abbrev cX2_turnBy : ByteArray := prog_4_method_13_code
def yX2_turnBy : MethodName := ⟨RX2, "turnBy", "(IIII)Z"⟩
abbrev cX2_isLeftBy : ByteArray := prog_4_method_14_code
def yX2_isLeftBy : MethodName := ⟨RX2, "isLeftBy", "(IIII)Z"⟩
abbrev cX2_findTurned : ByteArray := prog_4_method_15_code
def yX2_findTurned : MethodName := ⟨RX2, "findTurned", "(IIII)V"⟩
abbrev cX2_multiply : ByteArray := prog_4_method_16_code
def yX2_multiply : MethodName := ⟨RX2, "multiply", "([JII)V"⟩
def RX3 : String := "TwoLetterForms$Parts"
def TX3 : u_T := fun k => match k with
  | 0 => ("TwoLetterForms$Parts", "size", "I", false)
  | 1 => ("TwoLetterForms$Parts", "degree", "I", false)
  | 2 => ("TwoLetterForms$Parts", "row", "[J", true)
  | 3 => ("TwoLetterForms$Parts", "wholes", "[I", true)
  | 4 => ("TwoLetterForms$Parts", "aboves", "[J", true)
  | _ => ("TwoLetterForms$Parts", "belows", "[J", true)
def tyX3 : Nat → FieldType := fun k => match k with
  | 0 => .int
  | 1 => .int
  | 2 => .array .long
  | 3 => .array .int
  | 4 => .array .long
  | _ => .array .long
abbrev wsX30 : List Cond := u_ws RX3 TX3 6
theorem nmX3 : ∀ a, a < 6 → ∀ b, b < 6 → a ≠ b → (TX3 a).2.1 ≠ (TX3 b).2.1 := by decide +kernel
theorem tyX3_ok : ∀ k, k < 6 → parseFieldDescriptor (TX3 k).2.2.1 = some (tyX3 k) := by decide +kernel
abbrev cX3_init : ByteArray := prog_5_method_1_code
def yX3_init : MethodName := ⟨RX3, "<init>", "()V"⟩
abbrev cX3_look : ByteArray := prog_5_method_2_code
def yX3_look : MethodName := ⟨RX3, "look", "(LTwoLetterForms$Form;)V"⟩
abbrev cX3_get : ByteArray := prog_5_method_3_code
def yX3_get : MethodName := ⟨RX3, "get", "(I)I"⟩
abbrev cX3_above : ByteArray := prog_5_method_4_code
def yX3_above : MethodName := ⟨RX3, "above", "(I)J"⟩
abbrev cX3_below : ByteArray := prog_5_method_5_code
def yX3_below : MethodName := ⟨RX3, "below", "(I)J"⟩
abbrev cX3_greatestFrom : ByteArray := prog_5_method_6_code
def yX3_greatestFrom : MethodName := ⟨RX3, "greatestFrom", "(I)I"⟩
abbrev cX3_at : ByteArray := prog_5_method_7_code
def yX3_at : MethodName := ⟨RX3, "at", "(I)J"⟩
abbrev cX3_keep : ByteArray := prog_5_method_8_code
def yX3_keep : MethodName := ⟨RX3, "keep", "(I)V"⟩
abbrev cX3_goBehind : ByteArray := prog_5_method_9_code
def yX3_goBehind : MethodName := ⟨RX3, "goBehind", "(I)V"⟩
abbrev cX3_isRowBeyond : ByteArray := prog_5_method_10_code
def yX3_isRowBeyond : MethodName := ⟨RX3, "isRowBeyond", "()Z"⟩
def RX4 : String := "TwoLetterForms$Rows"
def TX4 : u_T := fun k => match k with
  | 0 => ("TwoLetterForms$Rows", "size", "I", false)
  | _ => ("TwoLetterForms$Rows", "cells", "[I", true)
def tyX4 : Nat → FieldType := fun k => match k with
  | 0 => .int
  | _ => .array .int
abbrev wsX40 : List Cond := u_ws RX4 TX4 2
theorem nmX4 : ∀ a, a < 2 → ∀ b, b < 2 → a ≠ b → (TX4 a).2.1 ≠ (TX4 b).2.1 := by decide +kernel
theorem tyX4_ok : ∀ k, k < 2 → parseFieldDescriptor (TX4 k).2.2.1 = some (tyX4 k) := by decide +kernel
abbrev cX4_init : ByteArray := prog_6_method_1_code
def yX4_init : MethodName := ⟨RX4, "<init>", "(I)V"⟩
abbrev cX4_empty : ByteArray := prog_6_method_2_code
def yX4_empty : MethodName := ⟨RX4, "empty", "()I"⟩
abbrev cX4_add : ByteArray := prog_6_method_3_code
def yX4_add : MethodName := ⟨RX4, "add", "(III)I"⟩
abbrev cX4_copy : ByteArray := prog_6_method_4_code
def yX4_copy : MethodName := ⟨RX4, "copy", "(LTwoLetterForms$Rows;)V"⟩
abbrev cX4_first : ByteArray := prog_6_method_5_code
def yX4_first : MethodName := ⟨RX4, "first", "(I)I"⟩
abbrev cX4_second : ByteArray := prog_6_method_6_code
def yX4_second : MethodName := ⟨RX4, "second", "(I)I"⟩
abbrev cX4_third : ByteArray := prog_6_method_7_code
def yX4_third : MethodName := ⟨RX4, "third", "(I)I"⟩
abbrev cX4_cell : ByteArray := prog_6_method_8_code
def yX4_cell : MethodName := ⟨RX4, "cell", "(II)I"⟩
def RX5 : String := "TwoLetterForms$SetUp"
def TX5 : u_T := fun k => match k with
  | 0 => ("TwoLetterForms$SetUp", "size", "I", false)
  | 1 => ("TwoLetterForms$SetUp", "clauses", "LTwoLetterForms$Rows;", true)
  | 2 => ("TwoLetterForms$SetUp", "bytes", "[I", true)
  | 3 => ("TwoLetterForms$SetUp", "place", "I", false)
  | 4 => ("TwoLetterForms$SetUp", "digit", "I", false)
  | _ => ("TwoLetterForms$SetUp", "n", "I", false)
def tyX5 : Nat → FieldType := fun k => match k with
  | 0 => .int
  | 1 => .object "TwoLetterForms$Rows"
  | 2 => .array .int
  | 3 => .int
  | 4 => .int
  | _ => .int
abbrev wsX50 : List Cond := u_ws RX5 TX5 6
theorem nmX5 : ∀ a, a < 6 → ∀ b, b < 6 → a ≠ b → (TX5 a).2.1 ≠ (TX5 b).2.1 := by decide +kernel
theorem tyX5_ok : ∀ k, k < 6 → parseFieldDescriptor (TX5 k).2.2.1 = some (tyX5 k) := by decide +kernel
abbrev cX5_init : ByteArray := prog_7_method_1_code
def yX5_init : MethodName := ⟨RX5, "<init>", "()V"⟩
abbrev cX5_add : ByteArray := prog_7_method_2_code
def yX5_add : MethodName := ⟨RX5, "add", "(I)Z"⟩
abbrev cX5_findFault : ByteArray := prog_7_method_3_code
def yX5_findFault : MethodName := ⟨RX5, "findFault", "()I"⟩
abbrev cX5_next : ByteArray := prog_7_method_4_code
def yX5_next : MethodName := ⟨RX5, "next", "()I"⟩
abbrev cX5_takeClause : ByteArray := prog_7_method_5_code
def yX5_takeClause : MethodName := ⟨RX5, "takeClause", "()Z"⟩
abbrev cX5_isKind : ByteArray := prog_7_method_6_code
def yX5_isKind : MethodName := ⟨RX5, "isKind", "(I)Z"⟩
abbrev cX5_hasDigit : ByteArray := prog_7_method_7_code
def yX5_hasDigit : MethodName := ⟨RX5, "hasDigit", "(I)Z"⟩
abbrev cX5_hasNumber : ByteArray := prog_7_method_8_code
def yX5_hasNumber : MethodName := ⟨RX5, "hasNumber", "(I)Z"⟩
abbrev cX5_isAtDigit : ByteArray := prog_7_method_9_code
def yX5_isAtDigit : MethodName := ⟨RX5, "isAtDigit", "()Z"⟩
abbrev cX5_takeDigit : ByteArray := prog_7_method_10_code
def yX5_takeDigit : MethodName := ⟨RX5, "takeDigit", "()Z"⟩
abbrev cX5_takeNumber : ByteArray := prog_7_method_11_code
def yX5_takeNumber : MethodName := ⟨RX5, "takeNumber", "()Z"⟩
def RX6 : String := "TwoLetterForms$State"
def TX6 : u_T := fun k => match k with
  | 0 => ("TwoLetterForms$State", "equation", "LTwoLetterForms$Equation;", true)
  | 1 => ("TwoLetterForms$State", "seen", "LTwoLetterForms$Rows;", true)
  | 2 => ("TwoLetterForms$State", "events", "LTwoLetterForms$Rows;", true)
  | _ => ("TwoLetterForms$State", "book", "LTwoLetterForms$Rows;", true)
def tyX6 : Nat → FieldType := fun k => match k with
  | 0 => .object "TwoLetterForms$Equation"
  | 1 => .object "TwoLetterForms$Rows"
  | 2 => .object "TwoLetterForms$Rows"
  | _ => .object "TwoLetterForms$Rows"
abbrev wsX60 : List Cond := u_ws RX6 TX6 4
theorem nmX6 : ∀ a, a < 4 → ∀ b, b < 4 → a ≠ b → (TX6 a).2.1 ≠ (TX6 b).2.1 := by decide +kernel
theorem tyX6_ok : ∀ k, k < 4 → parseFieldDescriptor (TX6 k).2.2.1 = some (tyX6 k) := by decide +kernel
abbrev cX6_init : ByteArray := prog_8_method_1_code
def yX6_init : MethodName := ⟨RX6, "<init>", "()V"⟩
abbrev cX6_copy : ByteArray := prog_8_method_2_code
def yX6_copy : MethodName := ⟨RX6, "copy", "(LTwoLetterForms$State;)V"⟩
def RX7 : String := "TwoLetterForms$Tape"
def TX7 : u_T := fun k => match k with
  | 0 => ("TwoLetterForms$Tape", "sort", "I", false)
  | 1 => ("TwoLetterForms$Tape", "items", "[J", true)
  | _ => ("TwoLetterForms$Tape", "size", "I", false)
def tyX7 : Nat → FieldType := fun k => match k with
  | 0 => .int
  | 1 => .array .long
  | _ => .int
abbrev wsX70 : List Cond := u_ws RX7 TX7 3
theorem nmX7 : ∀ a, a < 3 → ∀ b, b < 3 → a ≠ b → (TX7 a).2.1 ≠ (TX7 b).2.1 := by decide +kernel
theorem tyX7_ok : ∀ k, k < 3 → parseFieldDescriptor (TX7 k).2.2.1 = some (tyX7 k) := by decide +kernel
abbrev cX7_init : ByteArray := prog_9_method_1_code
def yX7_init : MethodName := ⟨RX7, "<init>", "()V"⟩
abbrev cX7_become : ByteArray := prog_9_method_2_code
def yX7_become : MethodName := ⟨RX7, "become", "(II)V"⟩
abbrev cX7_holdsNothing : ByteArray := prog_9_method_3_code
def yX7_holdsNothing : MethodName := ⟨RX7, "holdsNothing", "()Z"⟩
abbrev cX7_has : ByteArray := prog_9_method_4_code
def yX7_has : MethodName := ⟨RX7, "has", "(I)Z"⟩
abbrev cX7_hasAll : ByteArray := prog_9_method_5_code
def yX7_hasAll : MethodName := ⟨RX7, "hasAll", "(II)Z"⟩
abbrev cX7_get : ByteArray := prog_9_method_6_code
def yX7_get : MethodName := ⟨RX7, "get", "(I)J"⟩
abbrev cX7_set : ByteArray := prog_9_method_7_code
def yX7_set : MethodName := ⟨RX7, "set", "(IJ)V"⟩
abbrev cX7_lowestBits : ByteArray := prog_9_method_8_code
def yX7_lowestBits : MethodName := ⟨RX7, "lowestBits", "(J)J"⟩
def RX8 : String := "TwoLetterForms$Units"
def TX8 : u_T := fun k => match k with
  | 0 => ("TwoLetterForms$Units", "size", "I", false)
  | _ => ("TwoLetterForms$Units", "entries", "[I", true)
def tyX8 : Nat → FieldType := fun k => match k with
  | 0 => .int
  | _ => .array .int
abbrev wsX80 : List Cond := u_ws RX8 TX8 2
theorem nmX8 : ∀ a, a < 2 → ∀ b, b < 2 → a ≠ b → (TX8 a).2.1 ≠ (TX8 b).2.1 := by decide +kernel
theorem tyX8_ok : ∀ k, k < 2 → parseFieldDescriptor (TX8 k).2.2.1 = some (tyX8 k) := by decide +kernel
abbrev cX8_init : ByteArray := prog_10_method_1_code
def yX8_init : MethodName := ⟨RX8, "<init>", "()V"⟩
abbrev cX8_look : ByteArray := prog_10_method_2_code
def yX8_look : MethodName := ⟨RX8, "look", "(LTwoLetterForms$Form;)V"⟩
abbrev cX8_get : ByteArray := prog_10_method_3_code
def yX8_get : MethodName := ⟨RX8, "get", "(II)I"⟩
abbrev cX8_add : ByteArray := prog_10_method_4_code
def yX8_add : MethodName := ⟨RX8, "add", "(IIII)V"⟩
def RX9 : String := "TwoLetterForms"
def TX9 : u_T := fun k => match k with
  | 0 => ("TwoLetterForms", "now", "LTwoLetterForms$State;", true)
  | 1 => ("TwoLetterForms", "kept", "LTwoLetterForms$State;", true)
  | 2 => ("TwoLetterForms", "imageTaken", "Z", false)
  | 3 => ("TwoLetterForms", "tried", "LTwoLetterForms$Equation;", true)
  | 4 => ("TwoLetterForms", "answers", "LTwoLetterForms$Answers;", true)
  | 5 => ("TwoLetterForms", "units", "LTwoLetterForms$Units;", true)
  | 6 => ("TwoLetterForms", "parts", "LTwoLetterForms$Parts;", true)
  | 7 => ("TwoLetterForms", "text", "LTwoLetterForms$SetUp;", true)
  | _ => ("TwoLetterForms", "tapes", "[LTwoLetterForms$Tape;", true)
def tyX9 : Nat → FieldType := fun k => match k with
  | 0 => .object "TwoLetterForms$State"
  | 1 => .object "TwoLetterForms$State"
  | 2 => .boolean
  | 3 => .object "TwoLetterForms$Equation"
  | 4 => .object "TwoLetterForms$Answers"
  | 5 => .object "TwoLetterForms$Units"
  | 6 => .object "TwoLetterForms$Parts"
  | 7 => .object "TwoLetterForms$SetUp"
  | _ => .array (.object "TwoLetterForms$Tape")
abbrev wsX90 : List Cond := u_ws RX9 TX9 9
theorem nmX9 : ∀ a, a < 9 → ∀ b, b < 9 → a ≠ b → (TX9 a).2.1 ≠ (TX9 b).2.1 := by decide +kernel
theorem tyX9_ok : ∀ k, k < 9 → parseFieldDescriptor (TX9 k).2.2.1 = some (tyX9 k) := by decide +kernel
abbrev cX9_init : ByteArray := prog_1_method_1_code
def yX9_init : MethodName := ⟨RX9, "<init>", "()V"⟩
abbrev cX9_degree : ByteArray := prog_1_method_2_code
def yX9_degree : MethodName := ⟨RX9, "degree", "(I)I"⟩
abbrev cX9_number : ByteArray := prog_1_method_3_code
def yX9_number : MethodName := ⟨RX9, "number", "(II)I"⟩
abbrev cX9_equal : ByteArray := prog_1_method_4_code
def yX9_equal : MethodName := ⟨RX9, "equal", "(I)I"⟩
abbrev cX9_window : ByteArray := prog_1_method_5_code
def yX9_window : MethodName := ⟨RX9, "window", "(I)I"⟩
abbrev cX9_move : ByteArray := prog_1_method_6_code
def yX9_move : MethodName := ⟨RX9, "move", "(I)I"⟩
abbrev cX9_turn : ByteArray := prog_1_method_7_code
def yX9_turn : MethodName := ⟨RX9, "turn", "(IIII)I"⟩
abbrev cX9_feed : ByteArray := prog_1_method_8_code
def yX9_feed : MethodName := ⟨RX9, "feed", "(I)I"⟩
abbrev cX9_read : ByteArray := prog_1_method_9_code
def yX9_read : MethodName := ⟨RX9, "read", "()I"⟩
abbrev cX9_of : ByteArray := prog_1_method_10_code
def yX9_of : MethodName := ⟨RX9, "of", "(I)I"⟩
abbrev cX9_told : ByteArray := prog_1_method_11_code
def yX9_told : MethodName := ⟨RX9, "told", "(I)I"⟩
abbrev cX9_value : ByteArray := prog_1_method_12_code
def yX9_value : MethodName := ⟨RX9, "value", "(II)J"⟩
abbrev cX9_answer : ByteArray := prog_1_method_13_code
def yX9_answer : MethodName := ⟨RX9, "answer", "(II)I"⟩
abbrev cX9_prime : ByteArray := prog_1_method_14_code
def yX9_prime : MethodName := ⟨RX9, "prime", "(II)I"⟩
abbrev cX9_reason : ByteArray := prog_1_method_15_code
def yX9_reason : MethodName := ⟨RX9, "reason", "(I)I"⟩
abbrev cX9_unit : ByteArray := prog_1_method_16_code
def yX9_unit : MethodName := ⟨RX9, "unit", "(II)I"⟩
abbrev cX9_family : ByteArray := prog_1_method_17_code
def yX9_family : MethodName := ⟨RX9, "family", "(I)I"⟩
abbrev cX9_part : ByteArray := prog_1_method_18_code
def yX9_part : MethodName := ⟨RX9, "part", "(I)I"⟩
abbrev cX9_convergent : ByteArray := prog_1_method_19_code
def yX9_convergent : MethodName := ⟨RX9, "convergent", "(II)J"⟩
abbrev cX9_see : ByteArray := prog_1_method_20_code
def yX9_see : MethodName := ⟨RX9, "see", "(III)I"⟩
abbrev cX9_fits : ByteArray := prog_1_method_21_code
def yX9_fits : MethodName := ⟨RX9, "fits", "(II)I"⟩
abbrev cX9_odds : ByteArray := prog_1_method_22_code
def yX9_odds : MethodName := ⟨RX9, "odds", "(I)J"⟩
abbrev cX9_mean : ByteArray := prog_1_method_23_code
def yX9_mean : MethodName := ⟨RX9, "mean", "(I)J"⟩
abbrev cX9_event : ByteArray := prog_1_method_24_code
def yX9_event : MethodName := ⟨RX9, "event", "(II)I"⟩
abbrev cX9_after : ByteArray := prog_1_method_25_code
def yX9_after : MethodName := ⟨RX9, "after", "(I)I"⟩
abbrev cX9_book : ByteArray := prog_1_method_26_code
def yX9_book : MethodName := ⟨RX9, "book", "(II)I"⟩
abbrev cX9_looked : ByteArray := prog_1_method_27_code
def yX9_looked : MethodName := ⟨RX9, "looked", "()I"⟩
abbrev cX9_judge : ByteArray := prog_1_method_28_code
def yX9_judge : MethodName := ⟨RX9, "judge", "(II)I"⟩
abbrev cX9_image : ByteArray := prog_1_method_29_code
def yX9_image : MethodName := ⟨RX9, "image", "()I"⟩
abbrev cX9_undo : ByteArray := prog_1_method_30_code
def yX9_undo : MethodName := ⟨RX9, "undo", "()I"⟩
abbrev cX9_count : ByteArray := prog_1_method_31_code
def yX9_count : MethodName := ⟨RX9, "count", "(I)I"⟩
abbrev cX9_tape : ByteArray := prog_1_method_32_code
def yX9_tape : MethodName := ⟨RX9, "tape", "(III)I"⟩
abbrev cX9_item : ByteArray := prog_1_method_33_code
def yX9_item : MethodName := ⟨RX9, "item", "(IIJ)I"⟩
abbrev cX9_peek : ByteArray := prog_1_method_34_code
def yX9_peek : MethodName := ⟨RX9, "peek", "(II)J"⟩
abbrev cX9_shift : ByteArray := prog_1_method_35_code
def yX9_shift : MethodName := ⟨RX9, "shift", "(IIIII)I"⟩
abbrev cX9_between : ByteArray := prog_1_method_36_code
def yX9_between : MethodName := ⟨RX9, "between", "(III)Z"⟩
abbrev cX9_isTurn : ByteArray := prog_1_method_37_code
def yX9_isTurn : MethodName := ⟨RX9, "isTurn", "(I)Z"⟩
abbrev cX9_lowest : ByteArray := prog_1_method_38_code
def yX9_lowest : MethodName := ⟨RX9, "lowest", "(JJI)J"⟩
abbrev cX9_commonDivisor : ByteArray := prog_1_method_39_code
def yX9_commonDivisor : MethodName := ⟨RX9, "commonDivisor", "(JJ)J"⟩
abbrev cX9_answersNow : ByteArray := prog_1_method_40_code
def yX9_answersNow : MethodName := ⟨RX9, "answersNow", "()LTwoLetterForms$Answers;"⟩
abbrev cX9_answersInFamilies : ByteArray := prog_1_method_41_code
def yX9_answersInFamilies : MethodName := ⟨RX9, "answersInFamilies", "()LTwoLetterForms$Answers;"⟩
abbrev cX9_unitsNow : ByteArray := prog_1_method_42_code
def yX9_unitsNow : MethodName := ⟨RX9, "unitsNow", "()LTwoLetterForms$Units;"⟩
abbrev cX9_partsNow : ByteArray := prog_1_method_43_code
def yX9_partsNow : MethodName := ⟨RX9, "partsNow", "()LTwoLetterForms$Parts;"⟩
abbrev cX9_convergentAnswers : ByteArray := prog_1_method_44_code
def yX9_convergentAnswers : MethodName := ⟨RX9, "convergentAnswers", "()I"⟩
abbrev cX9_clauseAnswer : ByteArray := prog_1_method_45_code
def yX9_clauseAnswer : MethodName := ⟨RX9, "clauseAnswer", "(I)I"⟩
abbrev cX9_isAsSeen : ByteArray := prog_1_method_46_code
def yX9_isAsSeen : MethodName := ⟨RX9, "isAsSeen", "(LTwoLetterForms$Form;)Z"⟩
abbrev cX9_tryEvents : ByteArray := prog_1_method_47_code
def yX9_tryEvents : MethodName := ⟨RX9, "tryEvents", "()V"⟩
abbrev cX9_tapeAt : ByteArray := prog_1_method_48_code
def yX9_tapeAt : MethodName := ⟨RX9, "tapeAt", "(I)LTwoLetterForms$Tape;"⟩
def RX10 : String := "TwoLetterFormsModel"
def TX10 : u_T := fun k => match k with
  | 0 => ("TwoLetterFormsModel", "d", "I", false)
  | 1 => ("TwoLetterFormsModel", "a", "[J", true)
  | 2 => ("TwoLetterFormsModel", "m", "I", false)
  | 3 => ("TwoLetterFormsModel", "b", "I", false)
  | 4 => ("TwoLetterFormsModel", "seen", "[I", true)
  | 5 => ("TwoLetterFormsModel", "seenMany", "I", false)
  | 6 => ("TwoLetterFormsModel", "events", "[I", true)
  | 7 => ("TwoLetterFormsModel", "eventMany", "I", false)
  | 8 => ("TwoLetterFormsModel", "book", "[I", true)
  | 9 => ("TwoLetterFormsModel", "bookMany", "I", false)
  | 10 => ("TwoLetterFormsModel", "turned", "[J", true)
  | 11 => ("TwoLetterFormsModel", "product", "[J", true)
  | 12 => ("TwoLetterFormsModel", "answers", "[I", true)
  | 13 => ("TwoLetterFormsModel", "answerMany", "I", false)
  | 14 => ("TwoLetterFormsModel", "units", "[I", true)
  | 15 => ("TwoLetterFormsModel", "unitMany", "I", false)
  | 16 => ("TwoLetterFormsModel", "placeOf", "[I", true)
  | 17 => ("TwoLetterFormsModel", "lesser", "[I", true)
  | 18 => ("TwoLetterFormsModel", "familyOf", "[I", true)
  | 19 => ("TwoLetterFormsModel", "familyMany", "I", false)
  | 20 => ("TwoLetterFormsModel", "primes", "[I", true)
  | 21 => ("TwoLetterFormsModel", "isRest", "[Z", true)
  | 22 => ("TwoLetterFormsModel", "row", "[J", true)
  | 23 => ("TwoLetterFormsModel", "next", "[J", true)
  | 24 => ("TwoLetterFormsModel", "parts", "[I", true)
  | 25 => ("TwoLetterFormsModel", "partMany", "I", false)
  | 26 => ("TwoLetterFormsModel", "above", "J", false)
  | 27 => ("TwoLetterFormsModel", "below", "J", false)
  | 28 => ("TwoLetterFormsModel", "text", "[I", true)
  | 29 => ("TwoLetterFormsModel", "length", "I", false)
  | 30 => ("TwoLetterFormsModel", "at", "I", false)
  | 31 => ("TwoLetterFormsModel", "told", "[I", true)
  | 32 => ("TwoLetterFormsModel", "wereNumbers", "[J", true)
  | 33 => ("TwoLetterFormsModel", "sorts", "[I", true)
  | 34 => ("TwoLetterFormsModel", "sizes", "[I", true)
  | 35 => ("TwoLetterFormsModel", "items", "[J", true)
  | 36 => ("TwoLetterFormsModel", "hasImage", "Z", false)
  | 37 => ("TwoLetterFormsModel", "imageNumbers", "[J", true)
  | _ => ("TwoLetterFormsModel", "imageRows", "[I", true)
def tyX10 : Nat → FieldType := fun k => match k with
  | 0 => .int
  | 1 => .array .long
  | 2 => .int
  | 3 => .int
  | 4 => .array .int
  | 5 => .int
  | 6 => .array .int
  | 7 => .int
  | 8 => .array .int
  | 9 => .int
  | 10 => .array .long
  | 11 => .array .long
  | 12 => .array .int
  | 13 => .int
  | 14 => .array .int
  | 15 => .int
  | 16 => .array .int
  | 17 => .array .int
  | 18 => .array .int
  | 19 => .int
  | 20 => .array .int
  | 21 => .array .boolean
  | 22 => .array .long
  | 23 => .array .long
  | 24 => .array .int
  | 25 => .int
  | 26 => .long
  | 27 => .long
  | 28 => .array .int
  | 29 => .int
  | 30 => .int
  | 31 => .array .int
  | 32 => .array .long
  | 33 => .array .int
  | 34 => .array .int
  | 35 => .array .long
  | 36 => .boolean
  | 37 => .array .long
  | _ => .array .int
abbrev wsX100 : List Cond := u_ws RX10 TX10 39
theorem nmX10 : ∀ a, a < 39 → ∀ b, b < 39 → a ≠ b → (TX10 a).2.1 ≠ (TX10 b).2.1 := by decide +kernel
theorem tyX10_ok : ∀ k, k < 39 → parseFieldDescriptor (TX10 k).2.2.1 = some (tyX10 k) := by decide +kernel
abbrev cX10_init : ByteArray := prog_12_method_1_code
def yX10_init : MethodName := ⟨RX10, "<init>", "()V"⟩
abbrev cX10_in : ByteArray := prog_12_method_2_code
def yX10_in : MethodName := ⟨RX10, "in", "(JJJ)Z"⟩
abbrev cX10_isNumber : ByteArray := prog_12_method_3_code
def yX10_isNumber : MethodName := ⟨RX10, "isNumber", "(I)Z"⟩
abbrev cX10_degree : ByteArray := prog_12_method_4_code
def yX10_degree : MethodName := ⟨RX10, "degree", "(I)I"⟩
abbrev cX10_number : ByteArray := prog_12_method_5_code
def yX10_number : MethodName := ⟨RX10, "number", "(II)I"⟩
abbrev cX10_equal : ByteArray := prog_12_method_6_code
def yX10_equal : MethodName := ⟨RX10, "equal", "(I)I"⟩
abbrev cX10_window : ByteArray := prog_12_method_7_code
def yX10_window : MethodName := ⟨RX10, "window", "(I)I"⟩
abbrev cX10_power : ByteArray := prog_12_method_8_code
def yX10_power : MethodName := ⟨RX10, "power", "(JI)J"⟩
abbrev cX10_valueAt : ByteArray := prog_12_method_9_code
def yX10_valueAt : MethodName := ⟨RX10, "valueAt", "(JJ)J"⟩
abbrev cX10_multiplies : ByteArray := prog_12_method_10_code
def yX10_multiplies : MethodName := ⟨RX10, "multiplies", "(JJ)V"⟩
abbrev cX10_turns : ByteArray := prog_12_method_11_code
def yX10_turns : MethodName := ⟨RX10, "turns", "(JJJJ)V"⟩
abbrev cX10_becomesTurned : ByteArray := prog_12_method_12_code
def yX10_becomesTurned : MethodName := ⟨RX10, "becomesTurned", "()Z"⟩
abbrev cX10_moves : ByteArray := prog_12_method_13_code
def yX10_moves : MethodName := ⟨RX10, "moves", "(I)Z"⟩
abbrev cX10_move : ByteArray := prog_12_method_14_code
def yX10_move : MethodName := ⟨RX10, "move", "(I)I"⟩
abbrev cX10_turn : ByteArray := prog_12_method_15_code
def yX10_turn : MethodName := ⟨RX10, "turn", "(IIII)I"⟩
abbrev cX10_tellsAnswers : ByteArray := prog_12_method_16_code
def yX10_tellsAnswers : MethodName := ⟨RX10, "tellsAnswers", "()V"⟩
abbrev cX10_tellsUnits : ByteArray := prog_12_method_17_code
def yX10_tellsUnits : MethodName := ⟨RX10, "tellsUnits", "()V"⟩
abbrev cX10_cell : ByteArray := prog_12_method_18_code
def yX10_cell : MethodName := ⟨RX10, "cell", "(II)I"⟩
abbrev cX10_leastOf : ByteArray := prog_12_method_19_code
def yX10_leastOf : MethodName := ⟨RX10, "leastOf", "(I)I"⟩
abbrev cX10_links : ByteArray := prog_12_method_20_code
def yX10_links : MethodName := ⟨RX10, "links", "(II)V"⟩
abbrev cX10_tellsFamilies : ByteArray := prog_12_method_21_code
def yX10_tellsFamilies : MethodName := ⟨RX10, "tellsFamilies", "()V"⟩
abbrev cX10_remainders : ByteArray := prog_12_method_22_code
def yX10_remainders : MethodName := ⟨RX10, "remainders", "(I)I"⟩
abbrev cX10_bars : ByteArray := prog_12_method_23_code
def yX10_bars : MethodName := ⟨RX10, "bars", "(I)Z"⟩
abbrev cX10_firstBar : ByteArray := prog_12_method_24_code
def yX10_firstBar : MethodName := ⟨RX10, "firstBar", "()I"⟩
abbrev cX10_prime : ByteArray := prog_12_method_25_code
def yX10_prime : MethodName := ⟨RX10, "prime", "(II)I"⟩
abbrev cX10_reason : ByteArray := prog_12_method_26_code
def yX10_reason : MethodName := ⟨RX10, "reason", "(I)I"⟩
abbrev cX10_rowAt : ByteArray := prog_12_method_27_code
def yX10_rowAt : MethodName := ⟨RX10, "rowAt", "(J)J"⟩
abbrev cX10_greatest : ByteArray := prog_12_method_28_code
def yX10_greatest : MethodName := ⟨RX10, "greatest", "(I)I"⟩
abbrev cX10_goesOn : ByteArray := prog_12_method_29_code
def yX10_goesOn : MethodName := ⟨RX10, "goesOn", "(I)Z"⟩
abbrev cX10_tellsParts : ByteArray := prog_12_method_30_code
def yX10_tellsParts : MethodName := ⟨RX10, "tellsParts", "()V"⟩
abbrev cX10_tellsConvergent : ByteArray := prog_12_method_31_code
def yX10_tellsConvergent : MethodName := ⟨RX10, "tellsConvergent", "(I)V"⟩
abbrev cX10_part : ByteArray := prog_12_method_32_code
def yX10_part : MethodName := ⟨RX10, "part", "(I)I"⟩
abbrev cX10_convergent : ByteArray := prog_12_method_33_code
def yX10_convergent : MethodName := ⟨RX10, "convergent", "(II)J"⟩
abbrev cX10_answering : ByteArray := prog_12_method_34_code
def yX10_answering : MethodName := ⟨RX10, "answering", "()I"⟩
abbrev cX10_of : ByteArray := prog_12_method_35_code
def yX10_of : MethodName := ⟨RX10, "of", "(I)I"⟩
abbrev cX10_told : ByteArray := prog_12_method_36_code
def yX10_told : MethodName := ⟨RX10, "told", "(I)I"⟩
abbrev cX10_value : ByteArray := prog_12_method_37_code
def yX10_value : MethodName := ⟨RX10, "value", "(II)J"⟩
abbrev cX10_answer : ByteArray := prog_12_method_38_code
def yX10_answer : MethodName := ⟨RX10, "answer", "(II)I"⟩
abbrev cX10_unit : ByteArray := prog_12_method_39_code
def yX10_unit : MethodName := ⟨RX10, "unit", "(II)I"⟩
abbrev cX10_family : ByteArray := prog_12_method_40_code
def yX10_family : MethodName := ⟨RX10, "family", "(I)I"⟩
abbrev cX10_feed : ByteArray := prog_12_method_41_code
def yX10_feed : MethodName := ⟨RX10, "feed", "(I)I"⟩
abbrev cX10_here : ByteArray := prog_12_method_42_code
def yX10_here : MethodName := ⟨RX10, "here", "()I"⟩
abbrev cX10_isDigit : ByteArray := prog_12_method_43_code
def yX10_isDigit : MethodName := ⟨RX10, "isDigit", "()Z"⟩
abbrev cX10_readsDigit : ByteArray := prog_12_method_44_code
def yX10_readsDigit : MethodName := ⟨RX10, "readsDigit", "(I)Z"⟩
abbrev cX10_readsNumber : ByteArray := prog_12_method_45_code
def yX10_readsNumber : MethodName := ⟨RX10, "readsNumber", "(I)Z"⟩
abbrev cX10_readsClause : ByteArray := prog_12_method_46_code
def yX10_readsClause : MethodName := ⟨RX10, "readsClause", "(I)Z"⟩
abbrev cX10_does : ByteArray := prog_12_method_47_code
def yX10_does : MethodName := ⟨RX10, "does", "(I)I"⟩
abbrev cX10_read : ByteArray := prog_12_method_48_code
def yX10_read : MethodName := ⟨RX10, "read", "()I"⟩
abbrev cX10_see : ByteArray := prog_12_method_49_code
def yX10_see : MethodName := ⟨RX10, "see", "(III)I"⟩
abbrev cX10_fits : ByteArray := prog_12_method_50_code
def yX10_fits : MethodName := ⟨RX10, "fits", "(II)I"⟩
abbrev cX10_lowest : ByteArray := prog_12_method_51_code
def yX10_lowest : MethodName := ⟨RX10, "lowest", "(JJI)J"⟩
abbrev cX10_odds : ByteArray := prog_12_method_52_code
def yX10_odds : MethodName := ⟨RX10, "odds", "(I)J"⟩
abbrev cX10_mean : ByteArray := prog_12_method_53_code
def yX10_mean : MethodName := ⟨RX10, "mean", "(I)J"⟩
abbrev cX10_event : ByteArray := prog_12_method_54_code
def yX10_event : MethodName := ⟨RX10, "event", "(II)I"⟩
abbrev cX10_happens : ByteArray := prog_12_method_55_code
def yX10_happens : MethodName := ⟨RX10, "happens", "(II)V"⟩
abbrev cX10_after : ByteArray := prog_12_method_56_code
def yX10_after : MethodName := ⟨RX10, "after", "(I)I"⟩
abbrev cX10_book : ByteArray := prog_12_method_57_code
def yX10_book : MethodName := ⟨RX10, "book", "(II)I"⟩
abbrev cX10_looked : ByteArray := prog_12_method_58_code
def yX10_looked : MethodName := ⟨RX10, "looked", "()I"⟩
abbrev cX10_isTape : ByteArray := prog_12_method_59_code
def yX10_isTape : MethodName := ⟨RX10, "isTape", "(I)Z"⟩
abbrev cX10_judge : ByteArray := prog_12_method_60_code
def yX10_judge : MethodName := ⟨RX10, "judge", "(II)I"⟩
abbrev cX10_lays : ByteArray := prog_12_method_61_code
def yX10_lays : MethodName := ⟨RX10, "lays", "(Z)V"⟩
abbrev cX10_laysRow : ByteArray := prog_12_method_62_code
def yX10_laysRow : MethodName := ⟨RX10, "laysRow", "(Z[II)V"⟩
abbrev cX10_image : ByteArray := prog_12_method_63_code
def yX10_image : MethodName := ⟨RX10, "image", "()I"⟩
abbrev cX10_undo : ByteArray := prog_12_method_64_code
def yX10_undo : MethodName := ⟨RX10, "undo", "()I"⟩
abbrev cX10_count : ByteArray := prog_12_method_65_code
def yX10_count : MethodName := ⟨RX10, "count", "(I)I"⟩
abbrev cX10_held : ByteArray := prog_12_method_66_code
def yX10_held : MethodName := ⟨RX10, "held", "(IJ)J"⟩
abbrev cX10_tape : ByteArray := prog_12_method_67_code
def yX10_tape : MethodName := ⟨RX10, "tape", "(III)I"⟩
abbrev cX10_item : ByteArray := prog_12_method_68_code
def yX10_item : MethodName := ⟨RX10, "item", "(IIJ)I"⟩
abbrev cX10_peek : ByteArray := prog_12_method_69_code
def yX10_peek : MethodName := ⟨RX10, "peek", "(II)J"⟩
abbrev cX10_areThere : ByteArray := prog_12_method_70_code
def yX10_areThere : MethodName := ⟨RX10, "areThere", "(III)Z"⟩
abbrev cX10_shift : ByteArray := prog_12_method_71_code
def yX10_shift : MethodName := ⟨RX10, "shift", "(IIIII)I"⟩
def RJ6 : String := "java/lang/Integer"
abbrev cJ6_bitCount_0f7a4 : ByteArray := prog_13_method_49_code
def yJ6_bitCount_0f7a4 : MethodName := ⟨RJ6, "bitCount", "(I)I"⟩
def RJ9 : String := "java/lang/Math"
abbrev cJ9_floorMod_7cf53 : ByteArray := prog_14_method_50_code
def yJ9_floorMod_7cf53 : MethodName := ⟨RJ9, "floorMod", "(II)I"⟩
abbrev cJ9_floorMod_1978a : ByteArray := prog_14_method_51_code
def yJ9_floorMod_1978a : MethodName := ⟨RJ9, "floorMod", "(JI)I"⟩
abbrev cJ9_floorMod_f86c9 : ByteArray := prog_14_method_52_code
def yJ9_floorMod_f86c9 : MethodName := ⟨RJ9, "floorMod", "(JJ)J"⟩
abbrev cJ9_abs_067f4 : ByteArray := prog_14_method_61_code
def yJ9_abs_067f4 : MethodName := ⟨RJ9, "abs", "(J)J"⟩
abbrev cJ9_max_7cf53 : ByteArray := prog_14_method_65_code
def yJ9_max_7cf53 : MethodName := ⟨RJ9, "max", "(II)I"⟩
abbrev cJ9_min_7cf53 : ByteArray := prog_14_method_69_code
def yJ9_min_7cf53 : MethodName := ⟨RJ9, "min", "(II)I"⟩
abbrev cJ9_min_f86c9 : ByteArray := prog_14_method_70_code
def yJ9_min_f86c9 : MethodName := ⟨RJ9, "min", "(JJ)J"⟩
def RJ10 : String := "java/lang/System"
def RJ7 : String := "java/util/Arrays"
abbrev cJ7_fill_d0a16 : ByteArray := prog_16_method_101_code
def yJ7_fill_d0a16 : MethodName := ⟨RJ7, "fill", "([JJ)V"⟩
abbrev cJ7_fill_53178 : ByteArray := prog_16_method_103_code
def yJ7_fill_53178 : MethodName := ⟨RJ7, "fill", "([II)V"⟩
def RL : String := "TwoLetterFormsLaw"
abbrev cL_law : ByteArray := code
def yL_law : MethodName := ⟨RL, "law", "([I)Z"⟩
abbrev vwCl : List vw_C := [(RX0, TX0, 6), (RX1, TX1, 3), (RX2, TX2, 4), (RX3, TX3, 6), (RX4, TX4, 2), (RX5, TX5, 6), (RX6, TX6, 4), (RX7, TX7, 3), (RX8, TX8, 2), (RX9, TX9, 9), (RX10, TX10, 39)]
end
section
/-! the memory of abstract addresses (1 ..): how many, the kind of each, its length, its slots: references, ints, longs -/
abbrev Mem := Nat × (Nat → Nat) × (Nat → Nat) × (Nat → Nat → Nat) × (Nat → Nat → Int32) × (Nat → Nat → Int64)
def mSz (h : Mem) : Nat := h.1
def mKd (h : Mem) : Nat → Nat := h.2.1
def mLn (h : Mem) : Nat → Nat := h.2.2.1
def mR (h : Mem) : Nat → Nat → Nat := h.2.2.2.1
def mI (h : Mem) : Nat → Nat → Int32 := h.2.2.2.2.1
def mL (h : Mem) : Nat → Nat → Int64 := h.2.2.2.2.2
def up1 {α : Type} (f : Nat → α) (k : Nat) (v : α) : Nat → α := fun j => if j = k then v else f j
def sR (h : Mem) (a : Nat) (f : Nat → Nat) : Mem := (h.1, h.2.1, h.2.2.1, up1 h.2.2.2.1 a f, h.2.2.2.2.1, h.2.2.2.2.2)
def sI (h : Mem) (a : Nat) (f : Nat → Int32) : Mem := (h.1, h.2.1, h.2.2.1, h.2.2.2.1, up1 h.2.2.2.2.1 a f, h.2.2.2.2.2)
def sL (h : Mem) (a : Nat) (f : Nat → Int64) : Mem := (h.1, h.2.1, h.2.2.1, h.2.2.2.1, h.2.2.2.2.1, up1 h.2.2.2.2.2 a f)
def alM (c n : Nat) (h : Mem) : Mem := (h.1 + 1, up1 h.2.1 (h.1 + 1) c, up1 h.2.2.1 (h.1 + 1) n, up1 h.2.2.2.1 (h.1 + 1) (fun _ => 0), up1 h.2.2.2.2.1 (h.1 + 1) (fun _ => 0), up1 h.2.2.2.2.2 (h.1 + 1) (fun _ => 0))
/-- the fields of each class: 0 int, 1 long, 2 reference -/
def FTY : List (List Nat) := [[0, 0, 0, 0, 2, 2], [2, 0, 0], [0, 2, 2, 2], [0, 0, 2, 2, 2, 2], [0, 2], [0, 2, 2, 0, 0, 0], [2, 2, 2, 2], [0, 2, 0], [0, 2], [2, 2, 0, 2, 2, 2, 2, 2, 2], [0, 2, 0, 0, 2, 0, 2, 0, 2, 0, 2, 2, 2, 0, 2, 0, 2, 2, 2, 0, 2, 2, 2, 2, 2, 0, 1, 1, 2, 0, 0, 2, 2, 2, 2, 2, 0, 2, 2]]
abbrev Ev := Nat × va_G × ClassId × ClassId × ClassId × ClassId × Nat × Nat
abbrev eD (E : Ev) : va_G := E.2.1
abbrev eI (E : Ev) : ClassId := E.2.2.1
abbrev eJ (E : Ev) : ClassId := E.2.2.2.1
abbrev eZ (E : Ev) : ClassId := E.2.2.2.2.1
abbrev eT (E : Ev) : ClassId := E.2.2.2.2.2.1
abbrev eP (E : Ev) : Nat := E.2.2.2.2.2.2.1
abbrev eM (E : Ev) : Nat := E.2.2.2.2.2.2.2
abbrev tys (E : Ev) : List (ClassId × FieldType) := [(eI E, .int), (eJ E, .long), (eZ E, .boolean), (eT E, .object "TwoLetterForms$Tape")]
abbrev rf (E : Ev) (a : Nat) : Value := .ref (E.1 + a)
def rv (E : Ev) (a : Nat) : Value := if a = 0 then .null else .ref (E.1 + a)
def rq (E : Ev) (a : Nat) : Option Nat := if a = 0 then none else some (E.1 + a)
theorem rv_rq (E : Ev) (a : Nat) : va_rf (rq E a) = rv E a := by
  unfold rq rv
  split <;> rfl
theorem rv_rf (E : Ev) {a : Nat} (h : a ≠ 0) : rv E a = rf E a := by simp [rv, h]
def fv (E : Ev) (t : Nat) (h : Mem) (a k : Nat) : Value := if t = 0 then .int (mI h a k) else if t = 1 then .long (mL h a k) else rv E (mR h a k)
def encO (E : Ev) (h : Mem) (a c : Nat) : List Value := (FTY.getD c []).mapIdx (fun k t => fv E t h a k)
def encE (E : Ev) (h : Mem) (a : Nat) : va_E :=
  if mKd h a < 11 then .inr (mKd h a, encO E h a (mKd h a))
  else if mKd h a = 11 then .inl (eI E, mLn h a, .inl (mI h a))
  else if mKd h a = 12 then .inl (eJ E, mLn h a, .inr (.inl (mL h a)))
  else if mKd h a = 13 then .inl (eZ E, mLn h a, .inl (mI h a))
  else .inl (eT E, mLn h a, .inr (.inr (.inr (.inr (fun j => rq E (mR h a j))))))
def enc (E : Ev) (h : Mem) : va_W := (List.range (mSz h)).map (fun k => (E.1 + 1 + k, encE E h (k + 1)))
def Wf (h : Mem) : Prop := ∀ a, mKd h a < 15 → 1 ≤ a ∧ a ≤ mSz h
def Sm (E : Ev) (h : Mem) (H : Heap) : Prop := va_P (eD E) vwCl (enc E h) H ∧ Wf h
def AB (E : Ev) : Nat → Prop := fun q => E.1 + 1 ≤ q
theorem enc_len (E : Ev) (h : Mem) : (enc E h).length = mSz h := by simp [enc]
theorem enc_at (E : Ev) (h : Mem) {a : Nat} (h1 : 1 ≤ a) (h2 : a ≤ mSz h) : (enc E h)[a - 1]? = some (E.1 + a, encE E h a) := by
  have h3 : a - 1 < mSz h := by omega
  have h4 : a - 1 + 1 = a := by omega
  have h5 : E.1 + 1 + (a - 1) = E.1 + a := by omega
  simp [enc, List.getElem?_map, List.getElem?_range h3, h4, h5]
theorem enc_get {E : Ev} {h : Mem} {k : Nat} {q : Nat × va_E} (hk : (enc E h)[k]? = some q) : k < mSz h ∧ q = (E.1 + 1 + k, encE E h (k + 1)) := by
  have h1 : k < (enc E h).length := (List.getElem?_eq_some_iff.mp hk).1
  rw [enc_len] at h1
  refine ⟨h1, ?_⟩
  have h2 := enc_at E h (a := k + 1) (by omega) (by omega)
  rw [Nat.add_sub_cancel, hk] at h2
  rw [Option.some.inj h2]
  congr 1
  omega
theorem enc_set {E : Ev} {h h' : Mem} {a : Nat} (hz : mSz h' = mSz h) (h1 : 1 ≤ a) (hne : ∀ b, b ≠ a → encE E h' b = encE E h b) {e : va_E} (he : encE E h' a = e) : (enc E h).set (a - 1) (E.1 + a, e) = enc E h' := by
  apply List.ext_getElem?
  intro k
  by_cases hk : k < mSz h
  · have e2 : (enc E h')[k]? = some (E.1 + (k + 1), encE E h' (k + 1)) := by
      have := enc_at E h' (a := k + 1) (by omega) (by omega)
      rwa [Nat.add_sub_cancel] at this
    have e1 : (enc E h)[k]? = some (E.1 + (k + 1), encE E h (k + 1)) := by
      have := enc_at E h (a := k + 1) (by omega) (by omega)
      rwa [Nat.add_sub_cancel] at this
    rw [e2]
    by_cases hka : k = a - 1
    · subst hka
      rw [List.getElem?_set_self (by rw [enc_len]; exact hk)]
      have h4 : a - 1 + 1 = a := by omega
      rw [h4, he]
    · rw [List.getElem?_set_ne (fun z => hka z.symm), e1, hne (k + 1) (by omega)]
  · rw [List.getElem?_eq_none (by rw [List.length_set, enc_len]; omega), List.getElem?_eq_none (by rw [enc_len]; omega)]
theorem enc_push {E : Ev} {h h' : Mem} (hz : mSz h' = mSz h + 1) (hne : ∀ b, 1 ≤ b → b ≤ mSz h → encE E h' b = encE E h b) {e : va_E} (he : encE E h' (mSz h + 1) = e) : enc E h ++ [(E.1 + 1 + mSz h, e)] = enc E h' := by
  apply List.ext_getElem?
  intro k
  by_cases hk : k < mSz h
  · have e2 : (enc E h')[k]? = some (E.1 + (k + 1), encE E h' (k + 1)) := by
      have := enc_at E h' (a := k + 1) (by omega) (by omega)
      rwa [Nat.add_sub_cancel] at this
    have e1 : (enc E h)[k]? = some (E.1 + (k + 1), encE E h (k + 1)) := by
      have := enc_at E h (a := k + 1) (by omega) (by omega)
      rwa [Nat.add_sub_cancel] at this
    rw [List.getElem?_append_left (by rw [enc_len]; exact hk), e1, e2, hne (k + 1) (by omega) (by omega)]
  · by_cases hk2 : k = mSz h
    · subst hk2
      have e2 : (enc E h')[mSz h]? = some (E.1 + (mSz h + 1), encE E h' (mSz h + 1)) := by
        have := enc_at E h' (a := mSz h + 1) (by omega) (by omega)
        rwa [Nat.add_sub_cancel] at this
      rw [List.getElem?_append_right (by rw [enc_len]; omega), enc_len, Nat.sub_self, e2, he]
      simp
      omega
    · rw [List.getElem?_eq_none (by simp [enc_len]; omega), List.getElem?_eq_none (by rw [enc_len]; omega)]
theorem enc_D (E : Ev) (h : Mem) : va_D (AB E) (enc E h) := by
  refine ⟨fun i j p q hi hj hpq => ?_, fun k q hk => ?_⟩
  · have h1 := (enc_get hi).2
    have h2 := (enc_get hj).2
    rw [h1, h2] at hpq
    simp at hpq
    omega
  · have h1 := (enc_get hk).2
    rw [h1]
    show E.1 + 1 ≤ E.1 + 1 + k
    omega
theorem encE_o {E : Ev} {h : Mem} {a c : Nat} (hk : mKd h a = c) (hc : c < 11) : encE E h a = .inr (c, encO E h a c) := by subst hk; simp [encE, hc]
theorem encE_i {E : Ev} {h : Mem} {a : Nat} (hk : mKd h a = 11) : encE E h a = .inl (eI E, mLn h a, .inl (mI h a)) := by simp [encE, hk]
theorem encE_l {E : Ev} {h : Mem} {a : Nat} (hk : mKd h a = 12) : encE E h a = .inl (eJ E, mLn h a, .inr (.inl (mL h a))) := by simp [encE, hk]
theorem encE_z {E : Ev} {h : Mem} {a : Nat} (hk : mKd h a = 13) : encE E h a = .inl (eZ E, mLn h a, .inl (mI h a)) := by simp [encE, hk]
theorem encE_t {E : Ev} {h : Mem} {a : Nat} (hk : mKd h a = 14) : encE E h a = .inl (eT E, mLn h a, .inr (.inr (.inr (.inr (fun j => rq E (mR h a j)))))) := by simp [encE, hk]
theorem encO_at {E : Ev} {h : Mem} {a c k t : Nat} (ht : (FTY.getD c [])[k]? = some t) : (encO E h a c)[k]? = some (fv E t h a k) := by unfold encO; rw [List.getElem?_mapIdx, ht]; rfl
theorem encO_len {E : Ev} {h : Mem} {a c : Nat} : (encO E h a c).length = (FTY.getD c []).length := by simp [encO]
theorem encO_set {E : Ev} {h h' : Mem} {a c k t : Nat} (ht : (FTY.getD c [])[k]? = some t) (hne : ∀ j u, (FTY.getD c [])[j]? = some u → j ≠ k → fv E u h' a j = fv E u h a j) {v : Value} (hv : fv E t h' a k = v) : (encO E h a c).set k v = encO E h' a c := by
  apply List.ext_getElem?
  intro j
  by_cases hj : j = k
  · subst hj
    have hl : j < (FTY.getD c []).length := (List.getElem?_eq_some_iff.mp ht).1
    rw [List.getElem?_set_self (by rw [encO_len]; exact hl), encO_at ht, hv]
  · rw [List.getElem?_set_ne (fun z => hj z.symm)]
    cases hu : (FTY.getD c [])[j]? with
    | none => unfold encO; rw [List.getElem?_mapIdx, List.getElem?_mapIdx, hu]; rfl
    | some u => rw [encO_at hu, encO_at hu, hne j u hu hj]
theorem up1_s {α : Type} (f : Nat → α) (k : Nat) (v : α) : up1 f k v k = v := by simp [up1]
theorem up1_n {α : Type} (f : Nat → α) {k j : Nat} (v : α) (h : j ≠ k) : up1 f k v j = f j := by simp [up1, h]
theorem mI_sI (h : Mem) (a : Nat) (f : Nat → Int32) : mI (sI h a f) = up1 (mI h) a f := rfl
theorem mL_sL (h : Mem) (a : Nat) (f : Nat → Int64) : mL (sL h a f) = up1 (mL h) a f := rfl
theorem mR_sR (h : Mem) (a : Nat) (f : Nat → Nat) : mR (sR h a f) = up1 (mR h) a f := rfl
theorem encE_nI {E : Ev} {h : Mem} {a : Nat} (f : Nat → Int32) {b : Nat} (hb : b ≠ a) : encE E (sI h a f) b = encE E h b := by
  have e1 : mI (sI h a f) b = mI h b := by rw [mI_sI, up1_n _ _ hb]
  unfold encE encO fv
  rw [e1]
  rfl
theorem encE_nL {E : Ev} {h : Mem} {a : Nat} (f : Nat → Int64) {b : Nat} (hb : b ≠ a) : encE E (sL h a f) b = encE E h b := by
  have e1 : mL (sL h a f) b = mL h b := by rw [mL_sL, up1_n _ _ hb]
  unfold encE encO fv
  rw [e1]
  rfl
theorem encE_nR {E : Ev} {h : Mem} {a : Nat} (f : Nat → Nat) {b : Nat} (hb : b ≠ a) : encE E (sR h a f) b = encE E h b := by
  have e1 : mR (sR h a f) b = mR h b := by rw [mR_sR, up1_n _ _ hb]
  unfold encE encO fv
  rw [e1]
  rfl
theorem Wf_sI {h : Mem} (hw : Wf h) (a : Nat) (f : Nat → Int32) : Wf (sI h a f) := hw
theorem Wf_sL {h : Mem} (hw : Wf h) (a : Nat) (f : Nat → Int64) : Wf (sL h a f) := hw
theorem Wf_sR {h : Mem} (hw : Wf h) (a : Nat) (f : Nat → Nat) : Wf (sR h a f) := hw
theorem Sm.at {E : Ev} {h : Mem} {H : Heap} (M : Sm E h H) {a : Nat} (hk : mKd h a < 15) : (enc E h)[a - 1]? = some (E.1 + a, encE E h a) := enc_at E h (M.2 a hk).1 (M.2 a hk).2
/-! the words -/
def WSA : List Cond := lw_tbl.filter goodWord
theorem wa {w : Cond} (i : Nat) (h : tables_1[i]? = some w) (hg : goodWord w = true) : w ∈ WSA := List.mem_filter.mpr ⟨List.mem_append_right _ (List.mem_of_getElem? h), hg⟩
theorem wap {q : MethodName × Nat} (i : Nat) (h : lw_privs[i]? = some q) (hg : goodWord (Cond.selects q.1.cls q.1 q.1) = true) : Cond.selects q.1.cls q.1 q.1 ∈ WSA := List.mem_filter.mpr ⟨List.mem_append_left _ (List.mem_map.mpr ⟨q, List.mem_of_getElem? h, rfl⟩), hg⟩
theorem wgood {ws : List Cond} (h : ∀ w ∈ ws, w ∈ WSA) : GoodIn WSA ws := fun w hw => ⟨h w hw, good_of_word (List.mem_filter.mp (h w hw)).2⟩
/-! the tables that nobody writes -/
def tabP (j : Nat) : Int32 := [2, 3, 5, 7, 11, 13].getD j 0
def tabM (j : Nat) : Int32 := [1, 1, 0, 1, 1, -1, 0, 1, 0, 1, 1, 0, -1, 0, 0, 1].getD j 0
def StOK (E : Ev) (U : State) (H : Heap) : Prop :=
  (va_Z "TwoLetterForms" "PRIMES" "[I" (.ref (eP E)) (AB E) U H ∧ va_T .int (eP E) 6 (fun j => .int (tabP j)) (AB E) U H) ∧
  (va_Z "TwoLetterForms$Form" "MOVE_TURNS" "[I" (.ref (eM E)) (AB E) U H ∧ va_T .int (eM E) 16 (fun j => .int (tabM j)) (AB E) U H)
theorem StOK.moved {E : Ev} {u U : State} {H : Heap} (hv : u.vm.Alike U.vm) (h : StOK E u H) : StOK E U H := ⟨⟨h.1.1.moved hv, h.1.2.moved hv⟩, ⟨h.2.1.moved hv, h.2.2.moved hv⟩⟩
theorem StOK.kept {E : Ev} {U : State} {H H1 : Heap} (h : StOK E U H) (hq : ∀ a : Nat, a < H.size → ¬ AB E a → H1[a]? = H[a]?) : StOK E U H1 := ⟨⟨h.1.1.kept hq, h.1.2.kept hq⟩, ⟨h.2.1.kept hq, h.2.2.kept hq⟩⟩
/-! words of nest mates, which a first use may change -/
def isNest : Cond → Bool
  | .fieldLinkNest .. => true
  | .methodLinkNest .. => true
  | _ => false
def NwOK (U : State) : Prop := (∀ w ∈ tables_1, isNest w = true → va_Nw w U) ∧ va_AO "TwoLetterForms$Tape" U
theorem NwOK.warm {s U : State} (hW : s.WarmedH U.vm) (h : NwOK s) : NwOK U := by
  refine ⟨fun w hw hn => ?_, h.2.moved hW.alike⟩
  have h1 := h.1 w hw hn
  cases w <;> first | exact Bool.noConfusion (show false = true from hn) | exact va_Nw.warmF hW h1 | exact va_Nw.warmM hW h1
theorem NwOK.same {u U : State} (hv : u.vm = U.vm) (h : NwOK u) : NwOK U := by
  refine ⟨fun w hw hn => ?_, h.2.moved (by rw [hv]; exact Vm.Alike.refl _)⟩
  have h1 := h.1 w hw hn
  cases w <;> first | exact Bool.noConfusion (show false = true from hn) | exact va_Nw.same rfl hv h1
/-! the judgement -/
abbrev Kx := Program × Launch × Env × State × MethodId × Array Value × List Frame × Method × Code
abbrev kP (K : Kx) : Program := K.1
abbrev kL (K : Kx) : Launch := K.2.1
abbrev kE (K : Kx) : Env := K.2.2.1
abbrev kS (K : Kx) : State := K.2.2.2.1
abbrev kM (K : Kx) : MethodId := K.2.2.2.2.1
abbrev kA (K : Kx) : Array Value := K.2.2.2.2.2.1
abbrev kB (K : Kx) : List Frame := K.2.2.2.2.2.2.1
abbrev kMe (K : Kx) : Method := K.2.2.2.2.2.2.2.1
abbrev kC (K : Kx) : Code := K.2.2.2.2.2.2.2.2
def CxOK (K : Kx) (E : Ev) (own : String) (cc : ByteArray) (nL : Nat) : Prop :=
  (kP K).tables.exec = Jvm.exec ∧ (kC K).code = cc ∧ (kC K).maxLocals = nL ∧ (kS K).vm.findClass own = some (kM K).cls ∧ (∀ w ∈ WSA, w.before (kA K) (kS K) = true) ∧ va_K (eD E) vwCl (tys E) (kS K) ∧ StOK E (kS K) (kS K).heap ∧ (kMe K).locks = false ∧ NwOK (kS K)
/-- the machine at pc, with these locals, this stack, this memory, comes to d's answer and memory -/
def Aw {α : Type} (K : Kx) (E : Ev) (R : Room) (nL : Nat) (Q : α → Mem → State → Prop) (cells slots pc : Nat) (L : List (Nat × Value)) (st : List Value) (h : Mem) (d : Option (α × Mem)) : Prop :=
  ∀ r h', d = some (r, h') → ∀ (H : Heap) (locs : List Loc) (ls : Array Slot), (kS K).heap.size + cells = E.1 + 1 + mSz h → Sm E h H → va_S (AB E) (kS K).heap H locs → lv_has ls nL L →
    W (kP K) (kL K) (kE K) R (kS K) (kM K) (kA K) (kB K) (kMe K) (kC K) H locs cells slots (Q r h') (F0 (kM K) pc ls st)
/-! reads and writes, told as options -/
def gI (c : Nat) (h : Mem) (a k : Nat) : Option Int32 := if mKd h a = c then some (mI h a k) else none
def gJ (c : Nat) (h : Mem) (a k : Nat) : Option Int64 := if mKd h a = c then some (mL h a k) else none
def gR (c : Nat) (h : Mem) (a k : Nat) : Option Nat := if mKd h a = c ∧ mR h a k ≠ 0 then some (mR h a k) else none
def pI (c : Nat) (h : Mem) (a k : Nat) (v : Int32) : Option Mem := if mKd h a = c then some (sI h a (up1 (mI h a) k v)) else none
def pJ (c : Nat) (h : Mem) (a k : Nat) (v : Int64) : Option Mem := if mKd h a = c then some (sL h a (up1 (mL h a) k v)) else none
def pR (c : Nat) (h : Mem) (a k : Nat) (v : Nat) : Option Mem := if mKd h a = c ∧ v ≠ 0 then some (sR h a (up1 (mR h a) k v)) else none
def inB (i : Int32) (n : Nat) : Prop := ¬ i < 0 ∧ i.toNatClampNeg < n
theorem inB_vp {i : Int32} {n : Nat} (h : inB i n) : vp_in i n := by
  intro q
  rcases q with q | q
  · exact h.1 q
  · exact absurd h.2 (by omega)
def xI (t : Nat) (h : Mem) (a : Nat) (i : Int32) : Option Int32 := if mKd h a = t ∧ ¬ i < 0 ∧ i.toNatClampNeg < mLn h a then some (mI h a i.toNatClampNeg) else none
def xJ (h : Mem) (a : Nat) (i : Int32) : Option Int64 := if mKd h a = 12 ∧ ¬ i < 0 ∧ i.toNatClampNeg < mLn h a then some (mL h a i.toNatClampNeg) else none
def xR (h : Mem) (a : Nat) (i : Int32) : Option Nat := if mKd h a = 14 ∧ (¬ i < 0 ∧ i.toNatClampNeg < mLn h a) ∧ mR h a i.toNatClampNeg ≠ 0 then some (mR h a i.toNatClampNeg) else none
def yI (t : Nat) (h : Mem) (a : Nat) (i : Int32) (v : Int32) : Option Mem := if mKd h a = t ∧ ¬ i < 0 ∧ i.toNatClampNeg < mLn h a then some (sI h a (up1 (mI h a) i.toNatClampNeg v)) else none
def yJ (h : Mem) (a : Nat) (i : Int32) (v : Int64) : Option Mem := if mKd h a = 12 ∧ ¬ i < 0 ∧ i.toNatClampNeg < mLn h a then some (sL h a (up1 (mL h a) i.toNatClampNeg v)) else none
def yR (h : Mem) (a : Nat) (i : Int32) (v : Nat) : Option Mem := if mKd h a = 14 ∧ (¬ i < 0 ∧ i.toNatClampNeg < mLn h a) ∧ mKd h v = 7 then some (sR h a (up1 (mR h a) i.toNatClampNeg v)) else none
def aLn (h : Mem) (a : Nat) : Option Int32 := if 11 ≤ mKd h a ∧ mKd h a < 15 then some (Int32.ofNat (mLn h a)) else none
def xT (f : Nat → Int32) (n : Nat) (i : Int32) : Option Int32 := if ¬ i < 0 ∧ i.toNatClampNeg < n then some (f i.toNatClampNeg) else none
def nm {α β : Type} (x : α) (f : α → β) : β := f x
def nwO {β : Type} (c n : Nat) (h : Mem) (f : Nat → Mem → Option β) : Option β := f (mSz h + 1) (alM c n h)
def nwA {β : Type} (c cap : Nat) (n : Int32) (h : Mem) (f : Nat → Mem → Option β) : Option β := if ¬ n < 0 ∧ n.toNatClampNeg ≤ cap then f (mSz h + 1) (alM c n.toNatClampNeg h) else none
def cpI (h : Mem) (a : Nat) (i : Int32) (b : Nat) (j : Int32) (n : Int32) : Option Mem := if (mKd h a = 11 ∧ mKd h b = 11) ∧ (¬ i < 0 ∧ ¬ j < 0 ∧ ¬ n < 0) ∧ i.toNatClampNeg + n.toNatClampNeg ≤ mLn h a ∧ j.toNatClampNeg + n.toNatClampNeg ≤ mLn h b then some (sI h b (va_cpy (mI h a) (mI h b) i.toNatClampNeg j.toNatClampNeg n.toNatClampNeg)) else none
def cpJ (h : Mem) (a : Nat) (i : Int32) (b : Nat) (j : Int32) (n : Int32) : Option Mem := if (mKd h a = 12 ∧ mKd h b = 12) ∧ (¬ i < 0 ∧ ¬ j < 0 ∧ ¬ n < 0) ∧ i.toNatClampNeg + n.toNatClampNeg ≤ mLn h a ∧ j.toNatClampNeg + n.toNatClampNeg ≤ mLn h b then some (sL h b (va_cpy (mL h a) (mL h b) i.toNatClampNeg j.toNatClampNeg n.toNatClampNeg)) else none
def lpF {σ ρ : Type} (f : (σ → Option ρ) → σ → Option ρ) : Nat → σ → Option ρ
  | 0, _ => none
  | n + 1, s => f (lpF f n) s
def FU : Nat := 1000000
def jn {σ β : Type} (f : σ → β) (g : (σ → β) → β) : β := g f
def rvI : Int32 → Option Value := fun x => some (.int x)
def rvJ : Int64 → Option Value := fun x => some (.long x)
def rvV : Unit → Option Value := fun _ => none
def rvR (E : Ev) : Nat → Option Value := fun a => some (rv E a)

/-- what is known of a class's field k: its class's number, rows and words, its type -/
def ClOK (c : Nat) (C : String) (T : u_T) (N : Nat) (ty : Nat → FieldType) : Prop := vwCl[c]? = some (C, T, N) ∧ c < 11 ∧ (∀ w ∈ u_ws C T N, w ∈ WSA) ∧ (∀ k, k < N → parseFieldDescriptor (T k).2.2.1 = some (ty k)) ∧ (∀ a, a < N → ∀ b, b < N → a ≠ b → (T a).2.1 ≠ (T b).2.1) ∧ (FTY.getD c []).length = N ∧ (∀ k, k < N → defaultValue (ty k) = if (FTY.getD c []).getD k 0 = 0 then .int 0 else if (FTY.getD c []).getD k 0 = 1 then .long 0 else .null)
/-- a field's link: field k of class c, of type t (0 int, 1 long, 2 reference) -/
def FL (own : String) (index c k t : Nat) : Prop := ∃ (C : String) (T : u_T) (N : Nat) (ty : Nat → FieldType), ClOK c C T N ty ∧ k < N ∧ (FTY.getD c [])[k]? = some t ∧ Cond.fieldLink own index (T k).1 (T k).2.1 (T k).2.2.1 ∈ WSA
/-- .. of a field that isn't final, and of this type -/
def FW (own : String) (index c k t : Nat) (ft : FieldType) : Prop := ∃ (C : String) (T : u_T) (N : Nat) (ty : Nat → FieldType), ClOK c C T N ty ∧ k < N ∧ (FTY.getD c [])[k]? = some t ∧ Cond.fieldLink own index (T k).1 (T k).2.1 (T k).2.2.1 ∈ WSA ∧ (T k).2.2.2 = false ∧ ty k = ft
/-- .. of a final field of the own class -/
def FF (own : String) (index c k t : Nat) (ft : FieldType) : Prop := ∃ (C : String) (T : u_T) (N : Nat) (ty : Nat → FieldType), ClOK c C T N ty ∧ k < N ∧ (FTY.getD c [])[k]? = some t ∧ Cond.fieldLink own index (T k).1 (T k).2.1 (T k).2.2.1 ∈ WSA ∧ (T k).2.2.2 = true ∧ (T k).1 = own ∧ ty k = ft
section AW
variable {α : Type} {K : Kx} {E : Ev} {R : Room} {nL : Nat} {Q : α → Mem → State → Prop} {cells slots pc : Nat} {L : List (Nat × Value)} {st : List Value} {h : Mem} {own : String} {cc : ByteArray}
theorem aw_none : Aw K E R nL Q cells slots pc L st h (none : Option (α × Mem)) := fun _ _ e => by cases e
theorem aw_sub {L' : List (Nat × Value)} {d : Option (α × Mem)} (ks : List Nat) (hl : lv_pick L ks = L') (kk : Aw K E R nL Q cells slots pc L' st h d) : Aw K E R nL Q cells slots pc L st h d :=
  fun r h' e H locs ls hz M hS hls => kk r h' e H locs ls hz M hS (lv_sub hls ks hl)
theorem aw_eq {d d' : Option (α × Mem)} (he : d = d') (kk : Aw K E R nL Q cells slots pc L st h d') : Aw K E R nL Q cells slots pc L st h d := he ▸ kk
theorem aw_nm {β : Type} {d : β → Option (α × Mem)} {x : β} (kk : ∀ y, y = x → Aw K E R nL Q cells slots pc L st h (d y)) : Aw K E R nL Q cells slots pc L st h (nm x d) := kk x rfl

theorem aw_iload_n (C : CxOK K E own cc nL) {k : Fin 4} {i : Nat} {x : Int32} (hd : decode cc pc = .ok (.iload_n k, 1)) (hi : (k : Nat) = i) (j : Nat) (hj : L[j]? = some (i, .int x)) {d : Option (α × Mem)} (kk : Aw K E R nL Q cells slots (pc + 1) L (.int x :: st) h d) : Aw K E R nL Q cells slots pc L st h d :=
  fun r h' e H locs ls hz M hS hls => lv_iload_n C.1 C.2.1 hd hi (lv_at hls j hj) (kk r h' e H locs ls hz M hS hls)
theorem aw_iload (C : CxOK K E own cc nL) {i : Nat} {x : Int32} (hd : decode cc pc = .ok (.iload i, 2)) (j : Nat) (hj : L[j]? = some (i, .int x)) {d : Option (α × Mem)} (kk : Aw K E R nL Q cells slots (pc + 2) L (.int x :: st) h d) : Aw K E R nL Q cells slots pc L st h d :=
  fun r h' e H locs ls hz M hS hls => lv_iload C.1 C.2.1 hd (lv_at hls j hj) (kk r h' e H locs ls hz M hS hls)
theorem aw_istore_n (C : CxOK K E own cc nL) {k : Fin 4} {i : Nat} {x : Int32} {L' : List (Nat × Value)} (hd : decode cc pc = .ok (.istore_n k, 1)) (hi : (k : Nat) = i) (hn : i < nL) (hl : (i, (Value.int x)) :: L.filter (fun q => !(q.1 == i) && !(q.1 + 1 == i && q.2.category == 2)) = L') {d : Option (α × Mem)} (kk : Aw K E R nL Q cells slots (pc + 1) L' st h d) : Aw K E R nL Q cells slots pc L (.int x :: st) h d :=
  fun r h' e H locs ls hz M hS hls => lv_istore_n C.1 C.2.1 hd hi hls hn hl (fun ls' hls' => kk r h' e H locs ls' hz M hS hls')
theorem aw_istore (C : CxOK K E own cc nL) {i : Nat} {x : Int32} {L' : List (Nat × Value)} (hd : decode cc pc = .ok (.istore i, 2)) (hn : i < nL) (hl : (i, (Value.int x)) :: L.filter (fun q => !(q.1 == i) && !(q.1 + 1 == i && q.2.category == 2)) = L') {d : Option (α × Mem)} (kk : Aw K E R nL Q cells slots (pc + 2) L' st h d) : Aw K E R nL Q cells slots pc L (.int x :: st) h d :=
  fun r h' e H locs ls hz M hS hls => lv_istore C.1 C.2.1 hd hls hn hl (fun ls' hls' => kk r h' e H locs ls' hz M hS hls')
theorem aw_lload_n (C : CxOK K E own cc nL) {k : Fin 4} {i : Nat} {x : Int64} (hd : decode cc pc = .ok (.lload_n k, 1)) (hi : (k : Nat) = i) (j : Nat) (hj : L[j]? = some (i, .long x)) {d : Option (α × Mem)} (kk : Aw K E R nL Q cells slots (pc + 1) L (.long x :: st) h d) : Aw K E R nL Q cells slots pc L st h d :=
  fun r h' e H locs ls hz M hS hls => lv_lload_n C.1 C.2.1 hd hi (lv_at hls j hj) (kk r h' e H locs ls hz M hS hls)
theorem aw_lload (C : CxOK K E own cc nL) {i : Nat} {x : Int64} (hd : decode cc pc = .ok (.lload i, 2)) (j : Nat) (hj : L[j]? = some (i, .long x)) {d : Option (α × Mem)} (kk : Aw K E R nL Q cells slots (pc + 2) L (.long x :: st) h d) : Aw K E R nL Q cells slots pc L st h d :=
  fun r h' e H locs ls hz M hS hls => lv_lload C.1 C.2.1 hd (lv_at hls j hj) (kk r h' e H locs ls hz M hS hls)
theorem aw_lstore_n (C : CxOK K E own cc nL) {k : Fin 4} {i : Nat} {x : Int64} {L' : List (Nat × Value)} (hd : decode cc pc = .ok (.lstore_n k, 1)) (hi : (k : Nat) = i) (hn : i + 1 < nL) (hl : (i, (Value.long x)) :: L.filter (fun q => !(q.1 == i) && (!(q.1 == i + 1) && !(q.1 + 1 == i && q.2.category == 2))) = L') {d : Option (α × Mem)} (kk : Aw K E R nL Q cells slots (pc + 1) L' st h d) : Aw K E R nL Q cells slots pc L (.long x :: st) h d :=
  fun r h' e H locs ls hz M hS hls => lv_lstore_n C.1 C.2.1 hd hi hls hn hl (fun ls' hls' => kk r h' e H locs ls' hz M hS hls')
theorem aw_lstore (C : CxOK K E own cc nL) {i : Nat} {x : Int64} {L' : List (Nat × Value)} (hd : decode cc pc = .ok (.lstore i, 2)) (hn : i + 1 < nL) (hl : (i, (Value.long x)) :: L.filter (fun q => !(q.1 == i) && (!(q.1 == i + 1) && !(q.1 + 1 == i && q.2.category == 2))) = L') {d : Option (α × Mem)} (kk : Aw K E R nL Q cells slots (pc + 2) L' st h d) : Aw K E R nL Q cells slots pc L (.long x :: st) h d :=
  fun r h' e H locs ls hz M hS hls => lv_lstore C.1 C.2.1 hd hls hn hl (fun ls' hls' => kk r h' e H locs ls' hz M hS hls')
theorem aw_aload_n (C : CxOK K E own cc nL) {k : Fin 4} {i : Nat} {x : Nat} (hd : decode cc pc = .ok (.aload_n k, 1)) (hi : (k : Nat) = i) (j : Nat) (hj : L[j]? = some (i, .ref x)) {d : Option (α × Mem)} (kk : Aw K E R nL Q cells slots (pc + 1) L (.ref x :: st) h d) : Aw K E R nL Q cells slots pc L st h d :=
  fun r h' e H locs ls hz M hS hls => lv_aload_n C.1 C.2.1 hd hi (lv_at hls j hj) (kk r h' e H locs ls hz M hS hls)
theorem aw_aload (C : CxOK K E own cc nL) {i : Nat} {x : Nat} (hd : decode cc pc = .ok (.aload i, 2)) (j : Nat) (hj : L[j]? = some (i, .ref x)) {d : Option (α × Mem)} (kk : Aw K E R nL Q cells slots (pc + 2) L (.ref x :: st) h d) : Aw K E R nL Q cells slots pc L st h d :=
  fun r h' e H locs ls hz M hS hls => lv_aload C.1 C.2.1 hd (lv_at hls j hj) (kk r h' e H locs ls hz M hS hls)
theorem aw_astore_n (C : CxOK K E own cc nL) {k : Fin 4} {i : Nat} {x : Nat} {L' : List (Nat × Value)} (hd : decode cc pc = .ok (.astore_n k, 1)) (hi : (k : Nat) = i) (hn : i < nL) (hl : (i, (Value.ref x)) :: L.filter (fun q => !(q.1 == i) && !(q.1 + 1 == i && q.2.category == 2)) = L') {d : Option (α × Mem)} (kk : Aw K E R nL Q cells slots (pc + 1) L' st h d) : Aw K E R nL Q cells slots pc L (.ref x :: st) h d :=
  fun r h' e H locs ls hz M hS hls => lv_astore_n C.1 C.2.1 hd hi hls hn hl (fun ls' hls' => kk r h' e H locs ls' hz M hS hls')
theorem aw_astore (C : CxOK K E own cc nL) {i : Nat} {x : Nat} {L' : List (Nat × Value)} (hd : decode cc pc = .ok (.astore i, 2)) (hn : i < nL) (hl : (i, (Value.ref x)) :: L.filter (fun q => !(q.1 == i) && !(q.1 + 1 == i && q.2.category == 2)) = L') {d : Option (α × Mem)} (kk : Aw K E R nL Q cells slots (pc + 2) L' st h d) : Aw K E R nL Q cells slots pc L (.ref x :: st) h d :=
  fun r h' e H locs ls hz M hS hls => lv_astore C.1 C.2.1 hd hls hn hl (fun ls' hls' => kk r h' e H locs ls' hz M hS hls')
theorem aw_iinc (C : CxOK K E own cc nL) {i : Nat} {n : Int} {x v : Int32} {L' : List (Nat × Value)} (hd : decode cc pc = .ok (.iinc i n, 3)) (j : Nat) (hj : L[j]? = some (i, .int x)) (hv : x + Int32.ofInt n = v) (hn : i < nL) (hl : (i, Value.int v) :: L.filter (fun q => !(q.1 == i) && !(q.1 + 1 == i && q.2.category == 2)) = L') {d : Option (α × Mem)} (kk : Aw K E R nL Q cells slots (pc + 3) L' st h d) : Aw K E R nL Q cells slots pc L st h d :=
  fun r h' e H locs ls hz M hS hls => lv_iinc C.1 C.2.1 hd hls hj hv hn hl (fun ls' hls' => kk r h' e H locs ls' hz M hS hls')
theorem aw_iconst (C : CxOK K E own cc nL) {n : Int} {v : Int32} (hd : decode cc pc = .ok (.iconst n, 1)) (hv : Int32.ofInt n = v) {d : Option (α × Mem)} (kk : Aw K E R nL Q cells slots (pc + 1) L (.int v :: st) h d) : Aw K E R nL Q cells slots pc L (st) h d :=
  fun r h' e H locs ls hz M hS hls => lv_iconst C.1 C.2.1 hd hv (kk r h' e H locs ls hz M hS hls)
theorem aw_bipush (C : CxOK K E own cc nL) {n : Int} {v : Int32} (hd : decode cc pc = .ok (.bipush n, 2)) (hv : (Int8.ofInt n).toInt32 = v) {d : Option (α × Mem)} (kk : Aw K E R nL Q cells slots (pc + 2) L (.int v :: st) h d) : Aw K E R nL Q cells slots pc L (st) h d :=
  fun r h' e H locs ls hz M hS hls => lv_bipush C.1 C.2.1 hd hv (kk r h' e H locs ls hz M hS hls)
theorem aw_sipush (C : CxOK K E own cc nL) {n : Int} {v : Int32} (hd : decode cc pc = .ok (.sipush n, 3)) (hv : (Int16.ofInt n).toInt32 = v) {d : Option (α × Mem)} (kk : Aw K E R nL Q cells slots (pc + 3) L (.int v :: st) h d) : Aw K E R nL Q cells slots pc L (st) h d :=
  fun r h' e H locs ls hz M hS hls => lv_sipush C.1 C.2.1 hd hv (kk r h' e H locs ls hz M hS hls)
theorem aw_lconst (C : CxOK K E own cc nL) {n : Fin 2} {v : Int64} (hd : decode cc pc = .ok (.lconst n, 1)) (hv : Int64.ofNat (n : Nat) = v) {d : Option (α × Mem)} (kk : Aw K E R nL Q cells slots (pc + 1) L (.long v :: st) h d) : Aw K E R nL Q cells slots pc L (st) h d :=
  fun r h' e H locs ls hz M hS hls => lv_lconst C.1 C.2.1 hd hv (kk r h' e H locs ls hz M hS hls)
theorem aw_ldc2 (C : CxOK K E own cc nL) {index : Nat} {v : Int64} (hw : Jvm.Cond.constantLong own index v ∈ WSA) (hd : decode cc pc = .ok (.ldc2_w index, 3)) {d : Option (α × Mem)} (kk : Aw K E R nL Q cells slots (pc + 3) L (.long v :: st) h d) : Aw K E R nL Q cells slots pc L (st) h d :=
  fun r h' e H locs ls hz M hS hls => lv_ldc2 C.1 C.2.1 C.2.2.2.1 (C.2.2.2.2.1 _ hw) hd (kk r h' e H locs ls hz M hS hls)
theorem aw_ldc (C : CxOK K E own cc nL) {index : Nat} {v : Int32} (hw : Jvm.Cond.constant own index v ∈ WSA) (hd : decode cc pc = .ok (.ldc index, 2)) {d : Option (α × Mem)} (kk : Aw K E R nL Q cells slots (pc + 2) L (.int v :: st) h d) : Aw K E R nL Q cells slots pc L (st) h d :=
  fun r h' e H locs ls hz M hS hls => lv_ldc C.1 C.2.1 C.2.2.2.1 (C.2.2.2.2.1 _ hw) hd (kk r h' e H locs ls hz M hS hls)
theorem aw_ldcw (C : CxOK K E own cc nL) {index : Nat} {v : Int32} (hw : Jvm.Cond.constant own index v ∈ WSA) (hd : decode cc pc = .ok (.ldc_w index, 3)) {d : Option (α × Mem)} (kk : Aw K E R nL Q cells slots (pc + 3) L (.int v :: st) h d) : Aw K E R nL Q cells slots pc L (st) h d :=
  fun r h' e H locs ls hz M hS hls => lv_ldcw C.1 C.2.1 C.2.2.2.1 (C.2.2.2.2.1 _ hw) hd (kk r h' e H locs ls hz M hS hls)
theorem aw_null (C : CxOK K E own cc nL) (hd : decode cc pc = .ok (.aconst_null, 1)) {d : Option (α × Mem)} (kk : Aw K E R nL Q cells slots (pc + 1) L (.null :: st) h d) : Aw K E R nL Q cells slots pc L (st) h d :=
  fun r h' e H locs ls hz M hS hls => lv_null C.1 C.2.1 hd (kk r h' e H locs ls hz M hS hls)
theorem aw_nmI {d : Int32 → Option (α × Mem)} {x : Int32} (kk : ∀ v, v = x → Aw K E R nL Q cells slots pc L (.int v :: st) h (d v)) : Aw K E R nL Q cells slots pc L (.int x :: st) h (nm x d) := kk x rfl
theorem aw_nmJ {d : Int64 → Option (α × Mem)} {x : Int64} (kk : ∀ v, v = x → Aw K E R nL Q cells slots pc L (.long v :: st) h (d v)) : Aw K E R nL Q cells slots pc L (.long x :: st) h (nm x d) := kk x rfl
theorem aw_iincN (C : CxOK K E own cc nL) {i : Nat} {n : Int} {x k : Int32} {L1 : List (Nat × Value)} (hd : decode cc pc = .ok (.iinc i n, 3)) (j : Nat) (hj : L[j]? = some (i, .int x)) (hk : Int32.ofInt n = k) (hn : i < nL) (hl : L.filter (fun q => !(q.1 == i) && !(q.1 + 1 == i && q.2.category == 2)) = L1) {d : Int32 → Option (α × Mem)} (kk : ∀ v, v = x + k → Aw K E R nL Q cells slots (pc + 3) ((i, .int v) :: L1) st h (d v)) : Aw K E R nL Q cells slots pc L st h (nm (x + k) d) := by
  subst hk
  exact aw_iinc C hd j hj rfl hn (congrArg _ hl) (kk _ rfl)
theorem gR_ne {c a k v : Nat} (e : gR c h a k = some v) : v ≠ 0 := by
  unfold gR at e
  split at e
  · rename_i hc
    cases e
    exact hc.2
  · cases e
theorem xR_ne {a v : Nat} {i : Int32} (e : xR h a i = some v) : v ≠ 0 := by
  unfold xR at e
  split at e
  · rename_i hc
    cases e
    exact hc.2.2
  · cases e
theorem aw_iadd (C : CxOK K E own cc nL) {x y : Int32} (hd : decode cc pc = .ok (.iadd, 1)) {d : Option (α × Mem)} (kk : Aw K E R nL Q cells slots (pc + 1) L (.int (x + y) :: st) h d) : Aw K E R nL Q cells slots pc L (.int y :: .int x :: st) h d :=
  fun r h' e H locs ls hz M hS hls => lv_iadd C.1 C.2.1 hd (kk r h' e H locs ls hz M hS hls)
theorem aw_isub (C : CxOK K E own cc nL) {x y : Int32} (hd : decode cc pc = .ok (.isub, 1)) {d : Option (α × Mem)} (kk : Aw K E R nL Q cells slots (pc + 1) L (.int (x - y) :: st) h d) : Aw K E R nL Q cells slots pc L (.int y :: .int x :: st) h d :=
  fun r h' e H locs ls hz M hS hls => lv_isub C.1 C.2.1 hd (kk r h' e H locs ls hz M hS hls)
theorem aw_imul (C : CxOK K E own cc nL) {x y : Int32} (hd : decode cc pc = .ok (.imul, 1)) {d : Option (α × Mem)} (kk : Aw K E R nL Q cells slots (pc + 1) L (.int (x * y) :: st) h d) : Aw K E R nL Q cells slots pc L (.int y :: .int x :: st) h d :=
  fun r h' e H locs ls hz M hS hls => lv_imul C.1 C.2.1 hd (kk r h' e H locs ls hz M hS hls)
theorem aw_iand (C : CxOK K E own cc nL) {x y : Int32} (hd : decode cc pc = .ok (.iand, 1)) {d : Option (α × Mem)} (kk : Aw K E R nL Q cells slots (pc + 1) L (.int (x &&& y) :: st) h d) : Aw K E R nL Q cells slots pc L (.int y :: .int x :: st) h d :=
  fun r h' e H locs ls hz M hS hls => lv_iand C.1 C.2.1 hd (kk r h' e H locs ls hz M hS hls)
theorem aw_ior (C : CxOK K E own cc nL) {x y : Int32} (hd : decode cc pc = .ok (.ior, 1)) {d : Option (α × Mem)} (kk : Aw K E R nL Q cells slots (pc + 1) L (.int (x ||| y) :: st) h d) : Aw K E R nL Q cells slots pc L (.int y :: .int x :: st) h d :=
  fun r h' e H locs ls hz M hS hls => lv_ior C.1 C.2.1 hd (kk r h' e H locs ls hz M hS hls)
theorem aw_ixor (C : CxOK K E own cc nL) {x y : Int32} (hd : decode cc pc = .ok (.ixor, 1)) {d : Option (α × Mem)} (kk : Aw K E R nL Q cells slots (pc + 1) L (.int (x ^^^ y) :: st) h d) : Aw K E R nL Q cells slots pc L (.int y :: .int x :: st) h d :=
  fun r h' e H locs ls hz M hS hls => lv_ixor C.1 C.2.1 hd (kk r h' e H locs ls hz M hS hls)
theorem aw_ishr (C : CxOK K E own cc nL) {x y : Int32} (hd : decode cc pc = .ok (.ishr, 1)) {d : Option (α × Mem)} (kk : Aw K E R nL Q cells slots (pc + 1) L (.int (x >>> (y &&& 31)) :: st) h d) : Aw K E R nL Q cells slots pc L (.int y :: .int x :: st) h d :=
  fun r h' e H locs ls hz M hS hls => lv_ishr C.1 C.2.1 hd (kk r h' e H locs ls hz M hS hls)
theorem aw_ishl (C : CxOK K E own cc nL) {x y : Int32} (hd : decode cc pc = .ok (.ishl, 1)) {d : Option (α × Mem)} (kk : Aw K E R nL Q cells slots (pc + 1) L (.int (x <<< (y &&& 31)) :: st) h d) : Aw K E R nL Q cells slots pc L (.int y :: .int x :: st) h d :=
  fun r h' e H locs ls hz M hS hls => lv_ishl C.1 C.2.1 hd (kk r h' e H locs ls hz M hS hls)
theorem aw_iushr (C : CxOK K E own cc nL) {x y v : Int32} (hd : decode cc pc = .ok (.iushr, 1)) (hv : (x.toUInt32 >>> (y.toUInt32 &&& Int32.toUInt32 31)).toInt32 = v) {d : Option (α × Mem)} (kk : Aw K E R nL Q cells slots (pc + 1) L (.int v :: st) h d) : Aw K E R nL Q cells slots pc L (.int y :: .int x :: st) h d :=
  fun r h' e H locs ls hz M hS hls => lv_iushr C.1 C.2.1 hd hv (kk r h' e H locs ls hz M hS hls)
theorem aw_ladd (C : CxOK K E own cc nL) {x y : Int64} (hd : decode cc pc = .ok (.ladd, 1)) {d : Option (α × Mem)} (kk : Aw K E R nL Q cells slots (pc + 1) L (.long (x + y) :: st) h d) : Aw K E R nL Q cells slots pc L (.long y :: .long x :: st) h d :=
  fun r h' e H locs ls hz M hS hls => lv_ladd C.1 C.2.1 hd (kk r h' e H locs ls hz M hS hls)
theorem aw_lsub (C : CxOK K E own cc nL) {x y : Int64} (hd : decode cc pc = .ok (.lsub, 1)) {d : Option (α × Mem)} (kk : Aw K E R nL Q cells slots (pc + 1) L (.long (x - y) :: st) h d) : Aw K E R nL Q cells slots pc L (.long y :: .long x :: st) h d :=
  fun r h' e H locs ls hz M hS hls => lv_lsub C.1 C.2.1 hd (kk r h' e H locs ls hz M hS hls)
theorem aw_lmul (C : CxOK K E own cc nL) {x y : Int64} (hd : decode cc pc = .ok (.lmul, 1)) {d : Option (α × Mem)} (kk : Aw K E R nL Q cells slots (pc + 1) L (.long (x * y) :: st) h d) : Aw K E R nL Q cells slots pc L (.long y :: .long x :: st) h d :=
  fun r h' e H locs ls hz M hS hls => lv_lmul C.1 C.2.1 hd (kk r h' e H locs ls hz M hS hls)
theorem aw_land (C : CxOK K E own cc nL) {x y : Int64} (hd : decode cc pc = .ok (.land, 1)) {d : Option (α × Mem)} (kk : Aw K E R nL Q cells slots (pc + 1) L (.long (x &&& y) :: st) h d) : Aw K E R nL Q cells slots pc L (.long y :: .long x :: st) h d :=
  fun r h' e H locs ls hz M hS hls => lv_land C.1 C.2.1 hd (kk r h' e H locs ls hz M hS hls)
theorem aw_lor (C : CxOK K E own cc nL) {x y : Int64} (hd : decode cc pc = .ok (.lor, 1)) {d : Option (α × Mem)} (kk : Aw K E R nL Q cells slots (pc + 1) L (.long (x ||| y) :: st) h d) : Aw K E R nL Q cells slots pc L (.long y :: .long x :: st) h d :=
  fun r h' e H locs ls hz M hS hls => lv_lor C.1 C.2.1 hd (kk r h' e H locs ls hz M hS hls)
theorem aw_lxor (C : CxOK K E own cc nL) {x y : Int64} (hd : decode cc pc = .ok (.lxor, 1)) {d : Option (α × Mem)} (kk : Aw K E R nL Q cells slots (pc + 1) L (.long (x ^^^ y) :: st) h d) : Aw K E R nL Q cells slots pc L (.long y :: .long x :: st) h d :=
  fun r h' e H locs ls hz M hS hls => lv_lxor C.1 C.2.1 hd (kk r h' e H locs ls hz M hS hls)
theorem aw_lshl (C : CxOK K E own cc nL) {x : Int64} {y : Int32} (hd : decode cc pc = .ok (.lshl, 1)) {d : Option (α × Mem)} (kk : Aw K E R nL Q cells slots (pc + 1) L (.long (x <<< (y.toInt64 &&& 63)) :: st) h d) : Aw K E R nL Q cells slots pc L (.int y :: .long x :: st) h d :=
  fun r h' e H locs ls hz M hS hls => lv_lshl C.1 C.2.1 hd rfl (kk r h' e H locs ls hz M hS hls)
theorem aw_ineg (C : CxOK K E own cc nL) {x : Int32} (hd : decode cc pc = .ok (.ineg, 1)) {d : Option (α × Mem)} (kk : Aw K E R nL Q cells slots (pc + 1) L (.int (-x) :: st) h d) : Aw K E R nL Q cells slots pc L (.int x :: st) h d :=
  fun r h' e H locs ls hz M hS hls => lv_ineg C.1 C.2.1 hd (kk r h' e H locs ls hz M hS hls)
theorem aw_lneg (C : CxOK K E own cc nL) {x : Int64} (hd : decode cc pc = .ok (.lneg, 1)) {d : Option (α × Mem)} (kk : Aw K E R nL Q cells slots (pc + 1) L (.long (-x) :: st) h d) : Aw K E R nL Q cells slots pc L (.long x :: st) h d :=
  fun r h' e H locs ls hz M hS hls => lv_lneg C.1 C.2.1 hd (kk r h' e H locs ls hz M hS hls)
theorem aw_i2l (C : CxOK K E own cc nL) {x : Int32} (hd : decode cc pc = .ok (.i2l, 1)) {d : Option (α × Mem)} (kk : Aw K E R nL Q cells slots (pc + 1) L (.long x.toInt64 :: st) h d) : Aw K E R nL Q cells slots pc L (.int x :: st) h d :=
  fun r h' e H locs ls hz M hS hls => lv_i2l C.1 C.2.1 hd rfl (kk r h' e H locs ls hz M hS hls)
theorem aw_l2i (C : CxOK K E own cc nL) {x : Int64} (hd : decode cc pc = .ok (.l2i, 1)) {d : Option (α × Mem)} (kk : Aw K E R nL Q cells slots (pc + 1) L (.int x.toInt32 :: st) h d) : Aw K E R nL Q cells slots pc L (.long x :: st) h d :=
  fun r h' e H locs ls hz M hS hls => lv_l2i C.1 C.2.1 hd rfl (kk r h' e H locs ls hz M hS hls)
theorem aw_i2b (C : CxOK K E own cc nL) {x : Int32} (hd : decode cc pc = .ok (.i2b, 1)) {d : Option (α × Mem)} (kk : Aw K E R nL Q cells slots (pc + 1) L (.int x.toInt8.toInt32 :: st) h d) : Aw K E R nL Q cells slots pc L (.int x :: st) h d :=
  fun r h' e H locs ls hz M hS hls => lv_i2b C.1 C.2.1 hd rfl (kk r h' e H locs ls hz M hS hls)
theorem aw_i2s (C : CxOK K E own cc nL) {x : Int32} (hd : decode cc pc = .ok (.i2s, 1)) {d : Option (α × Mem)} (kk : Aw K E R nL Q cells slots (pc + 1) L (.int x.toInt16.toInt32 :: st) h d) : Aw K E R nL Q cells slots pc L (.int x :: st) h d :=
  fun r h' e H locs ls hz M hS hls => lv_i2s C.1 C.2.1 hd rfl (kk r h' e H locs ls hz M hS hls)
theorem aw_lcmp (C : CxOK K E own cc nL) {x y : Int64} (hd : decode cc pc = .ok (.lcmp, 1)) {d : Option (α × Mem)} (kk : Aw K E R nL Q cells slots (pc + 1) L (.int (lg_cmp x y) :: st) h d) : Aw K E R nL Q cells slots pc L (.long y :: .long x :: st) h d :=
  fun r h' e H locs ls hz M hS hls => W.lcmp C.1 C.2.1 hd (kk r h' e H locs ls hz M hS hls)
theorem aw_dup (C : CxOK K E own cc nL) {v : Value} (hv : v.category = 1) (hd : decode cc pc = .ok (.dup, 1)) {d : Option (α × Mem)} (kk : Aw K E R nL Q cells slots (pc + 1) L (v :: v :: st) h d) : Aw K E R nL Q cells slots pc L (v :: st) h d :=
  fun r h' e H locs ls hz M hS hls => lv_dup C.1 C.2.1 hd hv (kk r h' e H locs ls hz M hS hls)
theorem aw_dup2 (C : CxOK K E own cc nL) {v u : Value} (hv : v.category = 1) (hu : u.category = 1) (hd : decode cc pc = .ok (.dup2, 1)) {d : Option (α × Mem)} (kk : Aw K E R nL Q cells slots (pc + 1) L (v :: u :: v :: u :: st) h d) : Aw K E R nL Q cells slots pc L (v :: u :: st) h d :=
  fun r h' e H locs ls hz M hS hls => lv_dup2_11 C.1 C.2.1 hd hv hu (kk r h' e H locs ls hz M hS hls)
theorem aw_dup_x1 (C : CxOK K E own cc nL) {v u : Value} (hv : v.category = 1) (hu : u.category = 1) (hd : decode cc pc = .ok (.dup_x1, 1)) {d : Option (α × Mem)} (kk : Aw K E R nL Q cells slots (pc + 1) L (v :: u :: v :: st) h d) : Aw K E R nL Q cells slots pc L (v :: u :: st) h d :=
  fun r h' e H locs ls hz M hS hls => lv_dup_x1 C.1 C.2.1 hd hv hu (kk r h' e H locs ls hz M hS hls)
theorem aw_pop (C : CxOK K E own cc nL) {v : Value} (hv : v.category = 1) (hd : decode cc pc = .ok (.pop, 1)) {d : Option (α × Mem)} (kk : Aw K E R nL Q cells slots (pc + 1) L (st) h d) : Aw K E R nL Q cells slots pc L (v :: st) h d :=
  fun r h' e H locs ls hz M hS hls => lv_pop C.1 C.2.1 hd hv (kk r h' e H locs ls hz M hS hls)
theorem aw_idiv (C : CxOK K E own cc nL) {x y : Int32} (hd : decode cc pc = .ok (.idiv, 1)) {d : Option (α × Mem)} (kk : ¬ y = 0 → Aw K E R nL Q cells slots (pc + 1) L (.int (x / y) :: st) h d) : Aw K E R nL Q cells slots pc L (.int y :: .int x :: st) h (if y = 0 then none else d) := by
  intro r h' e H locs ls hz M hS hls
  by_cases hy : y = 0
  · rw [if_pos hy] at e; cases e
  · rw [if_neg hy] at e; exact lv_idiv C.1 C.2.1 hd hy (kk hy r h' e H locs ls hz M hS hls)
theorem aw_irem (C : CxOK K E own cc nL) {x y : Int32} (hd : decode cc pc = .ok (.irem, 1)) {d : Option (α × Mem)} (kk : ¬ y = 0 → Aw K E R nL Q cells slots (pc + 1) L (.int (x - x / y * y) :: st) h d) : Aw K E R nL Q cells slots pc L (.int y :: .int x :: st) h (if y = 0 then none else d) := by
  intro r h' e H locs ls hz M hS hls
  by_cases hy : y = 0
  · rw [if_pos hy] at e; cases e
  · rw [if_neg hy] at e; exact lv_irem C.1 C.2.1 hd hy (kk hy r h' e H locs ls hz M hS hls)
theorem aw_ldiv (C : CxOK K E own cc nL) {x y : Int64} (hd : decode cc pc = .ok (.ldiv, 1)) {d : Option (α × Mem)} (kk : ¬ y = 0 → Aw K E R nL Q cells slots (pc + 1) L (.long (x / y) :: st) h d) : Aw K E R nL Q cells slots pc L (.long y :: .long x :: st) h (if y = 0 then none else d) := by
  intro r h' e H locs ls hz M hS hls
  by_cases hy : y = 0
  · rw [if_pos hy] at e; cases e
  · rw [if_neg hy] at e; exact lv_ldiv C.1 C.2.1 hd hy (kk hy r h' e H locs ls hz M hS hls)
theorem aw_lrem (C : CxOK K E own cc nL) {x y : Int64} (hd : decode cc pc = .ok (.lrem, 1)) {d : Option (α × Mem)} (kk : ¬ y = 0 → Aw K E R nL Q cells slots (pc + 1) L (.long (x - x / y * y) :: st) h d) : Aw K E R nL Q cells slots pc L (.long y :: .long x :: st) h (if y = 0 then none else d) := by
  intro r h' e H locs ls hz M hS hls
  by_cases hy : y = 0
  · rw [if_pos hy] at e; cases e
  · rw [if_neg hy] at e; exact lv_lrem C.1 C.2.1 hd hy (kk hy r h' e H locs ls hz M hS hls)
theorem aw_if_eq (C : CxOK K E own cc nL) {x : Int32} {off : Int} (tgt : Nat) (hd : decode cc pc = .ok (.ifCond .eq off, 3)) (ht : (pc : Int) + off = (tgt : Int)) {d1 d2 : Option (α × Mem)} (kt : (x = 0) → Aw K E R nL Q cells slots tgt L st h d1) (kf : ¬ (x = 0) → Aw K E R nL Q cells slots (pc + 3) L st h d2) : Aw K E R nL Q cells slots pc L (.int x :: st) h (if x = 0 then d1 else d2) := by
  intro r h' e H locs ls hz M hS hls
  refine lv_if_eq C.1 C.2.1 hd ht (fun hc => ?_) (fun hc => ?_)
  · rw [if_pos hc] at e; exact kt hc r h' e H locs ls hz M hS hls
  · rw [if_neg hc] at e; exact kf hc r h' e H locs ls hz M hS hls
theorem aw_if_eq_t (C : CxOK K E own cc nL) {x : Int32} {off : Int} (tgt : Nat) (hd : decode cc pc = .ok (.ifCond .eq off, 3)) (ht : (pc : Int) + off = (tgt : Int)) (hc : x = 0) {d : Option (α × Mem)} (kt : Aw K E R nL Q cells slots tgt L st h d) : Aw K E R nL Q cells slots pc L (.int x :: st) h d := fun r h' e H locs ls hz M hS hls => lv_if_eq C.1 C.2.1 hd ht (fun _ => kt r h' e H locs ls hz M hS hls) (fun hn => absurd hc hn)
theorem aw_if_eq_f (C : CxOK K E own cc nL) {x : Int32} {off : Int} (tgt : Nat) (hd : decode cc pc = .ok (.ifCond .eq off, 3)) (ht : (pc : Int) + off = (tgt : Int)) (hc : ¬ (x = 0)) {d : Option (α × Mem)} (kf : Aw K E R nL Q cells slots (pc + 3) L st h d) : Aw K E R nL Q cells slots pc L (.int x :: st) h d := fun r h' e H locs ls hz M hS hls => lv_if_eq C.1 C.2.1 hd ht (fun hn => absurd hn hc) (fun _ => kf r h' e H locs ls hz M hS hls)
theorem aw_icmp_eq (C : CxOK K E own cc nL) {x y : Int32} {off : Int} (tgt : Nat) (hd : decode cc pc = .ok (.if_icmp .eq off, 3)) (ht : (pc : Int) + off = (tgt : Int)) {d1 d2 : Option (α × Mem)} (kt : (x = y) → Aw K E R nL Q cells slots tgt L st h d1) (kf : ¬ (x = y) → Aw K E R nL Q cells slots (pc + 3) L st h d2) : Aw K E R nL Q cells slots pc L (.int y :: .int x :: st) h (if x = y then d1 else d2) := by
  intro r h' e H locs ls hz M hS hls
  refine lv_icmp_eq C.1 C.2.1 hd ht (fun hc => ?_) (fun hc => ?_)
  · rw [if_pos hc] at e; exact kt hc r h' e H locs ls hz M hS hls
  · rw [if_neg hc] at e; exact kf hc r h' e H locs ls hz M hS hls
theorem aw_icmp_eq_t (C : CxOK K E own cc nL) {x y : Int32} {off : Int} (tgt : Nat) (hd : decode cc pc = .ok (.if_icmp .eq off, 3)) (ht : (pc : Int) + off = (tgt : Int)) (hc : x = y) {d : Option (α × Mem)} (kt : Aw K E R nL Q cells slots tgt L st h d) : Aw K E R nL Q cells slots pc L (.int y :: .int x :: st) h d := fun r h' e H locs ls hz M hS hls => lv_icmp_eq C.1 C.2.1 hd ht (fun _ => kt r h' e H locs ls hz M hS hls) (fun hn => absurd hc hn)
theorem aw_icmp_eq_f (C : CxOK K E own cc nL) {x y : Int32} {off : Int} (tgt : Nat) (hd : decode cc pc = .ok (.if_icmp .eq off, 3)) (ht : (pc : Int) + off = (tgt : Int)) (hc : ¬ (x = y)) {d : Option (α × Mem)} (kf : Aw K E R nL Q cells slots (pc + 3) L st h d) : Aw K E R nL Q cells slots pc L (.int y :: .int x :: st) h d := fun r h' e H locs ls hz M hS hls => lv_icmp_eq C.1 C.2.1 hd ht (fun hn => absurd hn hc) (fun _ => kf r h' e H locs ls hz M hS hls)
theorem aw_if_ne (C : CxOK K E own cc nL) {x : Int32} {off : Int} (tgt : Nat) (hd : decode cc pc = .ok (.ifCond .ne off, 3)) (ht : (pc : Int) + off = (tgt : Int)) {d1 d2 : Option (α × Mem)} (kf : (x = 0) → Aw K E R nL Q cells slots (pc + 3) L st h d1) (kt : ¬ (x = 0) → Aw K E R nL Q cells slots tgt L st h d2) : Aw K E R nL Q cells slots pc L (.int x :: st) h (if x = 0 then d1 else d2) := by
  intro r h' e H locs ls hz M hS hls
  refine lv_if_ne C.1 C.2.1 hd ht (fun hc => ?_) (fun hc => ?_)
  · rw [if_neg hc] at e; exact kt hc r h' e H locs ls hz M hS hls
  · rw [if_pos hc] at e; exact kf hc r h' e H locs ls hz M hS hls
theorem aw_if_ne_t (C : CxOK K E own cc nL) {x : Int32} {off : Int} (tgt : Nat) (hd : decode cc pc = .ok (.ifCond .ne off, 3)) (ht : (pc : Int) + off = (tgt : Int)) (hc : ¬ (x = 0)) {d : Option (α × Mem)} (kt : Aw K E R nL Q cells slots tgt L st h d) : Aw K E R nL Q cells slots pc L (.int x :: st) h d := fun r h' e H locs ls hz M hS hls => lv_if_ne C.1 C.2.1 hd ht (fun _ => kt r h' e H locs ls hz M hS hls) (fun hn => absurd hn hc)
theorem aw_if_ne_f (C : CxOK K E own cc nL) {x : Int32} {off : Int} (tgt : Nat) (hd : decode cc pc = .ok (.ifCond .ne off, 3)) (ht : (pc : Int) + off = (tgt : Int)) (hc : x = 0) {d : Option (α × Mem)} (kf : Aw K E R nL Q cells slots (pc + 3) L st h d) : Aw K E R nL Q cells slots pc L (.int x :: st) h d := fun r h' e H locs ls hz M hS hls => lv_if_ne C.1 C.2.1 hd ht (fun hn => absurd hc hn) (fun _ => kf r h' e H locs ls hz M hS hls)
theorem aw_icmp_ne (C : CxOK K E own cc nL) {x y : Int32} {off : Int} (tgt : Nat) (hd : decode cc pc = .ok (.if_icmp .ne off, 3)) (ht : (pc : Int) + off = (tgt : Int)) {d1 d2 : Option (α × Mem)} (kf : (x = y) → Aw K E R nL Q cells slots (pc + 3) L st h d1) (kt : ¬ (x = y) → Aw K E R nL Q cells slots tgt L st h d2) : Aw K E R nL Q cells slots pc L (.int y :: .int x :: st) h (if x = y then d1 else d2) := by
  intro r h' e H locs ls hz M hS hls
  refine lv_icmp_ne C.1 C.2.1 hd ht (fun hc => ?_) (fun hc => ?_)
  · rw [if_neg hc] at e; exact kt hc r h' e H locs ls hz M hS hls
  · rw [if_pos hc] at e; exact kf hc r h' e H locs ls hz M hS hls
theorem aw_icmp_ne_t (C : CxOK K E own cc nL) {x y : Int32} {off : Int} (tgt : Nat) (hd : decode cc pc = .ok (.if_icmp .ne off, 3)) (ht : (pc : Int) + off = (tgt : Int)) (hc : ¬ (x = y)) {d : Option (α × Mem)} (kt : Aw K E R nL Q cells slots tgt L st h d) : Aw K E R nL Q cells slots pc L (.int y :: .int x :: st) h d := fun r h' e H locs ls hz M hS hls => lv_icmp_ne C.1 C.2.1 hd ht (fun _ => kt r h' e H locs ls hz M hS hls) (fun hn => absurd hn hc)
theorem aw_icmp_ne_f (C : CxOK K E own cc nL) {x y : Int32} {off : Int} (tgt : Nat) (hd : decode cc pc = .ok (.if_icmp .ne off, 3)) (ht : (pc : Int) + off = (tgt : Int)) (hc : x = y) {d : Option (α × Mem)} (kf : Aw K E R nL Q cells slots (pc + 3) L st h d) : Aw K E R nL Q cells slots pc L (.int y :: .int x :: st) h d := fun r h' e H locs ls hz M hS hls => lv_icmp_ne C.1 C.2.1 hd ht (fun hn => absurd hc hn) (fun _ => kf r h' e H locs ls hz M hS hls)
theorem aw_if_lt (C : CxOK K E own cc nL) {x : Int32} {off : Int} (tgt : Nat) (hd : decode cc pc = .ok (.ifCond .lt off, 3)) (ht : (pc : Int) + off = (tgt : Int)) {d1 d2 : Option (α × Mem)} (kt : (x < 0) → Aw K E R nL Q cells slots tgt L st h d1) (kf : ¬ (x < 0) → Aw K E R nL Q cells slots (pc + 3) L st h d2) : Aw K E R nL Q cells slots pc L (.int x :: st) h (if x < 0 then d1 else d2) := by
  intro r h' e H locs ls hz M hS hls
  refine lv_if_lt C.1 C.2.1 hd ht (fun hc => ?_) (fun hc => ?_)
  · rw [if_pos hc] at e; exact kt hc r h' e H locs ls hz M hS hls
  · rw [if_neg hc] at e; exact kf hc r h' e H locs ls hz M hS hls
theorem aw_if_lt_t (C : CxOK K E own cc nL) {x : Int32} {off : Int} (tgt : Nat) (hd : decode cc pc = .ok (.ifCond .lt off, 3)) (ht : (pc : Int) + off = (tgt : Int)) (hc : x < 0) {d : Option (α × Mem)} (kt : Aw K E R nL Q cells slots tgt L st h d) : Aw K E R nL Q cells slots pc L (.int x :: st) h d := fun r h' e H locs ls hz M hS hls => lv_if_lt C.1 C.2.1 hd ht (fun _ => kt r h' e H locs ls hz M hS hls) (fun hn => absurd hc hn)
theorem aw_if_lt_f (C : CxOK K E own cc nL) {x : Int32} {off : Int} (tgt : Nat) (hd : decode cc pc = .ok (.ifCond .lt off, 3)) (ht : (pc : Int) + off = (tgt : Int)) (hc : ¬ (x < 0)) {d : Option (α × Mem)} (kf : Aw K E R nL Q cells slots (pc + 3) L st h d) : Aw K E R nL Q cells slots pc L (.int x :: st) h d := fun r h' e H locs ls hz M hS hls => lv_if_lt C.1 C.2.1 hd ht (fun hn => absurd hn hc) (fun _ => kf r h' e H locs ls hz M hS hls)
theorem aw_icmp_lt (C : CxOK K E own cc nL) {x y : Int32} {off : Int} (tgt : Nat) (hd : decode cc pc = .ok (.if_icmp .lt off, 3)) (ht : (pc : Int) + off = (tgt : Int)) {d1 d2 : Option (α × Mem)} (kt : (x < y) → Aw K E R nL Q cells slots tgt L st h d1) (kf : ¬ (x < y) → Aw K E R nL Q cells slots (pc + 3) L st h d2) : Aw K E R nL Q cells slots pc L (.int y :: .int x :: st) h (if x < y then d1 else d2) := by
  intro r h' e H locs ls hz M hS hls
  refine lv_icmp_lt C.1 C.2.1 hd ht (fun hc => ?_) (fun hc => ?_)
  · rw [if_pos hc] at e; exact kt hc r h' e H locs ls hz M hS hls
  · rw [if_neg hc] at e; exact kf hc r h' e H locs ls hz M hS hls
theorem aw_icmp_lt_t (C : CxOK K E own cc nL) {x y : Int32} {off : Int} (tgt : Nat) (hd : decode cc pc = .ok (.if_icmp .lt off, 3)) (ht : (pc : Int) + off = (tgt : Int)) (hc : x < y) {d : Option (α × Mem)} (kt : Aw K E R nL Q cells slots tgt L st h d) : Aw K E R nL Q cells slots pc L (.int y :: .int x :: st) h d := fun r h' e H locs ls hz M hS hls => lv_icmp_lt C.1 C.2.1 hd ht (fun _ => kt r h' e H locs ls hz M hS hls) (fun hn => absurd hc hn)
theorem aw_icmp_lt_f (C : CxOK K E own cc nL) {x y : Int32} {off : Int} (tgt : Nat) (hd : decode cc pc = .ok (.if_icmp .lt off, 3)) (ht : (pc : Int) + off = (tgt : Int)) (hc : ¬ (x < y)) {d : Option (α × Mem)} (kf : Aw K E R nL Q cells slots (pc + 3) L st h d) : Aw K E R nL Q cells slots pc L (.int y :: .int x :: st) h d := fun r h' e H locs ls hz M hS hls => lv_icmp_lt C.1 C.2.1 hd ht (fun hn => absurd hn hc) (fun _ => kf r h' e H locs ls hz M hS hls)
theorem aw_if_ge (C : CxOK K E own cc nL) {x : Int32} {off : Int} (tgt : Nat) (hd : decode cc pc = .ok (.ifCond .ge off, 3)) (ht : (pc : Int) + off = (tgt : Int)) {d1 d2 : Option (α × Mem)} (kt : (0 ≤ x) → Aw K E R nL Q cells slots tgt L st h d1) (kf : ¬ (0 ≤ x) → Aw K E R nL Q cells slots (pc + 3) L st h d2) : Aw K E R nL Q cells slots pc L (.int x :: st) h (if 0 ≤ x then d1 else d2) := by
  intro r h' e H locs ls hz M hS hls
  refine lv_if_ge C.1 C.2.1 hd ht (fun hc => ?_) (fun hc => ?_)
  · rw [if_pos hc] at e; exact kt hc r h' e H locs ls hz M hS hls
  · rw [if_neg hc] at e; exact kf hc r h' e H locs ls hz M hS hls
theorem aw_if_ge_t (C : CxOK K E own cc nL) {x : Int32} {off : Int} (tgt : Nat) (hd : decode cc pc = .ok (.ifCond .ge off, 3)) (ht : (pc : Int) + off = (tgt : Int)) (hc : 0 ≤ x) {d : Option (α × Mem)} (kt : Aw K E R nL Q cells slots tgt L st h d) : Aw K E R nL Q cells slots pc L (.int x :: st) h d := fun r h' e H locs ls hz M hS hls => lv_if_ge C.1 C.2.1 hd ht (fun _ => kt r h' e H locs ls hz M hS hls) (fun hn => absurd hc hn)
theorem aw_if_ge_f (C : CxOK K E own cc nL) {x : Int32} {off : Int} (tgt : Nat) (hd : decode cc pc = .ok (.ifCond .ge off, 3)) (ht : (pc : Int) + off = (tgt : Int)) (hc : ¬ (0 ≤ x)) {d : Option (α × Mem)} (kf : Aw K E R nL Q cells slots (pc + 3) L st h d) : Aw K E R nL Q cells slots pc L (.int x :: st) h d := fun r h' e H locs ls hz M hS hls => lv_if_ge C.1 C.2.1 hd ht (fun hn => absurd hn hc) (fun _ => kf r h' e H locs ls hz M hS hls)
theorem aw_icmp_ge (C : CxOK K E own cc nL) {x y : Int32} {off : Int} (tgt : Nat) (hd : decode cc pc = .ok (.if_icmp .ge off, 3)) (ht : (pc : Int) + off = (tgt : Int)) {d1 d2 : Option (α × Mem)} (kt : (y ≤ x) → Aw K E R nL Q cells slots tgt L st h d1) (kf : ¬ (y ≤ x) → Aw K E R nL Q cells slots (pc + 3) L st h d2) : Aw K E R nL Q cells slots pc L (.int y :: .int x :: st) h (if y ≤ x then d1 else d2) := by
  intro r h' e H locs ls hz M hS hls
  refine lv_icmp_ge C.1 C.2.1 hd ht (fun hc => ?_) (fun hc => ?_)
  · rw [if_pos hc] at e; exact kt hc r h' e H locs ls hz M hS hls
  · rw [if_neg hc] at e; exact kf hc r h' e H locs ls hz M hS hls
theorem aw_icmp_ge_t (C : CxOK K E own cc nL) {x y : Int32} {off : Int} (tgt : Nat) (hd : decode cc pc = .ok (.if_icmp .ge off, 3)) (ht : (pc : Int) + off = (tgt : Int)) (hc : y ≤ x) {d : Option (α × Mem)} (kt : Aw K E R nL Q cells slots tgt L st h d) : Aw K E R nL Q cells slots pc L (.int y :: .int x :: st) h d := fun r h' e H locs ls hz M hS hls => lv_icmp_ge C.1 C.2.1 hd ht (fun _ => kt r h' e H locs ls hz M hS hls) (fun hn => absurd hc hn)
theorem aw_icmp_ge_f (C : CxOK K E own cc nL) {x y : Int32} {off : Int} (tgt : Nat) (hd : decode cc pc = .ok (.if_icmp .ge off, 3)) (ht : (pc : Int) + off = (tgt : Int)) (hc : ¬ (y ≤ x)) {d : Option (α × Mem)} (kf : Aw K E R nL Q cells slots (pc + 3) L st h d) : Aw K E R nL Q cells slots pc L (.int y :: .int x :: st) h d := fun r h' e H locs ls hz M hS hls => lv_icmp_ge C.1 C.2.1 hd ht (fun hn => absurd hn hc) (fun _ => kf r h' e H locs ls hz M hS hls)
theorem aw_if_gt (C : CxOK K E own cc nL) {x : Int32} {off : Int} (tgt : Nat) (hd : decode cc pc = .ok (.ifCond .gt off, 3)) (ht : (pc : Int) + off = (tgt : Int)) {d1 d2 : Option (α × Mem)} (kt : (0 < x) → Aw K E R nL Q cells slots tgt L st h d1) (kf : ¬ (0 < x) → Aw K E R nL Q cells slots (pc + 3) L st h d2) : Aw K E R nL Q cells slots pc L (.int x :: st) h (if 0 < x then d1 else d2) := by
  intro r h' e H locs ls hz M hS hls
  refine lv_if_gt C.1 C.2.1 hd ht (fun hc => ?_) (fun hc => ?_)
  · rw [if_pos hc] at e; exact kt hc r h' e H locs ls hz M hS hls
  · rw [if_neg hc] at e; exact kf hc r h' e H locs ls hz M hS hls
theorem aw_if_gt_t (C : CxOK K E own cc nL) {x : Int32} {off : Int} (tgt : Nat) (hd : decode cc pc = .ok (.ifCond .gt off, 3)) (ht : (pc : Int) + off = (tgt : Int)) (hc : 0 < x) {d : Option (α × Mem)} (kt : Aw K E R nL Q cells slots tgt L st h d) : Aw K E R nL Q cells slots pc L (.int x :: st) h d := fun r h' e H locs ls hz M hS hls => lv_if_gt C.1 C.2.1 hd ht (fun _ => kt r h' e H locs ls hz M hS hls) (fun hn => absurd hc hn)
theorem aw_if_gt_f (C : CxOK K E own cc nL) {x : Int32} {off : Int} (tgt : Nat) (hd : decode cc pc = .ok (.ifCond .gt off, 3)) (ht : (pc : Int) + off = (tgt : Int)) (hc : ¬ (0 < x)) {d : Option (α × Mem)} (kf : Aw K E R nL Q cells slots (pc + 3) L st h d) : Aw K E R nL Q cells slots pc L (.int x :: st) h d := fun r h' e H locs ls hz M hS hls => lv_if_gt C.1 C.2.1 hd ht (fun hn => absurd hn hc) (fun _ => kf r h' e H locs ls hz M hS hls)
theorem aw_icmp_gt (C : CxOK K E own cc nL) {x y : Int32} {off : Int} (tgt : Nat) (hd : decode cc pc = .ok (.if_icmp .gt off, 3)) (ht : (pc : Int) + off = (tgt : Int)) {d1 d2 : Option (α × Mem)} (kt : (y < x) → Aw K E R nL Q cells slots tgt L st h d1) (kf : ¬ (y < x) → Aw K E R nL Q cells slots (pc + 3) L st h d2) : Aw K E R nL Q cells slots pc L (.int y :: .int x :: st) h (if y < x then d1 else d2) := by
  intro r h' e H locs ls hz M hS hls
  refine lv_icmp_gt C.1 C.2.1 hd ht (fun hc => ?_) (fun hc => ?_)
  · rw [if_pos hc] at e; exact kt hc r h' e H locs ls hz M hS hls
  · rw [if_neg hc] at e; exact kf hc r h' e H locs ls hz M hS hls
theorem aw_icmp_gt_t (C : CxOK K E own cc nL) {x y : Int32} {off : Int} (tgt : Nat) (hd : decode cc pc = .ok (.if_icmp .gt off, 3)) (ht : (pc : Int) + off = (tgt : Int)) (hc : y < x) {d : Option (α × Mem)} (kt : Aw K E R nL Q cells slots tgt L st h d) : Aw K E R nL Q cells slots pc L (.int y :: .int x :: st) h d := fun r h' e H locs ls hz M hS hls => lv_icmp_gt C.1 C.2.1 hd ht (fun _ => kt r h' e H locs ls hz M hS hls) (fun hn => absurd hc hn)
theorem aw_icmp_gt_f (C : CxOK K E own cc nL) {x y : Int32} {off : Int} (tgt : Nat) (hd : decode cc pc = .ok (.if_icmp .gt off, 3)) (ht : (pc : Int) + off = (tgt : Int)) (hc : ¬ (y < x)) {d : Option (α × Mem)} (kf : Aw K E R nL Q cells slots (pc + 3) L st h d) : Aw K E R nL Q cells slots pc L (.int y :: .int x :: st) h d := fun r h' e H locs ls hz M hS hls => lv_icmp_gt C.1 C.2.1 hd ht (fun hn => absurd hn hc) (fun _ => kf r h' e H locs ls hz M hS hls)
theorem aw_if_le (C : CxOK K E own cc nL) {x : Int32} {off : Int} (tgt : Nat) (hd : decode cc pc = .ok (.ifCond .le off, 3)) (ht : (pc : Int) + off = (tgt : Int)) {d1 d2 : Option (α × Mem)} (kt : (x ≤ 0) → Aw K E R nL Q cells slots tgt L st h d1) (kf : ¬ (x ≤ 0) → Aw K E R nL Q cells slots (pc + 3) L st h d2) : Aw K E R nL Q cells slots pc L (.int x :: st) h (if x ≤ 0 then d1 else d2) := by
  intro r h' e H locs ls hz M hS hls
  refine lv_if_le C.1 C.2.1 hd ht (fun hc => ?_) (fun hc => ?_)
  · rw [if_pos hc] at e; exact kt hc r h' e H locs ls hz M hS hls
  · rw [if_neg hc] at e; exact kf hc r h' e H locs ls hz M hS hls
theorem aw_if_le_t (C : CxOK K E own cc nL) {x : Int32} {off : Int} (tgt : Nat) (hd : decode cc pc = .ok (.ifCond .le off, 3)) (ht : (pc : Int) + off = (tgt : Int)) (hc : x ≤ 0) {d : Option (α × Mem)} (kt : Aw K E R nL Q cells slots tgt L st h d) : Aw K E R nL Q cells slots pc L (.int x :: st) h d := fun r h' e H locs ls hz M hS hls => lv_if_le C.1 C.2.1 hd ht (fun _ => kt r h' e H locs ls hz M hS hls) (fun hn => absurd hc hn)
theorem aw_if_le_f (C : CxOK K E own cc nL) {x : Int32} {off : Int} (tgt : Nat) (hd : decode cc pc = .ok (.ifCond .le off, 3)) (ht : (pc : Int) + off = (tgt : Int)) (hc : ¬ (x ≤ 0)) {d : Option (α × Mem)} (kf : Aw K E R nL Q cells slots (pc + 3) L st h d) : Aw K E R nL Q cells slots pc L (.int x :: st) h d := fun r h' e H locs ls hz M hS hls => lv_if_le C.1 C.2.1 hd ht (fun hn => absurd hn hc) (fun _ => kf r h' e H locs ls hz M hS hls)
theorem aw_icmp_le (C : CxOK K E own cc nL) {x y : Int32} {off : Int} (tgt : Nat) (hd : decode cc pc = .ok (.if_icmp .le off, 3)) (ht : (pc : Int) + off = (tgt : Int)) {d1 d2 : Option (α × Mem)} (kt : (x ≤ y) → Aw K E R nL Q cells slots tgt L st h d1) (kf : ¬ (x ≤ y) → Aw K E R nL Q cells slots (pc + 3) L st h d2) : Aw K E R nL Q cells slots pc L (.int y :: .int x :: st) h (if x ≤ y then d1 else d2) := by
  intro r h' e H locs ls hz M hS hls
  refine lv_icmp_le C.1 C.2.1 hd ht (fun hc => ?_) (fun hc => ?_)
  · rw [if_pos hc] at e; exact kt hc r h' e H locs ls hz M hS hls
  · rw [if_neg hc] at e; exact kf hc r h' e H locs ls hz M hS hls
theorem aw_icmp_le_t (C : CxOK K E own cc nL) {x y : Int32} {off : Int} (tgt : Nat) (hd : decode cc pc = .ok (.if_icmp .le off, 3)) (ht : (pc : Int) + off = (tgt : Int)) (hc : x ≤ y) {d : Option (α × Mem)} (kt : Aw K E R nL Q cells slots tgt L st h d) : Aw K E R nL Q cells slots pc L (.int y :: .int x :: st) h d := fun r h' e H locs ls hz M hS hls => lv_icmp_le C.1 C.2.1 hd ht (fun _ => kt r h' e H locs ls hz M hS hls) (fun hn => absurd hc hn)
theorem aw_icmp_le_f (C : CxOK K E own cc nL) {x y : Int32} {off : Int} (tgt : Nat) (hd : decode cc pc = .ok (.if_icmp .le off, 3)) (ht : (pc : Int) + off = (tgt : Int)) (hc : ¬ (x ≤ y)) {d : Option (α × Mem)} (kf : Aw K E R nL Q cells slots (pc + 3) L st h d) : Aw K E R nL Q cells slots pc L (.int y :: .int x :: st) h d := fun r h' e H locs ls hz M hS hls => lv_icmp_le C.1 C.2.1 hd ht (fun hn => absurd hn hc) (fun _ => kf r h' e H locs ls hz M hS hls)
theorem aw_goto (C : CxOK K E own cc nL) {off : Int} (tgt : Nat) (hd : decode cc pc = .ok (.goto off, 3)) (ht : (pc : Int) + off = (tgt : Int)) {d : Option (α × Mem)} (kk : Aw K E R nL Q cells slots tgt L st h d) : Aw K E R nL Q cells slots pc L st h d :=
  fun r h' e H locs ls hz M hS hls => lv_goto C.1 C.2.1 hd ht (kk r h' e H locs ls hz M hS hls)
theorem aw_ifnull_f (C : CxOK K E own cc nL) {x : Nat} {off : Int} (hd : decode cc pc = .ok (.ifnull off, 3)) {d : Option (α × Mem)} (kk : Aw K E R nL Q cells slots (pc + 3) L st h d) : Aw K E R nL Q cells slots pc L (.ref x :: st) h d :=
  fun r h' e H locs ls hz M hS hls => lv_ifnull C.1 C.2.1 hd (kk r h' e H locs ls hz M hS hls)
theorem aw_ifnull_t (C : CxOK K E own cc nL) {off : Int} (tgt : Nat) (hd : decode cc pc = .ok (.ifnull off, 3)) (ht : (pc : Int) + off = (tgt : Int)) {d : Option (α × Mem)} (kk : Aw K E R nL Q cells slots tgt L st h d) : Aw K E R nL Q cells slots pc L (.null :: st) h d :=
  fun r h' e H locs ls hz M hS hls => lv_ifnullN C.1 C.2.1 hd ht (kk r h' e H locs ls hz M hS hls)
theorem aw_ifnonnull_f (C : CxOK K E own cc nL) {off : Int} (hd : decode cc pc = .ok (.ifnonnull off, 3)) {d : Option (α × Mem)} (kk : Aw K E R nL Q cells slots (pc + 3) L st h d) : Aw K E R nL Q cells slots pc L (.null :: st) h d :=
  fun r h' e H locs ls hz M hS hls => lv_ifnonnullN C.1 C.2.1 hd (kk r h' e H locs ls hz M hS hls)
theorem aw_ifnonnull_t (C : CxOK K E own cc nL) {x : Nat} {off : Int} (tgt : Nat) (hd : decode cc pc = .ok (.ifnonnull off, 3)) (ht : (pc : Int) + off = (tgt : Int)) {d : Option (α × Mem)} (kk : Aw K E R nL Q cells slots tgt L st h d) : Aw K E R nL Q cells slots pc L (.ref x :: st) h d :=
  fun r h' e H locs ls hz M hS hls => lv_ifnonnull C.1 C.2.1 hd ht (kk r h' e H locs ls hz M hS hls)
theorem aw_aload_nN (C : CxOK K E own cc nL) {k : Fin 4} {i : Nat} (hd : decode cc pc = .ok (.aload_n k, 1)) (hi : (k : Nat) = i) (j : Nat) (hj : L[j]? = some (i, .null)) {d : Option (α × Mem)} (kk : Aw K E R nL Q cells slots (pc + 1) L (.null :: st) h d) : Aw K E R nL Q cells slots pc L st h d :=
  fun r h' e H locs ls hz M hS hls => lv_aload_nN C.1 C.2.1 hd hi (lv_at hls j hj) (kk r h' e H locs ls hz M hS hls)
theorem aw_aloadN (C : CxOK K E own cc nL) {i : Nat} (hd : decode cc pc = .ok (.aload i, 2)) (j : Nat) (hj : L[j]? = some (i, .null)) {d : Option (α × Mem)} (kk : Aw K E R nL Q cells slots (pc + 2) L (.null :: st) h d) : Aw K E R nL Q cells slots pc L st h d :=
  fun r h' e H locs ls hz M hS hls => lv_aloadN C.1 C.2.1 hd (lv_at hls j hj) (kk r h' e H locs ls hz M hS hls)
theorem aw_astore_nN (C : CxOK K E own cc nL) {k : Fin 4} {i : Nat} {L' : List (Nat × Value)} (hd : decode cc pc = .ok (.astore_n k, 1)) (hi : (k : Nat) = i) (hn : i < nL) (hl : (i, Value.null) :: L.filter (fun q => !(q.1 == i) && !(q.1 + 1 == i && q.2.category == 2)) = L') {d : Option (α × Mem)} (kk : Aw K E R nL Q cells slots (pc + 1) L' st h d) : Aw K E R nL Q cells slots pc L (.null :: st) h d :=
  fun r h' e H locs ls hz M hS hls => lv_astore_nN C.1 C.2.1 hd hi hls hn hl (fun ls' hls' => kk r h' e H locs ls' hz M hS hls')
theorem aw_astoreN (C : CxOK K E own cc nL) {i : Nat} {L' : List (Nat × Value)} (hd : decode cc pc = .ok (.astore i, 2)) (hn : i < nL) (hl : (i, Value.null) :: L.filter (fun q => !(q.1 == i) && !(q.1 + 1 == i && q.2.category == 2)) = L') {d : Option (α × Mem)} (kk : Aw K E R nL Q cells slots (pc + 2) L' st h d) : Aw K E R nL Q cells slots pc L (.null :: st) h d :=
  fun r h' e H locs ls hz M hS hls => lv_astoreN C.1 C.2.1 hd hls hn hl (fun ls' hls' => kk r h' e H locs ls' hz M hS hls')
theorem aw_loop {σ : Type} (Lf : σ → List (Nat × Value)) (hf : σ → Mem) (f : (σ → Option (α × Mem)) → σ → Option (α × Mem)) (hb : ∀ k, (∀ s, Aw K E R nL Q cells slots pc (Lf s) [] (hf s) (k s)) → ∀ s, Aw K E R nL Q cells slots pc (Lf s) [] (hf s) (f k s)) : ∀ n s, Aw K E R nL Q cells slots pc (Lf s) [] (hf s) (lpF f n s) := by
  intro n
  induction n with
  | zero => exact fun s => aw_none
  | succ n ih => exact fun s => hb _ ih s
theorem aw_jn {σ : Type} (pc2 : Nat) (Lf : σ → List (Nat × Value)) (sf : σ → List Value) (hf : σ → Mem) {f : σ → Option (α × Mem)} {g : (σ → Option (α × Mem)) → Option (α × Mem)} (h1 : ∀ s, Aw K E R nL Q cells slots pc2 (Lf s) (sf s) (hf s) (f s)) (h2 : ∀ k, (∀ s, Aw K E R nL Q cells slots pc2 (Lf s) (sf s) (hf s) (k s)) → Aw K E R nL Q cells slots pc L st h (g k)) : Aw K E R nL Q cells slots pc L st h (jn f g) := h2 f h1
end AW
end
section
def s_find (U : State) (ty : FieldType) (cA : ClassId) : Prop := U.vm.findClass ("[" ++ ty.toString) = some cA
section AH
variable {α : Type} {K : Kx} {E : Ev} {R : Room} {nL : Nat} {Q : α → Mem → State → Prop} {cells slots pc : Nat} {L : List (Nat × Value)} {st : List Value} {h : Mem} {own : String} {cc : ByteArray}
theorem aw_getI (C : CxOK K E own cc nL) {index c k a : Nat} (hf : FL own index c k 0) (hd : decode cc pc = .ok (.getfield index, 3)) {d : Int32 → Option (α × Mem)} (kk : ∀ v, gI c h a k = some v → Aw K E R nL Q cells slots (pc + 3) L (.int v :: st) h (d v)) : Aw K E R nL Q cells slots pc L (rf E a :: st) h ((gI c h a k).bind d) := by
  intro r h' e H locs ls hz M hS hls
  by_cases hk : mKd h a = c
  · have hg : gI c h a k = some (mI h a k) := by unfold gI; rw [if_pos hk]
    rw [hg] at e
    obtain ⟨Cn, T, N, ty, ⟨hc, hc11, hin, hty, hnm, hlen, hdf⟩, hkN, hft, hw⟩ := hf
    have he := M.at (a := a) (by omega)
    rw [encE_o hk hc11] at he
    refine va_get (D := eD E) (ci := c) (C := Cn) (T := T) (N := N) (v := .int (mI h a k)) C.1 C.2.1 C.2.2.2.2.1 hin C.2.2.2.1 C.2.2.2.2.2.1 M.1 (a - 1) he hc k hkN (C.2.2.2.2.1 _ hw) (fun _ h9 => h9) (encO_at hft) hd ?_
    exact kk _ hg r h' e H locs ls hz M hS hls
  · have hg : gI c h a k = none := by unfold gI; rw [if_neg hk]
    rw [hg] at e; cases e
theorem aw_getJ (C : CxOK K E own cc nL) {index c k a : Nat} (hf : FL own index c k 1) (hd : decode cc pc = .ok (.getfield index, 3)) {d : Int64 → Option (α × Mem)} (kk : ∀ v, gJ c h a k = some v → Aw K E R nL Q cells slots (pc + 3) L (.long v :: st) h (d v)) : Aw K E R nL Q cells slots pc L (rf E a :: st) h ((gJ c h a k).bind d) := by
  intro r h' e H locs ls hz M hS hls
  by_cases hk : mKd h a = c
  · have hg : gJ c h a k = some (mL h a k) := by unfold gJ; rw [if_pos hk]
    rw [hg] at e
    obtain ⟨Cn, T, N, ty, ⟨hc, hc11, hin, hty, hnm, hlen, hdf⟩, hkN, hft, hw⟩ := hf
    have he := M.at (a := a) (by omega)
    rw [encE_o hk hc11] at he
    refine va_get (D := eD E) (ci := c) (C := Cn) (T := T) (N := N) (v := .long (mL h a k)) C.1 C.2.1 C.2.2.2.2.1 hin C.2.2.2.1 C.2.2.2.2.2.1 M.1 (a - 1) he hc k hkN (C.2.2.2.2.1 _ hw) (fun _ h9 => h9) (encO_at hft) hd ?_
    exact kk _ hg r h' e H locs ls hz M hS hls
  · have hg : gJ c h a k = none := by unfold gJ; rw [if_neg hk]
    rw [hg] at e; cases e
theorem aw_getR (C : CxOK K E own cc nL) {index c k a : Nat} (hf : FL own index c k 2) (hd : decode cc pc = .ok (.getfield index, 3)) {d : Nat → Option (α × Mem)} (kk : ∀ v, gR c h a k = some v → Aw K E R nL Q cells slots (pc + 3) L (rf E v :: st) h (d v)) : Aw K E R nL Q cells slots pc L (rf E a :: st) h ((gR c h a k).bind d) := by
  intro r h' e H locs ls hz M hS hls
  by_cases hk : mKd h a = c ∧ mR h a k ≠ 0
  · have hg : gR c h a k = some (mR h a k) := by unfold gR; rw [if_pos hk]
    rw [hg] at e
    obtain ⟨Cn, T, N, ty, ⟨hc, hc11, hin, hty, hnm, hlen, hdf⟩, hkN, hft, hw⟩ := hf
    have he := M.at (a := a) (by omega)
    rw [encE_o hk.1 hc11] at he
    refine va_get (D := eD E) (ci := c) (C := Cn) (T := T) (N := N) (v := rf E (mR h a k)) C.1 C.2.1 C.2.2.2.2.1 hin C.2.2.2.1 C.2.2.2.2.2.1 M.1 (a - 1) he hc k hkN (C.2.2.2.2.1 _ hw) (fun _ h9 => h9) ((encO_at hft).trans (congrArg some (rv_rf E hk.2))) hd ?_
    exact kk _ hg r h' e H locs ls hz M hS hls
  · have hg : gR c h a k = none := by unfold gR; rw [if_neg hk]
    rw [hg] at e; cases e
theorem aw_putI (C : CxOK K E own cc nL) {index c k a : Nat} {ft : FieldType} {v : Int32} (hf : FW own index c k 0 ft) (hn : narrow ft (.int v) = .int v) (hfi : fits ft (.int v) = true) (hd : decode cc pc = .ok (.putfield index, 3)) {d : Mem → Option (α × Mem)} (kk : ∀ h1, pI c h a k v = some h1 → Aw K E R nL Q cells slots (pc + 3) L st h1 (d h1)) : Aw K E R nL Q cells slots pc L (.int v :: rf E a :: st) h ((pI c h a k v).bind d) := by
  intro r h' e H locs ls hz M hS hls
  by_cases hk : mKd h a = c
  · have hg : pI c h a k v = some (sI h a (up1 (mI h a) k v)) := by unfold pI; rw [if_pos hk]
    rw [hg] at e
    obtain ⟨Cn, T, N, ty, ⟨hc, hc11, hin, hty, hnm, hlen, hdf⟩, hkN, hft, hw, hfin, hyt⟩ := hf
    have h15 : mKd h a < 15 := by omega
    have he := M.at h15
    rw [encE_o hk hc11] at he
    have hk' : mKd (sI h a (up1 (mI h a) k v)) a = c := hk
    have key : (enc E h).set (a - 1) (E.1 + a, .inr (c, (encO E h a c).set k (.int v))) = enc E (sI h a (up1 (mI h a) k v)) := by
      refine enc_set (E := E) (h := h) (h' := sI h a (up1 (mI h a) k v)) rfl (M.2 a h15).1 (fun b hb => encE_nI _ hb) ?_
      rw [encE_o hk' hc11, encO_set hft (v := .int v) ?_ ?_]
      · intro j u hu hj
        have e1 : mI (sI h a (up1 (mI h a) k v)) a j = mI h a j := by rw [mI_sI, up1_s, up1_n _ _ hj]
        unfold fv
        rw [e1]
        rfl
      · have e1 : mI (sI h a (up1 (mI h a) k v)) a k = v := by rw [mI_sI, up1_s, up1_s]
        show (Value.int (mI (sI h a (up1 (mI h a) k v)) a k)) = Value.int v
        rw [e1]
    refine va_put (D := eD E) (ci := c) (C := Cn) (T := T) (N := N) (v := .int v) (ty := ft) C.1 C.2.1 C.2.2.2.2.1 hin ty hty hnm C.2.2.2.1 C.2.2.2.2.2.1 M.1 (enc_D E h) hS (a - 1) he hc k hkN (C.2.2.2.2.1 _ hw) (fun _ h9 => h9) hfin (by rw [hty k hkN, hyt]) hn hfi (by rw [encO_len, hlen]; exact hkN) hd (fun H1 locs1 hP hD hS1 => ?_)
    rw [key] at hP
    exact kk _ hg r h' e H1 locs1 ls hz ⟨hP, M.2⟩ hS1 hls
  · have hg : pI c h a k v = none := by unfold pI; rw [if_neg hk]
    rw [hg] at e; cases e
theorem aw_putJ (C : CxOK K E own cc nL) {index c k a : Nat} {ft : FieldType} {v : Int64} (hf : FW own index c k 1 ft) (hn : narrow ft (.long v) = .long v) (hfi : fits ft (.long v) = true) (hd : decode cc pc = .ok (.putfield index, 3)) {d : Mem → Option (α × Mem)} (kk : ∀ h1, pJ c h a k v = some h1 → Aw K E R nL Q cells slots (pc + 3) L st h1 (d h1)) : Aw K E R nL Q cells slots pc L (.long v :: rf E a :: st) h ((pJ c h a k v).bind d) := by
  intro r h' e H locs ls hz M hS hls
  by_cases hk : mKd h a = c
  · have hg : pJ c h a k v = some (sL h a (up1 (mL h a) k v)) := by unfold pJ; rw [if_pos hk]
    rw [hg] at e
    obtain ⟨Cn, T, N, ty, ⟨hc, hc11, hin, hty, hnm, hlen, hdf⟩, hkN, hft, hw, hfin, hyt⟩ := hf
    have h15 : mKd h a < 15 := by omega
    have he := M.at h15
    rw [encE_o hk hc11] at he
    have hk' : mKd (sL h a (up1 (mL h a) k v)) a = c := hk
    have key : (enc E h).set (a - 1) (E.1 + a, .inr (c, (encO E h a c).set k (.long v))) = enc E (sL h a (up1 (mL h a) k v)) := by
      refine enc_set (E := E) (h := h) (h' := sL h a (up1 (mL h a) k v)) rfl (M.2 a h15).1 (fun b hb => encE_nL _ hb) ?_
      rw [encE_o hk' hc11, encO_set hft (v := .long v) ?_ ?_]
      · intro j u hu hj
        have e1 : mL (sL h a (up1 (mL h a) k v)) a j = mL h a j := by rw [mL_sL, up1_s, up1_n _ _ hj]
        unfold fv
        rw [e1]
        rfl
      · have e1 : mL (sL h a (up1 (mL h a) k v)) a k = v := by rw [mL_sL, up1_s, up1_s]
        show (Value.long (mL (sL h a (up1 (mL h a) k v)) a k)) = Value.long v
        rw [e1]
    refine va_put (D := eD E) (ci := c) (C := Cn) (T := T) (N := N) (v := .long v) (ty := ft) C.1 C.2.1 C.2.2.2.2.1 hin ty hty hnm C.2.2.2.1 C.2.2.2.2.2.1 M.1 (enc_D E h) hS (a - 1) he hc k hkN (C.2.2.2.2.1 _ hw) (fun _ h9 => h9) hfin (by rw [hty k hkN, hyt]) hn hfi (by rw [encO_len, hlen]; exact hkN) hd (fun H1 locs1 hP hD hS1 => ?_)
    rw [key] at hP
    exact kk _ hg r h' e H1 locs1 ls hz ⟨hP, M.2⟩ hS1 hls
  · have hg : pJ c h a k v = none := by unfold pJ; rw [if_neg hk]
    rw [hg] at e; cases e
theorem aw_putR (C : CxOK K E own cc nL) (hnm2 : (kMe K).name = "<init>") {index c k a : Nat} {ft : FieldType} {v : Nat} (hf : FF own index c k 2 ft) (hn : narrow ft (rf E v) = rf E v) (hfi : fits ft (rf E v) = true) (hd : decode cc pc = .ok (.putfield index, 3)) {d : Mem → Option (α × Mem)} (kk : ∀ h1, pR c h a k v = some h1 → Aw K E R nL Q cells slots (pc + 3) L st h1 (d h1)) : Aw K E R nL Q cells slots pc L (rf E v :: rf E a :: st) h ((pR c h a k v).bind d) := by
  intro r h' e H locs ls hz M hS hls
  by_cases hk : mKd h a = c ∧ v ≠ 0
  · have hg : pR c h a k v = some (sR h a (up1 (mR h a) k v)) := by unfold pR; rw [if_pos hk]
    rw [hg] at e
    obtain ⟨Cn, T, N, ty, ⟨hc, hc11, hin, hty, hnm, hlen, hdf⟩, hkN, hft, hw, hfin, hdecl, hyt⟩ := hf
    have h15 : mKd h a < 15 := by omega
    have he := M.at h15
    rw [encE_o hk.1 hc11] at he
    have hk' : mKd (sR h a (up1 (mR h a) k v)) a = c := hk.1
    have key : (enc E h).set (a - 1) (E.1 + a, .inr (c, (encO E h a c).set k (rf E v))) = enc E (sR h a (up1 (mR h a) k v)) := by
      refine enc_set (E := E) (h := h) (h' := sR h a (up1 (mR h a) k v)) rfl (M.2 a h15).1 (fun b hb => encE_nR _ hb) ?_
      rw [encE_o hk' hc11, encO_set hft (v := rf E v) ?_ ?_]
      · intro j u hu hj
        have e1 : mR (sR h a (up1 (mR h a) k v)) a j = mR h a j := by rw [mR_sR, up1_s, up1_n _ _ hj]
        unfold fv
        rw [e1]
        rfl
      · have e1 : mR (sR h a (up1 (mR h a) k v)) a k = v := by rw [mR_sR, up1_s, up1_s]
        show rv E (mR (sR h a (up1 (mR h a) k v)) a k) = rf E v
        rw [e1, rv_rf E hk.2]
    refine va_putF (D := eD E) (ci := c) (C := Cn) (T := T) (N := N) (v := rf E v) (ty := ft) C.1 C.2.1 C.2.2.2.2.1 hin ty hty hnm C.2.2.2.1 C.2.2.2.2.2.1 M.1 (enc_D E h) hS (a - 1) he hc k hkN (C.2.2.2.2.1 _ hw) (fun _ h9 => h9) hfin hnm2 hdecl (by rw [hty k hkN, hyt]) hn hfi (by rw [encO_len, hlen]; exact hkN) hd (fun H1 locs1 hP hD hS1 => ?_)
    rw [key] at hP
    exact kk _ hg r h' e H1 locs1 ls hz ⟨hP, M.2⟩ hS1 hls
  · have hg : pR c h a k v = none := by unfold pR; rw [if_neg hk]
    rw [hg] at e; cases e
theorem aw_iaload (C : CxOK K E own cc nL) {a : Nat} {i : Int32} (hd : decode cc pc = .ok (.iaload, 1)) {d : Int32 → Option (α × Mem)} (kk : ∀ v, xI 11 h a i = some v → Aw K E R nL Q cells slots (pc + 1) L (.int v :: st) h (d v)) : Aw K E R nL Q cells slots pc L (.int i :: rf E a :: st) h ((xI 11 h a i).bind d) := by
  intro r h' e H locs ls hz M hS hls
  by_cases hk : mKd h a = 11 ∧ ¬ i < 0 ∧ i.toNatClampNeg < mLn h a
  · have hg : xI 11 h a i = some (mI h a i.toNatClampNeg) := by unfold xI; rw [if_pos hk]
    rw [hg] at e
    have he := M.at (a := a) (by omega)
    rw [encE_i hk.1] at he
    exact va_iald (D := eD E) C.1 C.2.1 C.2.2.2.2.2.1 M.1 (a - 1) 0 he rfl (inB_vp hk.2) hd (kk _ hg r h' e H locs ls hz M hS hls)
  · have hg : xI 11 h a i = none := by unfold xI; rw [if_neg hk]
    rw [hg] at e; cases e
theorem aw_baload (C : CxOK K E own cc nL) {a : Nat} {i : Int32} (hd : decode cc pc = .ok (.baload, 1)) {d : Int32 → Option (α × Mem)} (kk : ∀ v, xI 13 h a i = some v → Aw K E R nL Q cells slots (pc + 1) L (.int v :: st) h (d v)) : Aw K E R nL Q cells slots pc L (.int i :: rf E a :: st) h ((xI 13 h a i).bind d) := by
  intro r h' e H locs ls hz M hS hls
  by_cases hk : mKd h a = 13 ∧ ¬ i < 0 ∧ i.toNatClampNeg < mLn h a
  · have hg : xI 13 h a i = some (mI h a i.toNatClampNeg) := by unfold xI; rw [if_pos hk]
    rw [hg] at e
    have he := M.at (a := a) (by omega)
    rw [encE_z hk.1] at he
    exact va_zald (D := eD E) C.1 C.2.1 C.2.2.2.2.2.1 M.1 (a - 1) 2 he rfl (inB_vp hk.2) hd (kk _ hg r h' e H locs ls hz M hS hls)
  · have hg : xI 13 h a i = none := by unfold xI; rw [if_neg hk]
    rw [hg] at e; cases e
theorem aw_laload (C : CxOK K E own cc nL) {a : Nat} {i : Int32} (hd : decode cc pc = .ok (.laload, 1)) {d : Int64 → Option (α × Mem)} (kk : ∀ v, xJ h a i = some v → Aw K E R nL Q cells slots (pc + 1) L (.long v :: st) h (d v)) : Aw K E R nL Q cells slots pc L (.int i :: rf E a :: st) h ((xJ h a i).bind d) := by
  intro r h' e H locs ls hz M hS hls
  by_cases hk : mKd h a = 12 ∧ ¬ i < 0 ∧ i.toNatClampNeg < mLn h a
  · have hg : xJ h a i = some (mL h a i.toNatClampNeg) := by unfold xJ; rw [if_pos hk]
    rw [hg] at e
    have he := M.at (a := a) (by omega)
    rw [encE_l hk.1] at he
    exact va_lald (D := eD E) C.1 C.2.1 C.2.2.2.2.2.1 M.1 (a - 1) 1 he rfl (inB_vp hk.2) hd (kk _ hg r h' e H locs ls hz M hS hls)
  · have hg : xJ h a i = none := by unfold xJ; rw [if_neg hk]
    rw [hg] at e; cases e
theorem aw_aaload (C : CxOK K E own cc nL) {a : Nat} {i : Int32} (hd : decode cc pc = .ok (.aaload, 1)) {d : Nat → Option (α × Mem)} (kk : ∀ v, xR h a i = some v → Aw K E R nL Q cells slots (pc + 1) L (rf E v :: st) h (d v)) : Aw K E R nL Q cells slots pc L (.int i :: rf E a :: st) h ((xR h a i).bind d) := by
  intro r h' e H locs ls hz M hS hls
  by_cases hk : mKd h a = 14 ∧ (¬ i < 0 ∧ i.toNatClampNeg < mLn h a) ∧ mR h a i.toNatClampNeg ≠ 0
  · have hg : xR h a i = some (mR h a i.toNatClampNeg) := by unfold xR; rw [if_pos hk]
    rw [hg] at e
    have he := M.at (a := a) (by omega)
    rw [encE_t hk.1] at he
    have kk' := kk _ hg r h' e H locs ls hz M hS hls
    rw [show rf E (mR h a i.toNatClampNeg) = va_rf (rq E (mR h a i.toNatClampNeg)) from by rw [rv_rq, rv_rf E hk.2.2]] at kk'
    exact va_aldq (D := eD E) C.1 C.2.1 C.2.2.2.2.2.1 M.1 (a - 1) 3 he rfl (inB_vp hk.2.1) hd kk'
  · have hg : xR h a i = none := by unfold xR; rw [if_neg hk]
    rw [hg] at e; cases e
theorem aw_iastore (C : CxOK K E own cc nL) {a : Nat} {i : Int32} {v : Int32} (hd : decode cc pc = .ok (.iastore, 1)) {d : Mem → Option (α × Mem)} (kk : ∀ h1, yI 11 h a i v = some h1 → Aw K E R nL Q cells slots (pc + 1) L st h1 (d h1)) : Aw K E R nL Q cells slots pc L (.int v :: .int i :: rf E a :: st) h ((yI 11 h a i v).bind d) := by
  intro r h' e H locs ls hz M hS hls
  by_cases hk : mKd h a = 11 ∧ ¬ i < 0 ∧ i.toNatClampNeg < mLn h a
  · have hg : yI 11 h a i v = some (sI h a (up1 (mI h a) i.toNatClampNeg v)) := by unfold yI; rw [if_pos hk]
    rw [hg] at e
    have h15 : mKd h a < 15 := by omega
    have he := M.at h15
    rw [encE_i hk.1] at he
    have hk' : mKd (sI h a (up1 (mI h a) i.toNatClampNeg v)) a = 11 := hk.1
    have key : (enc E h).set (a - 1) (E.1 + a, .inl (eI E, mLn h a, .inl (upd (mI h a) i.toNatClampNeg v))) = enc E (sI h a (up1 (mI h a) i.toNatClampNeg v)) := by
      refine enc_set (E := E) (h := h) (h' := sI h a (up1 (mI h a) i.toNatClampNeg v)) rfl (M.2 a h15).1 (fun b hb => encE_nI _ hb) ?_
      rw [encE_i hk', mI_sI, up1_s]
      rfl
    refine va_iast (D := eD E) C.1 C.2.1 C.2.2.2.2.2.1 M.1 (enc_D E h) hS (a - 1) 0 he rfl (inB_vp hk.2) hd (fun H1 locs1 hP hD hS1 => ?_)
    skip
    rw [key] at hP
    exact kk _ hg r h' e H1 locs1 ls hz ⟨hP, M.2⟩ hS1 hls
  · have hg : yI 11 h a i v = none := by unfold yI; rw [if_neg hk]
    rw [hg] at e; cases e
theorem aw_bastore (C : CxOK K E own cc nL) {a : Nat} {i : Int32} {v : Int32} (hv : vp_nar .boolean v = v) (hd : decode cc pc = .ok (.bastore, 1)) {d : Mem → Option (α × Mem)} (kk : ∀ h1, yI 13 h a i v = some h1 → Aw K E R nL Q cells slots (pc + 1) L st h1 (d h1)) : Aw K E R nL Q cells slots pc L (.int v :: .int i :: rf E a :: st) h ((yI 13 h a i v).bind d) := by
  intro r h' e H locs ls hz M hS hls
  by_cases hk : mKd h a = 13 ∧ ¬ i < 0 ∧ i.toNatClampNeg < mLn h a
  · have hg : yI 13 h a i v = some (sI h a (up1 (mI h a) i.toNatClampNeg v)) := by unfold yI; rw [if_pos hk]
    rw [hg] at e
    have h15 : mKd h a < 15 := by omega
    have he := M.at h15
    rw [encE_z hk.1] at he
    have hk' : mKd (sI h a (up1 (mI h a) i.toNatClampNeg v)) a = 13 := hk.1
    have key : (enc E h).set (a - 1) (E.1 + a, .inl (eZ E, mLn h a, .inl (upd (mI h a) i.toNatClampNeg v))) = enc E (sI h a (up1 (mI h a) i.toNatClampNeg v)) := by
      refine enc_set (E := E) (h := h) (h' := sI h a (up1 (mI h a) i.toNatClampNeg v)) rfl (M.2 a h15).1 (fun b hb => encE_nI _ hb) ?_
      rw [encE_z hk', mI_sI, up1_s]
      rfl
    refine va_zast (D := eD E) C.1 C.2.1 C.2.2.2.2.2.1 M.1 (enc_D E h) hS (a - 1) 2 he rfl (inB_vp hk.2) hd (fun H1 locs1 hP hD hS1 => ?_)
    rw [hv] at hP
    rw [key] at hP
    exact kk _ hg r h' e H1 locs1 ls hz ⟨hP, M.2⟩ hS1 hls
  · have hg : yI 13 h a i v = none := by unfold yI; rw [if_neg hk]
    rw [hg] at e; cases e
theorem aw_lastore (C : CxOK K E own cc nL) {a : Nat} {i : Int32} {v : Int64} (hd : decode cc pc = .ok (.lastore, 1)) {d : Mem → Option (α × Mem)} (kk : ∀ h1, yJ h a i v = some h1 → Aw K E R nL Q cells slots (pc + 1) L st h1 (d h1)) : Aw K E R nL Q cells slots pc L (.long v :: .int i :: rf E a :: st) h ((yJ h a i v).bind d) := by
  intro r h' e H locs ls hz M hS hls
  by_cases hk : mKd h a = 12 ∧ ¬ i < 0 ∧ i.toNatClampNeg < mLn h a
  · have hg : yJ h a i v = some (sL h a (up1 (mL h a) i.toNatClampNeg v)) := by unfold yJ; rw [if_pos hk]
    rw [hg] at e
    have h15 : mKd h a < 15 := by omega
    have he := M.at h15
    rw [encE_l hk.1] at he
    have hk' : mKd (sL h a (up1 (mL h a) i.toNatClampNeg v)) a = 12 := hk.1
    have key : (enc E h).set (a - 1) (E.1 + a, .inl (eJ E, mLn h a, .inr (.inl (vp_updL (mL h a) i.toNatClampNeg v)))) = enc E (sL h a (up1 (mL h a) i.toNatClampNeg v)) := by
      refine enc_set (E := E) (h := h) (h' := sL h a (up1 (mL h a) i.toNatClampNeg v)) rfl (M.2 a h15).1 (fun b hb => encE_nL _ hb) ?_
      rw [encE_l hk', mL_sL, up1_s]
      rfl
    refine va_last (D := eD E) C.1 C.2.1 C.2.2.2.2.2.1 M.1 (enc_D E h) hS (a - 1) 1 he rfl (inB_vp hk.2) hd (fun H1 locs1 hP hD hS1 => ?_)
    skip
    rw [key] at hP
    exact kk _ hg r h' e H1 locs1 ls hz ⟨hP, M.2⟩ hS1 hls
  · have hg : yJ h a i v = none := by unfold yJ; rw [if_neg hk]
    rw [hg] at e; cases e
theorem aw_aastore (C : CxOK K E own cc nL) {a v : Nat} {i : Int32} (hd : decode cc pc = .ok (.aastore, 1)) {d : Mem → Option (α × Mem)} (kk : ∀ h1, yR h a i v = some h1 → Aw K E R nL Q cells slots (pc + 1) L st h1 (d h1)) : Aw K E R nL Q cells slots pc L (rf E v :: .int i :: rf E a :: st) h ((yR h a i v).bind d) := by
  intro r h' e H locs ls hz M hS hls
  by_cases hk : mKd h a = 14 ∧ (¬ i < 0 ∧ i.toNatClampNeg < mLn h a) ∧ mKd h v = 7
  · have hg : yR h a i v = some (sR h a (up1 (mR h a) i.toNatClampNeg v)) := by unfold yR; rw [if_pos hk]
    rw [hg] at e
    have h15 : mKd h a < 15 := by omega
    have he := M.at h15
    have hev := M.at (a := v) (by omega)
    rw [encE_t hk.1] at he
    rw [encE_o hk.2.2 (by omega)] at hev
    have hk' : mKd (sR h a (up1 (mR h a) i.toNatClampNeg v)) a = 14 := hk.1
    have hv0 : v ≠ 0 := by have := (M.2 v (by omega)).1; omega
    have key : (enc E h).set (a - 1) (E.1 + a, .inl (eT E, mLn h a, .inr (.inr (.inr (.inr (va_up (fun j => rq E (mR h a j)) i.toNatClampNeg (some (E.1 + v)))))))) = enc E (sR h a (up1 (mR h a) i.toNatClampNeg v)) := by
      refine enc_set (E := E) (h := h) (h' := sR h a (up1 (mR h a) i.toNatClampNeg v)) rfl (M.2 a h15).1 (fun b hb => encE_nR _ hb) ?_
      rw [encE_t hk', mR_sR, up1_s]
      have : (fun j => rq E (up1 (mR h a) i.toNatClampNeg v j)) = va_up (fun j => rq E (mR h a j)) i.toNatClampNeg (some (E.1 + v)) := by
        funext j
        unfold up1 va_up
        split
        · simp [rq, hv0]
        · rfl
      rw [this]
      rfl
    refine va_astq (D := eD E) (r := (RX7, TX7, 3)) C.1 C.2.1 C.2.2.2.2.2.1 M.1 (enc_D E h) hS (a - 1) 3 (v - 1) 7 he rfl hev rfl (inB_vp hk.2.1) hd (fun H1 locs1 hP hD hS1 => ?_)
    rw [key] at hP
    exact kk _ hg r h' e H1 locs1 ls hz ⟨hP, M.2⟩ hS1 hls
  · have hg : yR h a i v = none := by unfold yR; rw [if_neg hk]
    rw [hg] at e; cases e
theorem aw_arraylength (C : CxOK K E own cc nL) {a : Nat} (hd : decode cc pc = .ok (.arraylength, 1)) {d : Int32 → Option (α × Mem)} (kk : ∀ v, aLn h a = some v → Aw K E R nL Q cells slots (pc + 1) L (.int v :: st) h (d v)) : Aw K E R nL Q cells slots pc L (rf E a :: st) h ((aLn h a).bind d) := by
  intro r h' e H locs ls hz M hS hls
  by_cases hk : 11 ≤ mKd h a ∧ mKd h a < 15
  · have hg : aLn h a = some (Int32.ofNat (mLn h a)) := by unfold aLn; rw [if_pos hk]
    rw [hg] at e
    have kk' := kk _ hg r h' e H locs ls hz M hS hls
    have he := M.at hk.2
    rcases (show mKd h a = 11 ∨ mKd h a = 12 ∨ mKd h a = 13 ∨ mKd h a = 14 by omega) with h1 | h1 | h1 | h1
    · rw [encE_i h1] at he
      exact va_alen (D := eD E) C.1 C.2.1 C.2.2.2.2.2.1 M.1 (a - 1) 0 he rfl rfl hd kk'
    · rw [encE_l h1] at he
      exact va_alen (D := eD E) C.1 C.2.1 C.2.2.2.2.2.1 M.1 (a - 1) 1 he rfl rfl hd kk'
    · rw [encE_z h1] at he
      exact va_alen (D := eD E) C.1 C.2.1 C.2.2.2.2.2.1 M.1 (a - 1) 2 he rfl rfl hd kk'
    · rw [encE_t h1] at he
      exact va_alen (D := eD E) C.1 C.2.1 C.2.2.2.2.2.1 M.1 (a - 1) 3 he rfl rfl hd kk'
  · have hg : aLn h a = none := by unfold aLn; rw [if_neg hk]
    rw [hg] at e; cases e
/-! the static tables -/
theorem aw_getsP (C : CxOK K E own cc nL) {index : Nat} (hw : Cond.fieldLink own index "TwoLetterForms" "PRIMES" "[I" ∈ WSA) (hd : decode cc pc = .ok (.getstatic index, 3)) {d : Option (α × Mem)} (kk : Aw K E R nL Q cells slots (pc + 3) L (.ref (eP E) :: st) h d) : Aw K E R nL Q cells slots pc L st h d :=
  fun r h' e H locs ls hz M hS hls => va_gets C.1 C.2.1 C.2.2.2.2.2.2.1.1.1 hS C.2.2.2.1 (C.2.2.2.2.1 _ hw) (fun _ h9 => h9) hd (kk r h' e H locs ls hz M hS hls)
theorem aw_getsPN (C : CxOK K E own cc nL) {index : Nat} {host : String} (hw : Cond.fieldLinkNest own index "TwoLetterForms" "PRIMES" "[I" host ∈ tables_1) (hd : decode cc pc = .ok (.getstatic index, 3)) {d : Option (α × Mem)} (kk : Aw K E R nL Q cells slots (pc + 3) L (.ref (eP E) :: st) h d) : Aw K E R nL Q cells slots pc L st h d :=
  fun r h' e H locs ls hz M hS hls => va_getsN C.1 C.2.1 C.2.2.2.2.2.2.1.1.1 hS C.2.2.2.1 (va_Nw.use rfl (C.2.2.2.2.2.2.2.2.1 _ hw rfl)) (fun _ h9 => h9) hd (kk r h' e H locs ls hz M hS hls)
theorem aw_getsM (C : CxOK K E own cc nL) {index : Nat} (hw : Cond.fieldLink own index "TwoLetterForms$Form" "MOVE_TURNS" "[I" ∈ WSA) (hd : decode cc pc = .ok (.getstatic index, 3)) {d : Option (α × Mem)} (kk : Aw K E R nL Q cells slots (pc + 3) L (.ref (eM E) :: st) h d) : Aw K E R nL Q cells slots pc L st h d :=
  fun r h' e H locs ls hz M hS hls => va_gets C.1 C.2.1 C.2.2.2.2.2.2.1.2.1 hS C.2.2.2.1 (C.2.2.2.2.1 _ hw) (fun _ h9 => h9) hd (kk r h' e H locs ls hz M hS hls)
theorem aw_tloadP (C : CxOK K E own cc nL) {i : Int32} (hd : decode cc pc = .ok (.iaload, 1)) {d : Int32 → Option (α × Mem)} (kk : ∀ v, xT tabP 6 i = some v → Aw K E R nL Q cells slots (pc + 1) L (.int v :: st) h (d v)) : Aw K E R nL Q cells slots pc L (.int i :: .ref (eP E) :: st) h ((xT tabP 6 i).bind d) := by
  intro r h' e H locs ls hz M hS hls
  by_cases hk : ¬ i < 0 ∧ i.toNatClampNeg < 6
  · have hg : xT tabP 6 i = some (tabP i.toNatClampNeg) := by unfold xT; rw [if_pos hk]
    rw [hg] at e
    exact va_ti (t := eP E) C.1 C.2.1 C.2.2.2.2.2.2.1.1.2 hS (inB_vp hk) rfl hd (kk _ hg r h' e H locs ls hz M hS hls)
  · have hg : xT tabP 6 i = none := by unfold xT; rw [if_neg hk]
    rw [hg] at e; cases e
theorem aw_tlenP (C : CxOK K E own cc nL) (hd : decode cc pc = .ok (.arraylength, 1)) {d : Option (α × Mem)} (kk : Aw K E R nL Q cells slots (pc + 1) L (.int 6 :: st) h d) : Aw K E R nL Q cells slots pc L (.ref (eP E) :: st) h d :=
  fun r h' e H locs ls hz M hS hls => va_tlen (t := eP E) C.1 C.2.1 C.2.2.2.2.2.2.1.1.2 hS rfl hd (kk r h' e H locs ls hz M hS hls)
theorem aw_tloadM (C : CxOK K E own cc nL) {i : Int32} (hd : decode cc pc = .ok (.iaload, 1)) {d : Int32 → Option (α × Mem)} (kk : ∀ v, xT tabM 16 i = some v → Aw K E R nL Q cells slots (pc + 1) L (.int v :: st) h (d v)) : Aw K E R nL Q cells slots pc L (.int i :: .ref (eM E) :: st) h ((xT tabM 16 i).bind d) := by
  intro r h' e H locs ls hz M hS hls
  by_cases hk : ¬ i < 0 ∧ i.toNatClampNeg < 16
  · have hg : xT tabM 16 i = some (tabM i.toNatClampNeg) := by unfold xT; rw [if_pos hk]
    rw [hg] at e
    exact va_ti (t := eM E) C.1 C.2.1 C.2.2.2.2.2.2.1.2.2 hS (inB_vp hk) rfl hd (kk _ hg r h' e H locs ls hz M hS hls)
  · have hg : xT tabM 16 i = none := by unfold xT; rw [if_neg hk]
    rw [hg] at e; cases e
theorem aw_tlenM (C : CxOK K E own cc nL) (hd : decode cc pc = .ok (.arraylength, 1)) {d : Option (α × Mem)} (kk : Aw K E R nL Q cells slots (pc + 1) L (.int 16 :: st) h d) : Aw K E R nL Q cells slots pc L (.ref (eM E) :: st) h d :=
  fun r h' e H locs ls hz M hS hls => va_tlen (t := eM E) C.1 C.2.1 C.2.2.2.2.2.2.1.2.2 hS rfl hd (kk r h' e H locs ls hz M hS hls)
theorem Wf_al {h : Mem} (hw : Wf h) (c n : Nat) : Wf (alM c n h) := by
  intro a ha
  by_cases h1 : a = h.1 + 1
  · subst h1
    exact ⟨by omega, Nat.le_refl _⟩
  · have h2 : mKd (alM c n h) a = mKd h a := by show up1 h.2.1 (h.1 + 1) c a = h.2.1 a; rw [up1_n _ _ h1]
    rw [h2] at ha
    have h3 := hw a ha
    have h4 : mSz (alM c n h) = mSz h + 1 := rfl
    exact ⟨h3.1, by omega⟩
theorem encE_al {E : Ev} {h : Mem} (c n : Nat) {b : Nat} (hb : b ≠ mSz h + 1) : encE E (alM c n h) b = encE E h b := by
  have hb' : b ≠ h.1 + 1 := hb
  have e1 : mKd (alM c n h) b = mKd h b := up1_n _ _ hb'
  have e2 : mLn (alM c n h) b = mLn h b := up1_n _ _ hb'
  have e3 : mI (alM c n h) b = mI h b := up1_n _ _ hb'
  have e4 : mL (alM c n h) b = mL h b := up1_n _ _ hb'
  have e5 : mR (alM c n h) b = mR h b := up1_n _ _ hb'
  unfold encE encO fv
  rw [e1, e2, e3, e4, e5]
theorem al_kd (c n : Nat) (h : Mem) : mKd (alM c n h) (mSz h + 1) = c := up1_s _ _ _
theorem al_ln (c n : Nat) (h : Mem) : mLn (alM c n h) (mSz h + 1) = n := up1_s _ _ _
theorem al_I (c n : Nat) (h : Mem) : mI (alM c n h) (mSz h + 1) = fun _ => 0 := up1_s _ _ _
theorem al_L (c n : Nat) (h : Mem) : mL (alM c n h) (mSz h + 1) = fun _ => 0 := up1_s _ _ _
theorem al_R (c n : Nat) (h : Mem) : mR (alM c n h) (mSz h + 1) = fun _ => 0 := up1_s _ _ _
/-- a new cell's address is the next one: the heap holds no more than was counted, and what is there lies apart -/
theorem al_addr {E : Ev} {h : Mem} {H1 : Heap} {q : Nat} {e : va_E} {D : va_G} {n : Nat} (hD : va_D (AB E) (enc E h ++ [(q, e)])) (hP : va_P D vwCl (enc E h ++ [(q, e)]) H1) (hsz : H1.size ≤ n) (hn : n = E.1 + 1 + mSz h + 1) : q = E.1 + 1 + mSz h := by
  have hq : (enc E h ++ [(q, e)])[mSz h]? = some (q, e) := by
    rw [List.getElem?_append_right (by rw [enc_len]; omega), enc_len, Nat.sub_self]
    rfl
  have h1 : q < H1.size := (hP _ _ hq).lt
  have h2 : E.1 + 1 ≤ q := hD.2 _ _ hq
  by_cases h3 : q < E.1 + 1 + mSz h
  · exfalso
    have h4 : q - (E.1 + 1) < mSz h := by omega
    have h5 := enc_at E h (a := q - (E.1 + 1) + 1) (by omega) (by omega)
    rw [Nat.add_sub_cancel] at h5
    have h6 : (enc E h ++ [(q, e)])[q - (E.1 + 1)]? = some (E.1 + (q - (E.1 + 1) + 1), encE E h (q - (E.1 + 1) + 1)) := by
      rw [List.getElem?_append_left (by rw [enc_len]; exact h4)]
      exact h5
    have h7 := hD.1 _ _ _ _ h6 hq (show E.1 + (q - (E.1 + 1) + 1) = q by omega)
    omega
  · omega
theorem aw_new (C : CxOK K E own cc nL) {c index N : Nat} {Cn : String} {T : u_T} {ty : Nat → FieldType} (hcl : ClOK c Cn T N ty) (hw1 : Cond.classLink own index Cn ∈ WSA) (hw2 : Cond.instantiable Cn N ∈ WSA) (hw3 : Cond.initialized Cn ∈ WSA) (hE : E.1 + 1 ≤ (kS K).heap.size) (hcells : cells + 1 ≤ R.cells) (hslots : slots + N ≤ R.slots) (hd : decode cc pc = .ok (.new index, 3)) {d : Nat → Mem → Option (α × Mem)} (kk : ∀ a h1, a = mSz h + 1 → h1 = alM c N h → Aw K E R nL Q (cells + 1) (slots + N) (pc + 3) L (rf E a :: st) h1 (d a h1)) : Aw K E R nL Q cells slots pc L st h (nwO c N h d) := by
  intro r h' e H locs ls hz M hS hls
  have hcl' := hcl
  obtain ⟨hc, hc11, hin, hty, hnm, hlen, hdf⟩ := hcl'
  have hA : ∀ q, (kS K).heap.size ≤ q → AB E q := fun q hq => Nat.le_trans hE hq
  refine va_new (D := eD E) (ci := c) (fs := encO E (alM c N h) (mSz h + 1) c) C.1 C.2.1 C.2.2.2.2.1 hin ty hty C.2.2.2.1 (C.2.2.2.2.1 _ hw1) (C.2.2.2.2.1 _ hw2) (C.2.2.2.2.1 _ hw3) C.2.2.2.2.2.1 M.1 (enc_D E h) hS hA hc ?_ hcells hslots hd (fun q H1 hP hD hS1 => ?_)
  · intro j hj
    rw [hdf j hj]
    have hj2 : j < (FTY.getD c []).length := by rw [hlen]; exact hj
    obtain ⟨t, ht⟩ : ∃ t, (FTY.getD c [])[j]? = some t := ⟨_, List.getElem?_eq_getElem hj2⟩
    have hgd : (FTY.getD c []).getD j 0 = t := by show ((FTY.getD c [])[j]?).getD 0 = t; rw [ht]; rfl
    rw [hgd]
    unfold vp_V
    show _ = ((encO E (alM c N h) (mSz h + 1) c)[j]?).getD .null
    rw [encO_at ht]
    show _ = fv E t _ _ _
    unfold fv
    rw [al_I, al_L, al_R]
    rfl
  · intro T hT X
    have hs := X.heapSize
    rw [hT] at hs
    have hq := al_addr hD hP hs (by omega)
    subst hq
    have key : enc E h ++ [(E.1 + 1 + mSz h, .inr (c, encO E (alM c N h) (mSz h + 1) c))] = enc E (alM c N h) := enc_push rfl (fun b h1 h2 => encE_al c N (by omega)) (encE_o (al_kd c N h) hc11)
    rw [key] at hP
    have := kk (mSz h + 1) (alM c N h) rfl rfl r h' e H1 locs ls (by show _ = E.1 + 1 + (mSz h + 1); omega) ⟨hP, Wf_al M.2 c N⟩ hS1 hls
    rw [show rf E (mSz h + 1) = .ref (E.1 + 1 + mSz h) from congrArg Value.ref (show E.1 + (mSz h + 1) = E.1 + 1 + mSz h by omega)] at this
    exact this T hT X
theorem aw_newAI (C : CxOK K E own cc nL) {cap : Nat} {n : Int32} (hw : Cond.arrayClass .int ∈ WSA) (hE : E.1 + 1 ≤ (kS K).heap.size) (hcap : cap ≤ 100000) (hcells : cells + 1 ≤ R.cells) (hslots : slots + cap ≤ R.slots) (hd : decode cc pc = .ok (.newarray .int, 2)) {d : Nat → Mem → Option (α × Mem)} (kk : ∀ a h1, a = mSz h + 1 → h1 = alM 11 n.toNatClampNeg h → Aw K E R nL Q (cells + 1) (slots + cap) (pc + 2) L (rf E a :: st) h1 (d a h1)) : Aw K E R nL Q cells slots pc L (.int n :: st) h (nwA 11 cap n h d) := by
  intro r h' e H locs ls hz M hS hls
  by_cases hk : ¬ n < 0 ∧ n.toNatClampNeg ≤ cap
  · have e' : d (mSz h + 1) (alM 11 n.toNatClampNeg h) = some (r, h') := by unfold nwA at e; rw [if_pos hk] at e; exact e
    have hA : ∀ q, (kS K).heap.size ≤ q → AB E q := fun q hq => Nat.le_trans hE hq
    refine va_newa (D := eD E) (atype := .int) (ty := .int) (a0 := (n.toNatClampNeg, .inl (fun _ => 0))) C.1 C.2.1 (C.2.2.2.2.1 _ hw) rfl C.2.2.2.2.2.1 M.1 (enc_D E h) hS hA (fun cA => ?_) hk.1 rfl ?_ hcells (by omega) hd (fun q cA H1 hK1 hP hD hS1 => ?_)
    · first | rw [vp_cell_i] | rw [vp_cell_l]
      rfl
    · show _ * 4 ≤ 536870912
      omega
    · intro T hT X
      have hcA : cA = eI E := by
        have h1 : s_find (kS K) .int cA := (hK1.2 4 (cA, .int) rfl).2
        have h2 : s_find (kS K) .int (eI E) := (C.2.2.2.2.2.1.2 0 (eI E, .int) rfl).2
        exact Option.some.inj (h1.symm.trans h2)
      subst hcA
      have hs := X.heapSize
      rw [hT] at hs
      have hq := al_addr hD hP hs (by omega)
      subst hq
      have key : enc E h ++ [(E.1 + 1 + mSz h, .inl (eI E, n.toNatClampNeg, .inl (fun _ => 0)))] = enc E (alM 11 n.toNatClampNeg h) := enc_push rfl (fun b h1 h2 => encE_al _ _ (by omega)) (by rw [encE_i (al_kd _ _ h), al_ln]; first | rw [al_I] | rw [al_L])
      rw [key] at hP
      have hz2 : (kS K).heap.size + (cells + 1) = E.1 + 1 + mSz (alM 11 n.toNatClampNeg h) := by
        show _ = E.1 + 1 + (mSz h + 1)
        omega
      have := (kk (mSz h + 1) (alM 11 n.toNatClampNeg h) rfl rfl r h' e' H1 locs ls hz2 ⟨hP, Wf_al M.2 _ _⟩ hS1 hls)
      rw [show rf E (mSz h + 1) = .ref (E.1 + 1 + mSz h) from congrArg Value.ref (show E.1 + (mSz h + 1) = E.1 + 1 + mSz h by omega)] at this
      exact this T hT (stand_widen X (Nat.le_refl _) (by omega))
  · unfold nwA at e
    rw [if_neg hk] at e; cases e
theorem aw_newAJ (C : CxOK K E own cc nL) {cap : Nat} {n : Int32} (hw : Cond.arrayClass .long ∈ WSA) (hE : E.1 + 1 ≤ (kS K).heap.size) (hcap : cap ≤ 100000) (hcells : cells + 1 ≤ R.cells) (hslots : slots + cap ≤ R.slots) (hd : decode cc pc = .ok (.newarray .long, 2)) {d : Nat → Mem → Option (α × Mem)} (kk : ∀ a h1, a = mSz h + 1 → h1 = alM 12 n.toNatClampNeg h → Aw K E R nL Q (cells + 1) (slots + cap) (pc + 2) L (rf E a :: st) h1 (d a h1)) : Aw K E R nL Q cells slots pc L (.int n :: st) h (nwA 12 cap n h d) := by
  intro r h' e H locs ls hz M hS hls
  by_cases hk : ¬ n < 0 ∧ n.toNatClampNeg ≤ cap
  · have e' : d (mSz h + 1) (alM 12 n.toNatClampNeg h) = some (r, h') := by unfold nwA at e; rw [if_pos hk] at e; exact e
    have hA : ∀ q, (kS K).heap.size ≤ q → AB E q := fun q hq => Nat.le_trans hE hq
    refine va_newa (D := eD E) (atype := .long) (ty := .long) (a0 := (n.toNatClampNeg, .inr (.inl (fun _ => 0)))) C.1 C.2.1 (C.2.2.2.2.1 _ hw) rfl C.2.2.2.2.2.1 M.1 (enc_D E h) hS hA (fun cA => ?_) hk.1 rfl ?_ hcells (by omega) hd (fun q cA H1 hK1 hP hD hS1 => ?_)
    · first | rw [vp_cell_i] | rw [vp_cell_l]
      rfl
    · show _ * 8 ≤ 536870912
      omega
    · intro T hT X
      have hcA : cA = eJ E := by
        have h1 : s_find (kS K) .long cA := (hK1.2 4 (cA, .long) rfl).2
        have h2 : s_find (kS K) .long (eJ E) := (C.2.2.2.2.2.1.2 1 (eJ E, .long) rfl).2
        exact Option.some.inj (h1.symm.trans h2)
      subst hcA
      have hs := X.heapSize
      rw [hT] at hs
      have hq := al_addr hD hP hs (by omega)
      subst hq
      have key : enc E h ++ [(E.1 + 1 + mSz h, .inl (eJ E, n.toNatClampNeg, .inr (.inl (fun _ => 0))))] = enc E (alM 12 n.toNatClampNeg h) := enc_push rfl (fun b h1 h2 => encE_al _ _ (by omega)) (by rw [encE_l (al_kd _ _ h), al_ln]; first | rw [al_I] | rw [al_L])
      rw [key] at hP
      have hz2 : (kS K).heap.size + (cells + 1) = E.1 + 1 + mSz (alM 12 n.toNatClampNeg h) := by
        show _ = E.1 + 1 + (mSz h + 1)
        omega
      have := (kk (mSz h + 1) (alM 12 n.toNatClampNeg h) rfl rfl r h' e' H1 locs ls hz2 ⟨hP, Wf_al M.2 _ _⟩ hS1 hls)
      rw [show rf E (mSz h + 1) = .ref (E.1 + 1 + mSz h) from congrArg Value.ref (show E.1 + (mSz h + 1) = E.1 + 1 + mSz h by omega)] at this
      exact this T hT (stand_widen X (Nat.le_refl _) (by omega))
  · unfold nwA at e
    rw [if_neg hk] at e; cases e
theorem aw_newAZ (C : CxOK K E own cc nL) {cap : Nat} {n : Int32} (hw : Cond.arrayClass .boolean ∈ WSA) (hE : E.1 + 1 ≤ (kS K).heap.size) (hcap : cap ≤ 100000) (hcells : cells + 1 ≤ R.cells) (hslots : slots + cap ≤ R.slots) (hd : decode cc pc = .ok (.newarray .boolean, 2)) {d : Nat → Mem → Option (α × Mem)} (kk : ∀ a h1, a = mSz h + 1 → h1 = alM 13 n.toNatClampNeg h → Aw K E R nL Q (cells + 1) (slots + cap) (pc + 2) L (rf E a :: st) h1 (d a h1)) : Aw K E R nL Q cells slots pc L (.int n :: st) h (nwA 13 cap n h d) := by
  intro r h' e H locs ls hz M hS hls
  by_cases hk : ¬ n < 0 ∧ n.toNatClampNeg ≤ cap
  · have e' : d (mSz h + 1) (alM 13 n.toNatClampNeg h) = some (r, h') := by unfold nwA at e; rw [if_pos hk] at e; exact e
    have hA : ∀ q, (kS K).heap.size ≤ q → AB E q := fun q hq => Nat.le_trans hE hq
    refine va_newa (D := eD E) (atype := .boolean) (ty := .boolean) (a0 := (n.toNatClampNeg, .inl (fun _ => 0))) C.1 C.2.1 (C.2.2.2.2.1 _ hw) rfl C.2.2.2.2.2.1 M.1 (enc_D E h) hS hA (fun cA => ?_) hk.1 rfl ?_ hcells (by omega) hd (fun q cA H1 hK1 hP hD hS1 => ?_)
    · first | rw [vp_cell_i] | rw [vp_cell_l]
      rfl
    · show _ * 1 ≤ 536870912
      omega
    · intro T hT X
      have hcA : cA = eZ E := by
        have h1 : s_find (kS K) .boolean cA := (hK1.2 4 (cA, .boolean) rfl).2
        have h2 : s_find (kS K) .boolean (eZ E) := (C.2.2.2.2.2.1.2 2 (eZ E, .boolean) rfl).2
        exact Option.some.inj (h1.symm.trans h2)
      subst hcA
      have hs := X.heapSize
      rw [hT] at hs
      have hq := al_addr hD hP hs (by omega)
      subst hq
      have key : enc E h ++ [(E.1 + 1 + mSz h, .inl (eZ E, n.toNatClampNeg, .inl (fun _ => 0)))] = enc E (alM 13 n.toNatClampNeg h) := enc_push rfl (fun b h1 h2 => encE_al _ _ (by omega)) (by rw [encE_z (al_kd _ _ h), al_ln]; first | rw [al_I] | rw [al_L])
      rw [key] at hP
      have hz2 : (kS K).heap.size + (cells + 1) = E.1 + 1 + mSz (alM 13 n.toNatClampNeg h) := by
        show _ = E.1 + 1 + (mSz h + 1)
        omega
      have := (kk (mSz h + 1) (alM 13 n.toNatClampNeg h) rfl rfl r h' e' H1 locs ls hz2 ⟨hP, Wf_al M.2 _ _⟩ hS1 hls)
      rw [show rf E (mSz h + 1) = .ref (E.1 + 1 + mSz h) from congrArg Value.ref (show E.1 + (mSz h + 1) = E.1 + 1 + mSz h by omega)] at this
      exact this T hT (stand_widen X (Nat.le_refl _) (by omega))
  · unfold nwA at e
    rw [if_neg hk] at e; cases e
theorem aw_newq (C : CxOK K E own cc nL) {index cap : Nat} {n : Int32} (hw1 : Cond.classLink own index "TwoLetterForms$Tape" ∈ WSA) (hE : E.1 + 1 ≤ (kS K).heap.size) (hcap : cap ≤ 100000) (hcells : cells + 1 ≤ R.cells) (hslots : slots + cap ≤ R.slots) (hd : decode cc pc = .ok (.anewarray index, 3)) {d : Nat → Mem → Option (α × Mem)} (kk : ∀ a h1, a = mSz h + 1 → h1 = alM 14 n.toNatClampNeg h → Aw K E R nL Q (cells + 1) (slots + cap) (pc + 3) L (rf E a :: st) h1 (d a h1)) : Aw K E R nL Q cells slots pc L (.int n :: st) h (nwA 14 cap n h d) := by
  intro r h' e H locs ls hz M hS hls
  by_cases hk : ¬ n < 0 ∧ n.toNatClampNeg ≤ cap
  · have e' : d (mSz h + 1) (alM 14 n.toNatClampNeg h) = some (r, h') := by unfold nwA at e; rw [if_pos hk] at e; exact e
    have hA : ∀ q, (kS K).heap.size ≤ q → AB E q := fun q hq => Nat.le_trans hE hq
    refine va_newq (D := eD E) C.1 C.2.1 C.2.2.2.1 (C.2.2.2.2.1 _ hw1) C.2.2.2.2.2.2.2.2.2 C.2.2.2.2.2.1 M.1 (enc_D E h) hS hA hk.1 rfl (by omega) hcells (by omega) hd (fun q cA H1 hK1 hP hD hS1 => ?_)
    intro T hT X
    have hcA : cA = eT E := by
      obtain ⟨_, _, _, _, _, h1⟩ := (hK1.2 4 (cA, .object "TwoLetterForms$Tape") rfl).2
      obtain ⟨_, _, _, _, _, h2⟩ := (C.2.2.2.2.2.1.2 3 (eT E, .object "TwoLetterForms$Tape") rfl).2
      exact Option.some.inj (h1.symm.trans h2)
    subst hcA
    have hs := X.heapSize
    rw [hT] at hs
    have hq := al_addr hD hP hs (by omega)
    subst hq
    have key : enc E h ++ [(E.1 + 1 + mSz h, .inl (eT E, n.toNatClampNeg, .inr (.inr (.inr (.inr (fun _ => none))))))] = enc E (alM 14 n.toNatClampNeg h) := enc_push rfl (fun b h1 h2 => encE_al _ _ (by omega)) (by rw [encE_t (al_kd _ _ h), al_ln, al_R]; rfl)
    rw [key] at hP
    have hz2 : (kS K).heap.size + (cells + 1) = E.1 + 1 + mSz (alM 14 n.toNatClampNeg h) := by
      show _ = E.1 + 1 + (mSz h + 1)
      omega
    have := (kk (mSz h + 1) (alM 14 n.toNatClampNeg h) rfl rfl r h' e' H1 locs ls hz2 ⟨hP, Wf_al M.2 _ _⟩ hS1 hls)
    rw [show rf E (mSz h + 1) = .ref (E.1 + 1 + mSz h) from congrArg Value.ref (show E.1 + (mSz h + 1) = E.1 + 1 + mSz h by omega)] at this
    exact this T hT (stand_widen X (Nat.le_refl _) (by omega))
  · unfold nwA at e
    rw [if_neg hk] at e; cases e
end AH
end
section
/-! a method's contract over the memory; calls and returns -/
def PcM (E : Ev) (av : List Value) (h : Mem) : Array Value → State → Prop := fun v U => v = av.toArray ∧ Sm E h U.heap ∧ U.heap.size = E.1 + 1 + mSz h ∧ va_K (eD E) vwCl (tys E) U ∧ StOK E U U.heap ∧ NwOK U
def QcM (E : Ev) (n : Nat) (r : Option Value) (h' : Mem) : Array Value → State → Outcome → State → Prop := fun _ st oc t => (oc = .returned r ∧ Sm E h' t.heap ∧ mSz h' = n) ∧ va_F (AB E) st t
def AMet {α : Type} (E : Ev) (l : Launch) (y : MethodName) (cc : ByteArray) (nL : Nat) (ret : Option FieldType) (rm : Room) (av : List Value) (h : Mem) (rvf : α → Option Value) (d : Option (α × Mem)) : Prop :=
  ∀ r h', d = some (r, h') → Met l y (Cond.code y cc nL ret :: WSA) rm (PcM E av h) (QcM E (mSz h + rm.cells) (rvf r) h') rm.cells rm.slots (AB E)
def Qm {α : Type} (K : Kx) (E : Ev) (n : Nat) (rvf : α → Option Value) (mc ms : Nat) : α → Mem → State → Prop := fun r h' => MQ (kB K) (QcM E n (rvf r) h') (kA K) (kS K) mc ms (AB E)
theorem am_intro {α : Type} {E : Ev} {l : Launch} {y : MethodName} {cc : ByteArray} {nL : Nat} {ret : Option FieldType} {rm : Room} {av : List Value} {h : Mem} {rvf : α → Option Value} {d : Option (α × Mem)} (hy : plainName y.cls = true) (hsz : (lg_sl av).length ≤ nL)
    (body : ∀ K : Kx, kL K = l → CxOK K E y.cls cc nL → (kMe K).sig.returnType = ret → (kMe K).name = y.name → (kS K).heap.size = E.1 + 1 + mSz h → Aw K E rm nL (Qm K E (mSz h + rm.cells) rvf rm.cells rm.slots) 0 0 0 (lv_args 0 av) [] h d) : AMet E l y cc nL ret rm av h rvf d := by
  intro r h' e
  refine Met.ofW (cc := cc) (maxL := nL) (ret := ret) hy rfl ?_
  intro p e0 s m args below meth c s₁ B hml hv
  obtain ⟨rfl, hM, hz, hK, hSt, hNw⟩ := hv
  have hts := atoms_spec (ws := Cond.code y cc nL ret :: WSA) B.pre
  have hC : CxOK (p, l, e0, s, m, av.toArray, below, meth, c) E y.cls cc nL := ⟨B.exec, B.bytes, hml, findClass_of_methodNamed B.named, fun w hw => hts w (List.mem_cons_of_mem _ hw), hK, hSt, B.notSynchronized, hNw⟩
  have hl := lv_entry av (n := nL) hsz
  rw [lg_entry_eq]
  exact body (p, l, e0, s, m, av.toArray, below, meth, c) rfl hC B.returns (name_of_methodNamed B.named B.method).1 hz r h' e s.heap [] _ (by show s.heap.size + 0 = _; omega) hM va_S.rf hl
theorem PcM_blind (E : Ev) (av : List Value) (h : Mem) : FrameBlind (PcM E av h) := fun a U g mk q => ⟨q.1, q.2.1, q.2.2.1, va_K.moved (u := U) (U := U.calling g mk a) (Vm.Alike.refl U.vm) q.2.2.2.1, q.2.2.2.2.1.moved (u := U) (U := U.calling g mk a) (Vm.Alike.refl U.vm), q.2.2.2.2.2.same (u := U) (U := U.calling g mk a) rfl⟩
/-- what is known of a method that is called -/
def CalV (y : MethodName) (bytes : ByteArray) (maxL : Nat) (ret : Option FieldType) (n : Nat) : Prop := (Cond.instanceMethod y ∈ WSA ∧ Cond.selects y.cls y y ∈ WSA ∧ Cond.initialized y.cls ∈ WSA ∧ Cond.code y bytes maxL ret ∈ WSA) ∧ (y.cls ≠ "java/lang/invoke/MethodHandle" ∧ y.cls ≠ "java/lang/invoke/VarHandle" ∧ (parseMethodDescriptor y.desc).map (fun d => d.parameters.length) = some n)
def CalS (y : MethodName) (bytes : ByteArray) (maxL : Nat) (ret : Option FieldType) (n : Nat) : Prop := (Cond.static y ∈ WSA ∧ Cond.initialized y.cls ∈ WSA ∧ Cond.code y bytes maxL ret ∈ WSA) ∧ (y.cls ≠ "java/lang/invoke/MethodHandle" ∧ y.cls ≠ "java/lang/invoke/VarHandle" ∧ (parseMethodDescriptor y.desc).map (fun d => d.parameters.length) = some n)
def CalI (y : MethodName) (bytes : ByteArray) (maxL : Nat) (n : Nat) : Prop := (Cond.instanceMethod y ∈ WSA ∧ Cond.initialized y.cls ∈ WSA ∧ Cond.code y bytes maxL none ∈ WSA ∧ y.name = "<init>") ∧ (y.cls ≠ "java/lang/invoke/MethodHandle" ∧ y.cls ≠ "java/lang/invoke/VarHandle" ∧ (parseMethodDescriptor y.desc).map (fun d => d.parameters.length) = some n)
section AC
variable {α β : Type} {K : Kx} {E : Ev} {R : Room} {nL : Nat} {Q : α → Mem → State → Prop} {cells slots pc : Nat} {L : List (Nat × Value)} {rest : List Value} {h : Mem} {own : String} {cc : ByteArray} {ls : Array Slot} {H : Heap} {locs : List Loc}
variable {y : MethodName} {bytes : ByteArray} {maxL n index : Nat} {ret : Option FieldType} {rm : Room} {As : List Value} {a : Nat} {rvf : β → Option Value} {dy : Option (β × Mem)}
theorem aw_pre (C : CxOK K E own cc nL) (hz : (kS K).heap.size + cells = E.1 + 1 + mSz h) (M : Sm E h H) (hS : va_S (AB E) (kS K).heap H locs) (hHz : H.size = E.1 + 1 + mSz h) (av : List Value) : ∀ U : State, U.heap = H → (kS K).WarmedH U.vm → PcM E av h av.toArray U := by
  intro U hU hW
  refine ⟨rfl, by rw [hU]; exact M, by rw [hU]; exact hHz, va_K.moved hW.alike C.2.2.2.2.2.1, ?_, C.2.2.2.2.2.2.2.2.warm hW⟩
  rw [hU]
  exact (C.2.2.2.2.2.2.1.kept (H1 := H) hS.2.1).moved hW.alike
/-- the heap holds as many cells as were counted -/
theorem aw_size (hz : (kS K).heap.size + cells = E.1 + 1 + mSz h) (hE : E.1 + 1 ≤ (kS K).heap.size) (M : Sm E h H) (hS : va_S (AB E) (kS K).heap H locs) {T : State} (hT : T.heap = H) (X : Stand (kP K) (kL K) (kE K) R (kS K) (kM K) (kA K) (kB K) (kMe K) (kC K) T locs cells slots) : H.size = E.1 + 1 + mSz h := by
  have h1 := X.heapSize
  rw [hT] at h1
  by_cases h0 : mSz h = 0
  · have := hS.1
    omega
  · have h2 := enc_at E h (a := mSz h) (by omega) (Nat.le_refl _)
    have h3 := (M.1 _ _ h2).lt
    have h4 : E.1 + mSz h < H.size := h3
    omega
theorem aw_run {rest' : List Value} {r' : Option Value} {h1 : Mem} {av : Array Value} (hr : va_Run (kP K) (kL K) (kE K) R (kS K) (kM K) (kA K) (kB K) (kMe K) (kC K) H locs cells slots rm.cells rm.slots (F0 (kM K) pc ls rest') rest (QcM E (mSz h + rm.cells) r' h1 av) (AB E)) (hz : (kS K).heap.size + cells = E.1 + 1 + mSz h) (hS : va_S (AB E) (kS K).heap H locs) {Q' : State → Prop}
    (kk : ∀ (H1 : Heap) (locs1 : List Loc), (kS K).heap.size + (cells + rm.cells) = E.1 + 1 + mSz h1 → Sm E h1 H1 → va_S (AB E) (kS K).heap H1 locs1 → W (kP K) (kL K) (kE K) R (kS K) (kM K) (kA K) (kB K) (kMe K) (kC K) H1 locs1 (cells + rm.cells) (slots + rm.slots) Q' (F0 (kM K) (pc + 3) ls (r'.toList ++ rest))) : W (kP K) (kL K) (kE K) R (kS K) (kM K) (kA K) (kB K) (kMe K) (kC K) H locs cells slots Q' (F0 (kM K) pc ls rest') := by
  intro T hT X
  obtain ⟨v, st₀, t, T', Lc, h0, X', hL, e1, e2, ⟨⟨hv, hM, hsz⟩, hF1, hF2⟩, stp⟩ := hr T hT X
  cases hv
  rw [h0] at hF1 hF2
  have hS' : va_S (AB E) (kS K).heap T'.heap (locs ++ Lc) := ⟨Nat.le_trans hS.1 (by rw [e1]; exact hF1), fun q h1 h2 => by rw [e1, hF2 q (Nat.lt_of_lt_of_le h1 hS.1) h2]; exact hS.2.1 q h1 h2, fun q hq => by
    rcases List.mem_append.mp hq with h | h
    · exact hS.2.2 q h
    · exact hL q h⟩
  obtain ⟨t2, a1, b1⟩ := kk T'.heap (locs ++ Lc) (by rw [hsz]; omega) (by rw [e1]; exact hM) hS' T' rfl X'
  exact ⟨t2, stp t2 a1, b1⟩

theorem aw_callV0 (C : CxOK K E own cc nL) (hE : E.1 + 1 ≤ (kS K).heap.size) {c N : Nat} {T : u_T} (hcl : vwCl[c]? = some (y.cls, T, N)) (hc11 : c < 11) (hcal : CalV y bytes maxL ret n) (hw : Cond.methodLink own index y ∈ WSA) (hn : As.length = n) (hR : rm.frames + 1 ≤ R.frames ∧ 8 + (maxL + 11) + rm.locals ≤ R.locals) (hf : cells + rm.cells ≤ R.cells ∧ slots + rm.slots ≤ R.slots) (hd : decode cc pc = .ok (.invokevirtual index, 3))
    (hM : AMet E (kL K) y bytes maxL ret rm (rf E a :: As) h rvf dy) (hst : (rest.map fun v => v.category).sum ≤ 8) {d : β → Mem → Option (α × Mem)} (kk : ∀ r h1, dy = some (r, h1) → Aw K E R nL Q (cells + rm.cells) (slots + rm.slots) (pc + 3) L ((rvf r).toList ++ rest) h1 (d r h1)) : Aw K E R nL Q cells slots pc L (As.reverse ++ rf E a :: rest) h (if mKd h a = c then dy.bind (fun x => d x.1 x.2) else none) := by
  intro r h' e H locs ls hz M hS hls
  by_cases hk : mKd h a = c
  · rw [if_pos hk] at e
    cases hdy : dy with
    | none => rw [hdy] at e; cases e
    | some x =>
      obtain ⟨r1, h1⟩ := x
      rw [hdy] at e
      have he := M.at (a := a) (by omega)
      rw [encE_o hk hc11] at he
      obtain ⟨⟨w1, w2, w3, w4⟩, hnm⟩ := hcal
      have hG : GoodIn WSA (wsV own index y.cls y (Cond.code y bytes maxL ret :: WSA)) := wgood (by
        intro w hw'
        simp only [wsV, List.mem_append, List.mem_cons, List.not_mem_nil, or_false] at hw'
        rcases hw' with (rfl | rfl | rfl | rfl) | rfl | h9
        · exact hw
        · exact w1
        · exact w2
        · exact w3
        · exact w4
        · exact h9)
      intro T hT X
      have hHz := aw_size hz hE M hS hT X
      exact aw_run (rm := rm) (r' := rvf r1) (h1 := h1) (va_runV (As := As) (rest := rest) (b := E.1 + a) (C := y.cls) ⟨C.1, C.2.1, C.2.2.1, C.2.2.2.1, C.2.2.2.2.1⟩ (hM r1 h1 hdy) (cwV n C.2.2.2.2.1 hG rfl rfl rfl ⟨rfl, hnm⟩ hR) ⟨PcM_blind E _ h, va_recv C.2.2.2.2.2.1 M.1 hcl he, aw_pre C hz M hS hHz _⟩ rfl hn hls.1 rfl (lv_room hst) hd hf) hz hS (fun H1 locs1 hz1 hM1 hS1 => kk r1 h1 hdy r h' e H1 locs1 ls hz1 hM1 hS1 hls) T hT X
  · rw [if_neg hk] at e; cases e
theorem aw_callS0 (C : CxOK K E own cc nL) (hE : E.1 + 1 ≤ (kS K).heap.size) (hcal : CalS y bytes maxL ret n) (hw : Cond.methodLink own index y ∈ WSA) (hn : As.length = n) (hR : rm.frames + 1 ≤ R.frames ∧ 8 + (maxL + 11) + rm.locals ≤ R.locals) (hf : cells + rm.cells ≤ R.cells ∧ slots + rm.slots ≤ R.slots) (hd : decode cc pc = .ok (.invokestatic index, 3))
    (hM : AMet E (kL K) y bytes maxL ret rm As h rvf dy) (hst : (rest.map fun v => v.category).sum ≤ 8) {d : β → Mem → Option (α × Mem)} (kk : ∀ r h1, dy = some (r, h1) → Aw K E R nL Q (cells + rm.cells) (slots + rm.slots) (pc + 3) L ((rvf r).toList ++ rest) h1 (d r h1)) : Aw K E R nL Q cells slots pc L (As.reverse ++ rest) h (dy.bind (fun x => d x.1 x.2)) := by
  intro r h' e H locs ls hz M hS hls
  cases hdy : dy with
  | none => rw [hdy] at e; cases e
  | some x =>
    obtain ⟨r1, h1⟩ := x
    rw [hdy] at e
    obtain ⟨⟨w1, w3, w4⟩, hnm⟩ := hcal
    have hG : GoodIn WSA (va_wsS own index y (Cond.code y bytes maxL ret :: WSA)) := wgood (by
      intro w hw'
      simp only [va_wsS, List.mem_append, List.mem_cons, List.not_mem_nil, or_false] at hw'
      rcases hw' with (rfl | rfl | rfl) | rfl | h9
      · exact hw
      · exact w1
      · exact w3
      · exact w4
      · exact h9)
    intro T hT X
    have hHz := aw_size hz hE M hS hT X
    exact aw_run (rm := rm) (r' := rvf r1) (h1 := h1) (va_runS (As := As) (rest := rest) ⟨C.1, C.2.1, C.2.2.1, C.2.2.2.1, C.2.2.2.2.1⟩ (hM r1 h1 hdy) (va_cwS n C.2.2.2.2.1 hG rfl rfl rfl hnm hR) ⟨PcM_blind E _ h, aw_pre C hz M hS hHz _⟩ rfl hn hls.1 rfl (lv_room hst) hd hf) hz hS (fun H1 locs1 hz1 hM1 hS1 => kk r1 h1 hdy r h' e H1 locs1 ls hz1 hM1 hS1 hls) T hT X
theorem aw_callSN0 (C : CxOK K E own cc nL) (hE : E.1 + 1 ≤ (kS K).heap.size) (hcal : CalS y bytes maxL ret n) {host : String} (hw : Cond.methodLinkNest own index y host ∈ tables_1) (hn : As.length = n) (hR : rm.frames + 1 ≤ R.frames ∧ 8 + (maxL + 11) + rm.locals ≤ R.locals) (hf : cells + rm.cells ≤ R.cells ∧ slots + rm.slots ≤ R.slots) (hd : decode cc pc = .ok (.invokestatic index, 3))
    (hM : AMet E (kL K) y bytes maxL ret rm As h rvf dy) (hst : (rest.map fun v => v.category).sum ≤ 8) {d : β → Mem → Option (α × Mem)} (kk : ∀ r h1, dy = some (r, h1) → Aw K E R nL Q (cells + rm.cells) (slots + rm.slots) (pc + 3) L ((rvf r).toList ++ rest) h1 (d r h1)) : Aw K E R nL Q cells slots pc L (As.reverse ++ rest) h (dy.bind (fun x => d x.1 x.2)) := by
  intro r h' e H locs ls hz M hS hls
  cases hdy : dy with
  | none => rw [hdy] at e; cases e
  | some x =>
    obtain ⟨r1, h1⟩ := x
    rw [hdy] at e
    obtain ⟨⟨w1, w3, w4⟩, hnm⟩ := hcal
    have hG : GoodIn WSA (Cond.code y bytes maxL ret :: WSA) := wgood (by
      intro w hw'
      rcases List.mem_cons.mp hw' with rfl | h9
      · exact w4
      · exact h9)
    intro T hT X
    have hHz := aw_size hz hE M hS hT X
    exact aw_run (rm := rm) (r' := rvf r1) (h1 := h1) (va_runSN (As := As) (rest := rest) ⟨C.1, C.2.1, C.2.2.1, C.2.2.2.1, C.2.2.2.2.1⟩ (hM r1 h1 hdy) ⟨va_cnB n C.2.2.2.2.1 hG rfl rfl rfl (C.2.2.2.2.2.2.2.2.1 _ hw rfl) (C.2.2.2.2.1 _ w3) hnm hR, C.2.2.2.2.1 _ w1, trivial⟩ ⟨PcM_blind E _ h, aw_pre C hz M hS hHz _⟩ rfl hn hls.1 rfl (lv_room hst) hd hf) hz hS (fun H1 locs1 hz1 hM1 hS1 => kk r1 h1 hdy r h' e H1 locs1 ls hz1 hM1 hS1 hls) T hT X
theorem aw_callI0 (C : CxOK K E own cc nL) (hE : E.1 + 1 ≤ (kS K).heap.size) (hcal : CalI y bytes maxL n) (hw : Cond.methodLink own index y ∈ WSA) (hn : As.length = n) (hR : rm.frames + 1 ≤ R.frames ∧ 8 + (maxL + 11) + rm.locals ≤ R.locals) (hf : cells + rm.cells ≤ R.cells ∧ slots + rm.slots ≤ R.slots) (hd : decode cc pc = .ok (.invokespecial index, 3))
    (hM : AMet E (kL K) y bytes maxL none rm (rf E a :: As) h rvf dy) (hst : (rest.map fun v => v.category).sum ≤ 8) {d : β → Mem → Option (α × Mem)} (kk : ∀ r h1, dy = some (r, h1) → Aw K E R nL Q (cells + rm.cells) (slots + rm.slots) (pc + 3) L ((rvf r).toList ++ rest) h1 (d r h1)) : Aw K E R nL Q cells slots pc L (As.reverse ++ rf E a :: rest) h (dy.bind (fun x => d x.1 x.2)) := by
  intro r h' e H locs ls hz M hS hls
  cases hdy : dy with
  | none => rw [hdy] at e; cases e
  | some x =>
    obtain ⟨r1, h1⟩ := x
    rw [hdy] at e
    obtain ⟨⟨w1, w3, w4, w5⟩, hnm⟩ := hcal
    have hG : GoodIn WSA (Cond.code y bytes maxL none :: WSA) := wgood (by
      intro w hw'
      rcases List.mem_cons.mp hw' with rfl | h9
      · exact w4
      · exact h9)
    intro T hT X
    have hHz := aw_size hz hE M hS hT X
    exact aw_run (rm := rm) (r' := rvf r1) (h1 := h1) (va_runI (As := As) (rest := rest) (b := E.1 + a) ⟨C.1, C.2.1, C.2.2.1, C.2.2.2.1, C.2.2.2.2.1⟩ (hM r1 h1 hdy) (cwI n C.2.2.2.2.1 hG rfl rfl rfl (C.2.2.2.2.1 _ w3) (C.2.2.2.2.1 _ hw) (C.2.2.2.2.1 _ w1) w5 hnm hR) ⟨PcM_blind E _ h, aw_pre C hz M hS hHz _⟩ rfl hn hls.1 rfl (lv_room hst) hd hf) hz hS (fun H1 locs1 hz1 hM1 hS1 => kk r1 h1 hdy r h' e H1 locs1 ls hz1 hM1 hS1 hls) T hT X
theorem aw_callIN0 (C : CxOK K E own cc nL) (hE : E.1 + 1 ≤ (kS K).heap.size) (hcal : CalI y bytes maxL n) {host : String} (hw : Cond.methodLinkNest own index y host ∈ tables_1) (hn : As.length = n) (hR : rm.frames + 1 ≤ R.frames ∧ 8 + (maxL + 11) + rm.locals ≤ R.locals) (hf : cells + rm.cells ≤ R.cells ∧ slots + rm.slots ≤ R.slots) (hd : decode cc pc = .ok (.invokespecial index, 3))
    (hM : AMet E (kL K) y bytes maxL none rm (rf E a :: As) h rvf dy) (hst : (rest.map fun v => v.category).sum ≤ 8) {d : β → Mem → Option (α × Mem)} (kk : ∀ r h1, dy = some (r, h1) → Aw K E R nL Q (cells + rm.cells) (slots + rm.slots) (pc + 3) L ((rvf r).toList ++ rest) h1 (d r h1)) : Aw K E R nL Q cells slots pc L (As.reverse ++ rf E a :: rest) h (dy.bind (fun x => d x.1 x.2)) := by
  intro r h' e H locs ls hz M hS hls
  cases hdy : dy with
  | none => rw [hdy] at e; cases e
  | some x =>
    obtain ⟨r1, h1⟩ := x
    rw [hdy] at e
    obtain ⟨⟨w1, w3, w4, w5⟩, hnm⟩ := hcal
    have hG : GoodIn WSA (Cond.code y bytes maxL none :: WSA) := wgood (by
      intro w hw'
      rcases List.mem_cons.mp hw' with rfl | h9
      · exact w4
      · exact h9)
    intro T hT X
    have hHz := aw_size hz hE M hS hT X
    exact aw_run (rm := rm) (r' := rvf r1) (h1 := h1) (va_runIN (As := As) (rest := rest) (b := E.1 + a) ⟨C.1, C.2.1, C.2.2.1, C.2.2.2.1, C.2.2.2.2.1⟩ (hM r1 h1 hdy) ⟨va_cnB n C.2.2.2.2.1 hG rfl rfl rfl (C.2.2.2.2.2.2.2.2.1 _ hw rfl) (C.2.2.2.2.1 _ w3) hnm hR, w5, C.2.2.2.2.1 _ w1⟩ ⟨PcM_blind E _ h, aw_pre C hz M hS hHz _⟩ rfl hn hls.1 rfl (lv_room hst) hd hf) hz hS (fun H1 locs1 hz1 hM1 hS1 => kk r1 h1 hdy r h' e H1 locs1 ls hz1 hM1 hS1 hls) T hT X
theorem aw_objInit (C : CxOK K E own cc nL) (hw1 : Cond.methodLink own index Lib.objectInit ∈ WSA) (hw2 : Cond.instanceMethod Lib.objectInit ∈ WSA) (hw3 : Cond.code Lib.objectInit ⟨#[0xb1]⟩ 1 none ∈ WSA) (hd : decode cc pc = .ok (.invokespecial index, 3)) (hfr : 1 ≤ R.frames) (hlo : (rest.map fun v => v.category).sum + 12 ≤ R.locals) {d : Option (α × Mem)} (kk : Aw K E R nL Q cells slots (pc + 3) L rest h d) : Aw K E R nL Q cells slots pc L (rf E a :: rest) h d := by
  intro r h' e H locs ls hz M hS hls
  refine W.objInit C.1 C.2.1 C.2.2.2.1 (C.2.2.2.2.1 _ hw1) (C.2.2.2.2.1 _ hw2) (C.2.2.2.2.1 _ hw3) rfl (by rw [C.2.2.1]; exact hls.1) rfl hd hfr (by show 2 * 0 + _ + 12 ≤ _; omega) ?_
  exact kk r h' e H locs ls hz M hS hls

theorem aw_callVI (C : CxOK K E own cc nL) (hE : E.1 + 1 ≤ (kS K).heap.size) {c N : Nat} {T : u_T} (hcl : vwCl[c]? = some (y.cls, T, N)) (hc11 : c < 11) (hcal : CalV y bytes maxL ret n) (hw : Cond.methodLink own index y ∈ WSA) (hn : As.length = n) (hR : rm.frames + 1 ≤ R.frames ∧ 8 + (maxL + 11) + rm.locals ≤ R.locals) (hf : cells + rm.cells ≤ R.cells ∧ slots + rm.slots ≤ R.slots) (hd : decode cc pc = .ok (.invokevirtual index, 3)) {dy : Option (Int32 × Mem)} (hM : AMet E (kL K) y bytes maxL ret rm (rf E a :: As) h rvI dy) {st : List Value} (hrev : As.reverse ++ rf E a :: rest = st) (hst : (rest.map fun v => v.category).sum ≤ 8) {d : Int32 → Mem → Option (α × Mem)} {c' s' : Nat} (hc' : cells + rm.cells = c') (hs' : slots + rm.slots = s') (kk : ∀ r h1, dy = some (r, h1) → Aw K E R nL Q c' s' (pc + 3) L (.int r :: rest) h1 (d r h1)) : Aw K E R nL Q cells slots pc L st h (if mKd h a = c then dy.bind (fun x => d x.1 x.2) else none) := by
  subst hrev hc' hs'
  exact aw_callV0 C hE hcl hc11 hcal hw hn hR hf hd hM hst kk
theorem aw_callVJ (C : CxOK K E own cc nL) (hE : E.1 + 1 ≤ (kS K).heap.size) {c N : Nat} {T : u_T} (hcl : vwCl[c]? = some (y.cls, T, N)) (hc11 : c < 11) (hcal : CalV y bytes maxL ret n) (hw : Cond.methodLink own index y ∈ WSA) (hn : As.length = n) (hR : rm.frames + 1 ≤ R.frames ∧ 8 + (maxL + 11) + rm.locals ≤ R.locals) (hf : cells + rm.cells ≤ R.cells ∧ slots + rm.slots ≤ R.slots) (hd : decode cc pc = .ok (.invokevirtual index, 3)) {dy : Option (Int64 × Mem)} (hM : AMet E (kL K) y bytes maxL ret rm (rf E a :: As) h rvJ dy) {st : List Value} (hrev : As.reverse ++ rf E a :: rest = st) (hst : (rest.map fun v => v.category).sum ≤ 8) {d : Int64 → Mem → Option (α × Mem)} {c' s' : Nat} (hc' : cells + rm.cells = c') (hs' : slots + rm.slots = s') (kk : ∀ r h1, dy = some (r, h1) → Aw K E R nL Q c' s' (pc + 3) L (.long r :: rest) h1 (d r h1)) : Aw K E R nL Q cells slots pc L st h (if mKd h a = c then dy.bind (fun x => d x.1 x.2) else none) := by
  subst hrev hc' hs'
  exact aw_callV0 C hE hcl hc11 hcal hw hn hR hf hd hM hst kk
theorem aw_callVV (C : CxOK K E own cc nL) (hE : E.1 + 1 ≤ (kS K).heap.size) {c N : Nat} {T : u_T} (hcl : vwCl[c]? = some (y.cls, T, N)) (hc11 : c < 11) (hcal : CalV y bytes maxL ret n) (hw : Cond.methodLink own index y ∈ WSA) (hn : As.length = n) (hR : rm.frames + 1 ≤ R.frames ∧ 8 + (maxL + 11) + rm.locals ≤ R.locals) (hf : cells + rm.cells ≤ R.cells ∧ slots + rm.slots ≤ R.slots) (hd : decode cc pc = .ok (.invokevirtual index, 3)) {dy : Option (Unit × Mem)} (hM : AMet E (kL K) y bytes maxL ret rm (rf E a :: As) h rvV dy) {st : List Value} (hrev : As.reverse ++ rf E a :: rest = st) (hst : (rest.map fun v => v.category).sum ≤ 8) {d : Unit → Mem → Option (α × Mem)} {c' s' : Nat} (hc' : cells + rm.cells = c') (hs' : slots + rm.slots = s') (kk : ∀ r h1, dy = some (r, h1) → Aw K E R nL Q c' s' (pc + 3) L (rest) h1 (d r h1)) : Aw K E R nL Q cells slots pc L st h (if mKd h a = c then dy.bind (fun x => d x.1 x.2) else none) := by
  subst hrev hc' hs'
  exact aw_callV0 C hE hcl hc11 hcal hw hn hR hf hd hM hst kk
theorem aw_callSI (C : CxOK K E own cc nL) (hE : E.1 + 1 ≤ (kS K).heap.size) (hcal : CalS y bytes maxL ret n) (hw : Cond.methodLink own index y ∈ WSA) (hn : As.length = n) (hR : rm.frames + 1 ≤ R.frames ∧ 8 + (maxL + 11) + rm.locals ≤ R.locals) (hf : cells + rm.cells ≤ R.cells ∧ slots + rm.slots ≤ R.slots) (hd : decode cc pc = .ok (.invokestatic index, 3)) {dy : Option (Int32 × Mem)} (hM : AMet E (kL K) y bytes maxL ret rm As h rvI dy) {st : List Value} (hrev : As.reverse ++ rest = st) (hst : (rest.map fun v => v.category).sum ≤ 8) {d : Int32 → Mem → Option (α × Mem)} {c' s' : Nat} (hc' : cells + rm.cells = c') (hs' : slots + rm.slots = s') (kk : ∀ r h1, dy = some (r, h1) → Aw K E R nL Q c' s' (pc + 3) L (.int r :: rest) h1 (d r h1)) : Aw K E R nL Q cells slots pc L st h (dy.bind (fun x => d x.1 x.2)) := by
  subst hrev hc' hs'
  exact aw_callS0 C hE hcal hw hn hR hf hd hM hst kk
theorem aw_callSJ (C : CxOK K E own cc nL) (hE : E.1 + 1 ≤ (kS K).heap.size) (hcal : CalS y bytes maxL ret n) (hw : Cond.methodLink own index y ∈ WSA) (hn : As.length = n) (hR : rm.frames + 1 ≤ R.frames ∧ 8 + (maxL + 11) + rm.locals ≤ R.locals) (hf : cells + rm.cells ≤ R.cells ∧ slots + rm.slots ≤ R.slots) (hd : decode cc pc = .ok (.invokestatic index, 3)) {dy : Option (Int64 × Mem)} (hM : AMet E (kL K) y bytes maxL ret rm As h rvJ dy) {st : List Value} (hrev : As.reverse ++ rest = st) (hst : (rest.map fun v => v.category).sum ≤ 8) {d : Int64 → Mem → Option (α × Mem)} {c' s' : Nat} (hc' : cells + rm.cells = c') (hs' : slots + rm.slots = s') (kk : ∀ r h1, dy = some (r, h1) → Aw K E R nL Q c' s' (pc + 3) L (.long r :: rest) h1 (d r h1)) : Aw K E R nL Q cells slots pc L st h (dy.bind (fun x => d x.1 x.2)) := by
  subst hrev hc' hs'
  exact aw_callS0 C hE hcal hw hn hR hf hd hM hst kk
theorem aw_callSV (C : CxOK K E own cc nL) (hE : E.1 + 1 ≤ (kS K).heap.size) (hcal : CalS y bytes maxL ret n) (hw : Cond.methodLink own index y ∈ WSA) (hn : As.length = n) (hR : rm.frames + 1 ≤ R.frames ∧ 8 + (maxL + 11) + rm.locals ≤ R.locals) (hf : cells + rm.cells ≤ R.cells ∧ slots + rm.slots ≤ R.slots) (hd : decode cc pc = .ok (.invokestatic index, 3)) {dy : Option (Unit × Mem)} (hM : AMet E (kL K) y bytes maxL ret rm As h rvV dy) {st : List Value} (hrev : As.reverse ++ rest = st) (hst : (rest.map fun v => v.category).sum ≤ 8) {d : Unit → Mem → Option (α × Mem)} {c' s' : Nat} (hc' : cells + rm.cells = c') (hs' : slots + rm.slots = s') (kk : ∀ r h1, dy = some (r, h1) → Aw K E R nL Q c' s' (pc + 3) L (rest) h1 (d r h1)) : Aw K E R nL Q cells slots pc L st h (dy.bind (fun x => d x.1 x.2)) := by
  subst hrev hc' hs'
  exact aw_callS0 C hE hcal hw hn hR hf hd hM hst kk
theorem aw_callSNI (C : CxOK K E own cc nL) (hE : E.1 + 1 ≤ (kS K).heap.size) (hcal : CalS y bytes maxL ret n) {host : String} (hw : Cond.methodLinkNest own index y host ∈ tables_1) (hn : As.length = n) (hR : rm.frames + 1 ≤ R.frames ∧ 8 + (maxL + 11) + rm.locals ≤ R.locals) (hf : cells + rm.cells ≤ R.cells ∧ slots + rm.slots ≤ R.slots) (hd : decode cc pc = .ok (.invokestatic index, 3)) {dy : Option (Int32 × Mem)} (hM : AMet E (kL K) y bytes maxL ret rm As h rvI dy) {st : List Value} (hrev : As.reverse ++ rest = st) (hst : (rest.map fun v => v.category).sum ≤ 8) {d : Int32 → Mem → Option (α × Mem)} {c' s' : Nat} (hc' : cells + rm.cells = c') (hs' : slots + rm.slots = s') (kk : ∀ r h1, dy = some (r, h1) → Aw K E R nL Q c' s' (pc + 3) L (.int r :: rest) h1 (d r h1)) : Aw K E R nL Q cells slots pc L st h (dy.bind (fun x => d x.1 x.2)) := by
  subst hrev hc' hs'
  exact aw_callSN0 C hE hcal hw hn hR hf hd hM hst kk
theorem aw_callIV (C : CxOK K E own cc nL) (hE : E.1 + 1 ≤ (kS K).heap.size) (hcal : CalI y bytes maxL n) (hw : Cond.methodLink own index y ∈ WSA) (hn : As.length = n) (hR : rm.frames + 1 ≤ R.frames ∧ 8 + (maxL + 11) + rm.locals ≤ R.locals) (hf : cells + rm.cells ≤ R.cells ∧ slots + rm.slots ≤ R.slots) (hd : decode cc pc = .ok (.invokespecial index, 3)) {dy : Option (Unit × Mem)} (hM : AMet E (kL K) y bytes maxL none rm (rf E a :: As) h rvV dy) {st : List Value} (hrev : As.reverse ++ rf E a :: rest = st) (hst : (rest.map fun v => v.category).sum ≤ 8) {d : Unit → Mem → Option (α × Mem)} {c' s' : Nat} (hc' : cells + rm.cells = c') (hs' : slots + rm.slots = s') (kk : ∀ r h1, dy = some (r, h1) → Aw K E R nL Q c' s' (pc + 3) L (rest) h1 (d r h1)) : Aw K E R nL Q cells slots pc L st h (dy.bind (fun x => d x.1 x.2)) := by
  subst hrev hc' hs'
  exact aw_callI0 C hE hcal hw hn hR hf hd hM hst kk
theorem aw_callINV (C : CxOK K E own cc nL) (hE : E.1 + 1 ≤ (kS K).heap.size) (hcal : CalI y bytes maxL n) {host : String} (hw : Cond.methodLinkNest own index y host ∈ tables_1) (hn : As.length = n) (hR : rm.frames + 1 ≤ R.frames ∧ 8 + (maxL + 11) + rm.locals ≤ R.locals) (hf : cells + rm.cells ≤ R.cells ∧ slots + rm.slots ≤ R.slots) (hd : decode cc pc = .ok (.invokespecial index, 3)) {dy : Option (Unit × Mem)} (hM : AMet E (kL K) y bytes maxL none rm (rf E a :: As) h rvV dy) {st : List Value} (hrev : As.reverse ++ rf E a :: rest = st) (hst : (rest.map fun v => v.category).sum ≤ 8) {d : Unit → Mem → Option (α × Mem)} {c' s' : Nat} (hc' : cells + rm.cells = c') (hs' : slots + rm.slots = s') (kk : ∀ r h1, dy = some (r, h1) → Aw K E R nL Q c' s' (pc + 3) L (rest) h1 (d r h1)) : Aw K E R nL Q cells slots pc L st h (dy.bind (fun x => d x.1 x.2)) := by
  subst hrev hc' hs'
  exact aw_callIN0 C hE hcal hw hn hR hf hd hM hst kk
theorem aw_callVR (C : CxOK K E own cc nL) (hE : E.1 + 1 ≤ (kS K).heap.size) {c N : Nat} {T : u_T} (hcl : vwCl[c]? = some (y.cls, T, N)) (hc11 : c < 11) (hcal : CalV y bytes maxL ret n) (hw : Cond.methodLink own index y ∈ WSA) (hn : As.length = n) (hR : rm.frames + 1 ≤ R.frames ∧ 8 + (maxL + 11) + rm.locals ≤ R.locals) (hf : cells + rm.cells ≤ R.cells ∧ slots + rm.slots ≤ R.slots) (hd : decode cc pc = .ok (.invokevirtual index, 3)) {dy : Option (Nat × Mem)} (hM : AMet E (kL K) y bytes maxL ret rm (rf E a :: As) h (rvR E) dy) {st : List Value} (hrev : As.reverse ++ rf E a :: rest = st) (hst : (rest.map fun v => v.category).sum ≤ 8) {d1 : Mem → Option (α × Mem)} {d2 : Nat → Mem → Option (α × Mem)} {c' s' : Nat} (hc' : cells + rm.cells = c') (hs' : slots + rm.slots = s') (k1 : ∀ h1, dy = some (0, h1) → Aw K E R nL Q c' s' (pc + 3) L (.null :: rest) h1 (d1 h1)) (k2 : ∀ r h1, dy = some (r, h1) → r ≠ 0 → Aw K E R nL Q c' s' (pc + 3) L (rf E r :: rest) h1 (d2 r h1)) : Aw K E R nL Q cells slots pc L st h (if mKd h a = c then dy.bind (fun x => if x.1 = 0 then d1 x.2 else d2 x.1 x.2) else none) := by
  subst hrev hc' hs'
  refine aw_callV0 C hE hcl hc11 hcal hw hn hR hf hd hM hst (d := fun r h1 => if r = 0 then d1 h1 else d2 r h1) (fun r h1 hr => ?_)
  by_cases h0 : r = 0
  · subst h0
    exact k1 h1 hr
  · rw [if_neg h0]
    have := k2 r h1 hr h0
    rw [show (rvR E r).toList ++ rest = rf E r :: rest from by simp [rvR, rv_rf E h0]]
    exact this
/-! returns -/
theorem aw_post {n : Nat} {rvf : β → Option Value} {r : β} {h' : Mem} {t : State} (hz : (kS K).heap.size + cells = E.1 + 1 + mSz h') (hz0 : n = mSz h' ) (M : Sm E h' H) (hS : va_S (AB E) (kS K).heap H locs) (ht : t.heap = H) : QcM E n (rvf r) h' (kA K) (kS K) (.returned (rvf r)) t := ⟨⟨rfl, by rw [ht]; exact M, hz0.symm⟩, hS.F ht⟩
theorem aw_ireturn (C : CxOK K E own cc nL) {ft : FieldType} (hr : (kMe K).sig.returnType = some ft) {v : Int32} (hn : narrow ft (.int v) = .int v) {n m0 : Nat} (hz0 : (kS K).heap.size = E.1 + 1 + m0) (hn0 : n = m0 + cells) (hd : decode cc pc = .ok (.ireturn, 1)) : Aw K E R nL (Qm K E n rvI cells slots) cells slots pc L [.int v] h (some (v, h)) := by
  intro r h' e H locs ls hz M hS hls
  cases e
  exact W.zret C.1 C.2.1 hr hn (fun t ht hW => aw_post (rvf := rvI) (r := v) hz (by omega) M hS ht) hS.2.2 hd (hlocks := C.2.2.2.2.2.2.2.1)
theorem aw_lreturn (C : CxOK K E own cc nL) (hr : (kMe K).sig.returnType = some .long) {v : Int64} {n m0 : Nat} (hz0 : (kS K).heap.size = E.1 + 1 + m0) (hn0 : n = m0 + cells) (hd : decode cc pc = .ok (.lreturn, 1)) : Aw K E R nL (Qm K E n rvJ cells slots) cells slots pc L [.long v] h (some (v, h)) := by
  intro r h' e H locs ls hz M hS hls
  cases e
  exact W.lret C.1 C.2.1 hr (fun t ht hW => aw_post (rvf := rvJ) (r := v) hz (by omega) M hS ht) hS.2.2 hd (hlocks := C.2.2.2.2.2.2.2.1)
theorem aw_return (C : CxOK K E own cc nL) (hr : (kMe K).sig.returnType = none) {n m0 : Nat} (hz0 : (kS K).heap.size = E.1 + 1 + m0) (hn0 : n = m0 + cells) (hd : decode cc pc = .ok (.return_, 1)) : Aw K E R nL (Qm K E n rvV cells slots) cells slots pc L [] h (some ((), h)) := by
  intro r h' e H locs ls hz M hS hls
  cases e
  exact W.vret C.1 C.2.1 hr (fun t ht hW => aw_post (rvf := rvV) (r := ()) hz (by omega) M hS ht) hS.2.2 hd (hlocks := C.2.2.2.2.2.2.2.1)
theorem aw_areturn (C : CxOK K E own cc nL) {s : String} (hr : (kMe K).sig.returnType = some (.object s)) {v : Nat} (hv : v ≠ 0) {n m0 : Nat} (hz0 : (kS K).heap.size = E.1 + 1 + m0) (hn0 : n = m0 + cells) (hd : decode cc pc = .ok (.areturn, 1)) : Aw K E R nL (Qm K E n (rvR E) cells slots) cells slots pc L [rf E v] h (some (v, h)) := by
  intro r h' e H locs ls hz M hS hls
  cases e
  exact W.aret (v := rf E v) C.1 C.2.1 hr (Or.inl ⟨_, rfl⟩) (Or.inr ⟨_, rfl⟩) (fun t ht hW => by rw [← rv_rf E hv]; exact aw_post (rvf := rvR E) (r := v) hz (by omega) M hS ht) hS.2.2 hd (hlocks := C.2.2.2.2.2.2.2.1)
theorem aw_areturnN (C : CxOK K E own cc nL) {s : String} (hr : (kMe K).sig.returnType = some (.object s)) {n m0 : Nat} (hz0 : (kS K).heap.size = E.1 + 1 + m0) (hn0 : n = m0 + cells) (hd : decode cc pc = .ok (.areturn, 1)) : Aw K E R nL (Qm K E n (rvR E) cells slots) cells slots pc L [.null] h (some (0, h)) := by
  intro r h' e H locs ls hz M hS hls
  cases e
  exact W.aret (v := .null) C.1 C.2.1 hr (Or.inl ⟨_, rfl⟩) (Or.inl rfl) (fun t ht hW => aw_post (rvf := rvR E) (r := 0) hz (by omega) M hS ht) hS.2.2 hd (hlocks := C.2.2.2.2.2.2.2.1)
theorem aw_zreturn (C : CxOK K E own cc nL) (hr : (kMe K).sig.returnType = some .boolean) {v : Int32} {n m0 : Nat} (hz0 : (kS K).heap.size = E.1 + 1 + m0) (hn0 : n = m0 + cells) (hd : decode cc pc = .ok (.ireturn, 1)) : Aw K E R nL (Qm K E n rvI cells slots) cells slots pc L [.int v] h (if v = 0 ∨ v = 1 then some (v, h) else none) := by
  by_cases hv : v = 0 ∨ v = 1
  · rw [if_pos hv]
    exact aw_ireturn C hr (by rcases hv with rfl | rfl <;> rfl) hz0 hn0 hd
  · rw [if_neg hv]
    exact aw_none
theorem aw_widen {α : Type} {Q : α → Mem → State → Prop} {k m : Nat} (h1 : cells = k) (h2 : slots ≤ m) {st : List Value} {d : Option (α × Mem)} (kk : Aw K E R nL Q k m pc L st h d) : Aw K E R nL Q cells slots pc L st h d := by
  subst h1
  exact fun r h' e H locs ls hz M hS hls => W.widen (Nat.le_refl _) h2 (kk r h' e H locs ls hz M hS hls)
/-! switches -/
theorem aw_tableIn {α : Type} {Q : α → Mem → State → Prop} {st : List Value} (C : CxOK K E own cc nL) {dflt lo hi : Int} {offs : Array Int} {len : Nat} {x : Int32} (k : Int32) {off : Int} (tgt : Nat) (hx : x = k) (hd : decode cc pc = .ok (.tableswitch dflt lo hi offs, len)) (h1 : ¬ k.toInt < lo) (h2 : ¬ hi < k.toInt) (ho : offs[(k.toInt - lo).toNat]? = some off) (ht : (pc : Int) + off = (tgt : Int)) {d : Option (α × Mem)} (kk : Aw K E R nL Q cells slots tgt L st h d) : Aw K E R nL Q cells slots pc L (.int x :: st) h d := by
  subst hx
  exact fun r h' e H locs ls hz M hS hls => lv_tableIn C.1 C.2.1 hd h1 h2 ho ht (kk r h' e H locs ls hz M hS hls)
theorem aw_tableOut {α : Type} {Q : α → Mem → State → Prop} {st : List Value} (C : CxOK K E own cc nL) {dflt lo hi : Int} {offs : Array Int} {len : Nat} {x : Int32} (tgt : Nat) (hd : decode cc pc = .ok (.tableswitch dflt lo hi offs, len)) (ho : x.toInt < lo ∨ hi < x.toInt) (ht : (pc : Int) + dflt = (tgt : Int)) {d : Option (α × Mem)} (kk : Aw K E R nL Q cells slots tgt L st h d) : Aw K E R nL Q cells slots pc L (.int x :: st) h d :=
  fun r h' e H locs ls hz M hS hls => lv_tableOut C.1 C.2.1 hd ho ht (kk r h' e H locs ls hz M hS hls)
theorem aw_lookup {α : Type} {Q : α → Mem → State → Prop} {st : List Value} (C : CxOK K E own cc nL) {dflt : Int} {ps : Array (Int × Int)} {len : Nat} {x : Int32} {off : Int} (tgt : Nat) (hd : decode cc pc = .ok (.lookupswitch dflt ps, len)) (hp : (ps.toList.zip (ps.toList.drop 1)).all (fun (a, next) => a.1 < next.1) = true) (ho : Op.lookupswitch.offset ps.toList dflt x.toInt = off) (ht : (pc : Int) + off = (tgt : Int)) {d : Option (α × Mem)} (kk : Aw K E R nL Q cells slots tgt L st h d) : Aw K E R nL Q cells slots pc L (.int x :: st) h d :=
  fun r h' e H locs ls hz M hS hls => lv_lookup C.1 C.2.1 hd hp ho ht (kk r h' e H locs ls hz M hS hls)
theorem aw_case {α : Type} {Q : α → Mem → State → Prop} {st : List Value} {x : Int32} (k : Int32) {d1 d2 : Option (α × Mem)} (k1 : x = k → Aw K E R nL Q cells slots pc L st h d1) (k2 : ¬ x = k → Aw K E R nL Q cells slots pc L st h d2) : Aw K E R nL Q cells slots pc L st h (if x = k then d1 else d2) := by
  by_cases hc : x = k
  · rw [if_pos hc]; exact k1 hc
  · rw [if_neg hc]; exact k2 hc

theorem aw_copyI {α : Type} {Q : α → Mem → State → Prop} (C : CxOK K E own cc nL) {a b : Nat} {i j k : Int32} (hw1 : Cond.methodLink own index arraycopyName ∈ WSA) (hw2 : Cond.native arraycopyName ∈ WSA) (hw3 : Cond.static arraycopyName ∈ WSA) (hw4 : Cond.initialized "java/lang/System" ∈ WSA) (hfr : 1 ≤ R.frames) (hlo : (rest.map fun v => v.category).sum + (nativeFrameWords "java/lang/System" "arraycopy" 5 + 11) ≤ R.locals) (hd : decode cc pc = .ok (.invokestatic index, 3)) {d : Mem → Option (α × Mem)} (kk : ∀ h1, cpI h a i b j k = some h1 → Aw K E R nL Q cells slots (pc + 3) L rest h1 (d h1)) : Aw K E R nL Q cells slots pc L (.int k :: .int j :: rf E b :: .int i :: rf E a :: rest) h ((cpI h a i b j k).bind d) := by
  intro r h' e H locs ls hz M hS hls
  by_cases hk : (mKd h a = 11 ∧ mKd h b = 11) ∧ (¬ i < 0 ∧ ¬ j < 0 ∧ ¬ k < 0) ∧ i.toNatClampNeg + k.toNatClampNeg ≤ mLn h a ∧ j.toNatClampNeg + k.toNatClampNeg ≤ mLn h b
  · have hg : cpI h a i b j k = some (sI h b (va_cpy (mI h a) (mI h b) i.toNatClampNeg j.toNatClampNeg k.toNatClampNeg)) := by unfold cpI; rw [if_pos hk]
    rw [hg] at e
    have h15 : mKd h b < 15 := by omega
    have hea := M.at (a := a) (by omega)
    have heb := M.at h15
    rw [encE_i hk.1.1] at hea
    rw [encE_i hk.1.2] at heb
    have hk' : mKd (sI h b (va_cpy (mI h a) (mI h b) i.toNatClampNeg j.toNatClampNeg k.toNatClampNeg)) b = 11 := hk.1.2
    have key : (enc E h).set (b - 1) (E.1 + b, .inl (eI E, mLn h b, .inl (va_cpy (mI h a) (mI h b) i.toNatClampNeg j.toNatClampNeg k.toNatClampNeg))) = enc E (sI h b (va_cpy (mI h a) (mI h b) i.toNatClampNeg j.toNatClampNeg k.toNatClampNeg)) := by
      refine enc_set (E := E) (h := h) (h' := sI h b (va_cpy (mI h a) (mI h b) i.toNatClampNeg j.toNatClampNeg k.toNatClampNeg)) rfl (M.2 b h15).1 (fun q hq => encE_nI _ hq) ?_
      rw [encE_i hk', mI_sI, up1_s]
      rfl
    refine va_copyi (D := eD E) C.1 C.2.1 (C.2.2.1.trans hls.1.symm) C.2.2.2.1 (C.2.2.2.2.1 _ hw1) (C.2.2.2.2.1 _ hw2) (C.2.2.2.2.1 _ hw3) (C.2.2.2.2.1 _ hw4) C.2.2.2.2.2.1 M.1 (enc_D E h) hS (a - 1) (b - 1) 0 0 (ty := .int) hea heb rfl rfl rfl hk.2.1.1 hk.2.1.2.1 hk.2.1.2.2 hk.2.2.1 hk.2.2.2 (fun _ _ => rfl) hfr hlo hd (fun H1 locs1 hP hD hS1 => ?_)
    rw [key] at hP
    exact kk _ hg r h' e H1 locs1 ls hz ⟨hP, M.2⟩ hS1 hls
  · have hg : cpI h a i b j k = none := by unfold cpI; rw [if_neg hk]
    rw [hg] at e; cases e
theorem aw_copyJ {α : Type} {Q : α → Mem → State → Prop} (C : CxOK K E own cc nL) {a b : Nat} {i j k : Int32} (hw1 : Cond.methodLink own index arraycopyName ∈ WSA) (hw2 : Cond.native arraycopyName ∈ WSA) (hw3 : Cond.static arraycopyName ∈ WSA) (hw4 : Cond.initialized "java/lang/System" ∈ WSA) (hfr : 1 ≤ R.frames) (hlo : (rest.map fun v => v.category).sum + (nativeFrameWords "java/lang/System" "arraycopy" 5 + 11) ≤ R.locals) (hd : decode cc pc = .ok (.invokestatic index, 3)) {d : Mem → Option (α × Mem)} (kk : ∀ h1, cpJ h a i b j k = some h1 → Aw K E R nL Q cells slots (pc + 3) L rest h1 (d h1)) : Aw K E R nL Q cells slots pc L (.int k :: .int j :: rf E b :: .int i :: rf E a :: rest) h ((cpJ h a i b j k).bind d) := by
  intro r h' e H locs ls hz M hS hls
  by_cases hk : (mKd h a = 12 ∧ mKd h b = 12) ∧ (¬ i < 0 ∧ ¬ j < 0 ∧ ¬ k < 0) ∧ i.toNatClampNeg + k.toNatClampNeg ≤ mLn h a ∧ j.toNatClampNeg + k.toNatClampNeg ≤ mLn h b
  · have hg : cpJ h a i b j k = some (sL h b (va_cpy (mL h a) (mL h b) i.toNatClampNeg j.toNatClampNeg k.toNatClampNeg)) := by unfold cpJ; rw [if_pos hk]
    rw [hg] at e
    have h15 : mKd h b < 15 := by omega
    have hea := M.at (a := a) (by omega)
    have heb := M.at h15
    rw [encE_l hk.1.1] at hea
    rw [encE_l hk.1.2] at heb
    have hk' : mKd (sL h b (va_cpy (mL h a) (mL h b) i.toNatClampNeg j.toNatClampNeg k.toNatClampNeg)) b = 12 := hk.1.2
    have key : (enc E h).set (b - 1) (E.1 + b, .inl (eJ E, mLn h b, .inr (.inl (va_cpy (mL h a) (mL h b) i.toNatClampNeg j.toNatClampNeg k.toNatClampNeg)))) = enc E (sL h b (va_cpy (mL h a) (mL h b) i.toNatClampNeg j.toNatClampNeg k.toNatClampNeg)) := by
      refine enc_set (E := E) (h := h) (h' := sL h b (va_cpy (mL h a) (mL h b) i.toNatClampNeg j.toNatClampNeg k.toNatClampNeg)) rfl (M.2 b h15).1 (fun q hq => encE_nL _ hq) ?_
      rw [encE_l hk', mL_sL, up1_s]
      rfl
    refine va_copyl (D := eD E) C.1 C.2.1 (C.2.2.1.trans hls.1.symm) C.2.2.2.1 (C.2.2.2.2.1 _ hw1) (C.2.2.2.2.1 _ hw2) (C.2.2.2.2.1 _ hw3) (C.2.2.2.2.1 _ hw4) C.2.2.2.2.2.1 M.1 (enc_D E h) hS (a - 1) (b - 1) 1 1 (ty := .long) hea heb rfl rfl rfl hk.2.1.1 hk.2.1.2.1 hk.2.1.2.2 hk.2.2.1 hk.2.2.2 (fun _ _ => rfl) hfr hlo hd (fun H1 locs1 hP hD hS1 => ?_)
    rw [key] at hP
    exact kk _ hg r h' e H1 locs1 ls hz ⟨hP, M.2⟩ hS1 hls
  · have hg : cpJ h a i b j k = none := by unfold cpJ; rw [if_neg hk]
    rw [hg] at e; cases e
end AC
end
section
set_option maxRecDepth 100000 in
theorem clX0 : ClOK 0 RX0 TX0 6 tyX0 := ⟨rfl, by decide, by decide +kernel, tyX0_ok, nmX0, rfl, by decide +kernel⟩
set_option maxRecDepth 100000 in
theorem clX1 : ClOK 1 RX1 TX1 3 tyX1 := ⟨rfl, by decide, by decide +kernel, tyX1_ok, nmX1, rfl, by decide +kernel⟩
set_option maxRecDepth 100000 in
theorem clX2 : ClOK 2 RX2 TX2 4 tyX2 := ⟨rfl, by decide, by decide +kernel, tyX2_ok, nmX2, rfl, by decide +kernel⟩
set_option maxRecDepth 100000 in
theorem clX3 : ClOK 3 RX3 TX3 6 tyX3 := ⟨rfl, by decide, by decide +kernel, tyX3_ok, nmX3, rfl, by decide +kernel⟩
set_option maxRecDepth 100000 in
theorem clX4 : ClOK 4 RX4 TX4 2 tyX4 := ⟨rfl, by decide, by decide +kernel, tyX4_ok, nmX4, rfl, by decide +kernel⟩
set_option maxRecDepth 100000 in
theorem clX5 : ClOK 5 RX5 TX5 6 tyX5 := ⟨rfl, by decide, by decide +kernel, tyX5_ok, nmX5, rfl, by decide +kernel⟩
set_option maxRecDepth 100000 in
theorem clX6 : ClOK 6 RX6 TX6 4 tyX6 := ⟨rfl, by decide, by decide +kernel, tyX6_ok, nmX6, rfl, by decide +kernel⟩
set_option maxRecDepth 100000 in
theorem clX7 : ClOK 7 RX7 TX7 3 tyX7 := ⟨rfl, by decide, by decide +kernel, tyX7_ok, nmX7, rfl, by decide +kernel⟩
set_option maxRecDepth 100000 in
theorem clX8 : ClOK 8 RX8 TX8 2 tyX8 := ⟨rfl, by decide, by decide +kernel, tyX8_ok, nmX8, rfl, by decide +kernel⟩
set_option maxRecDepth 100000 in
theorem clX9 : ClOK 9 RX9 TX9 9 tyX9 := ⟨rfl, by decide, by decide +kernel, tyX9_ok, nmX9, rfl, by decide +kernel⟩
set_option maxRecDepth 100000 in
theorem clX10 : ClOK 10 RX10 TX10 39 tyX10 := ⟨rfl, by decide, by decide +kernel, tyX10_ok, nmX10, rfl, by decide +kernel⟩
set_option maxRecDepth 100000 in
theorem fl_X9_12 : FL RX9 12 9 0 2 := ⟨RX9, TX9, 9, tyX9, clX9, by decide, rfl, wa 228 rfl rfl⟩
set_option maxRecDepth 100000 in
theorem ff_X9_12 : FF RX9 12 9 0 2 (.object "TwoLetterForms$State") := ⟨RX9, TX9, 9, tyX9, clX9, by decide, rfl, wa 228 rfl rfl, rfl, rfl, rfl⟩
set_option maxRecDepth 100000 in
theorem fl_X9_18 : FL RX9 18 9 1 2 := ⟨RX9, TX9, 9, tyX9, clX9, by decide, rfl, wa 229 rfl rfl⟩
set_option maxRecDepth 100000 in
theorem ff_X9_18 : FF RX9 18 9 1 2 (.object "TwoLetterForms$State") := ⟨RX9, TX9, 9, tyX9, clX9, by decide, rfl, wa 229 rfl rfl, rfl, rfl, rfl⟩
set_option maxRecDepth 100000 in
theorem fl_X9_21 : FL RX9 21 9 2 0 := ⟨RX9, TX9, 9, tyX9, clX9, by decide, rfl, wa 230 rfl rfl⟩
set_option maxRecDepth 100000 in
theorem fw_X9_21 : FW RX9 21 9 2 0 (.boolean) := ⟨RX9, TX9, 9, tyX9, clX9, by decide, rfl, wa 230 rfl rfl, rfl, rfl⟩
set_option maxRecDepth 100000 in
theorem fl_X9_28 : FL RX9 28 9 3 2 := ⟨RX9, TX9, 9, tyX9, clX9, by decide, rfl, wa 231 rfl rfl⟩
set_option maxRecDepth 100000 in
theorem ff_X9_28 : FF RX9 28 9 3 2 (.object "TwoLetterForms$Equation") := ⟨RX9, TX9, 9, tyX9, clX9, by decide, rfl, wa 231 rfl rfl, rfl, rfl, rfl⟩
set_option maxRecDepth 100000 in
theorem fl_X9_35 : FL RX9 35 9 4 2 := ⟨RX9, TX9, 9, tyX9, clX9, by decide, rfl, wa 232 rfl rfl⟩
set_option maxRecDepth 100000 in
theorem ff_X9_35 : FF RX9 35 9 4 2 (.object "TwoLetterForms$Answers") := ⟨RX9, TX9, 9, tyX9, clX9, by decide, rfl, wa 232 rfl rfl, rfl, rfl, rfl⟩
set_option maxRecDepth 100000 in
theorem fl_X9_42 : FL RX9 42 9 5 2 := ⟨RX9, TX9, 9, tyX9, clX9, by decide, rfl, wa 233 rfl rfl⟩
set_option maxRecDepth 100000 in
theorem ff_X9_42 : FF RX9 42 9 5 2 (.object "TwoLetterForms$Units") := ⟨RX9, TX9, 9, tyX9, clX9, by decide, rfl, wa 233 rfl rfl, rfl, rfl, rfl⟩
set_option maxRecDepth 100000 in
theorem fl_X9_49 : FL RX9 49 9 6 2 := ⟨RX9, TX9, 9, tyX9, clX9, by decide, rfl, wa 234 rfl rfl⟩
set_option maxRecDepth 100000 in
theorem ff_X9_49 : FF RX9 49 9 6 2 (.object "TwoLetterForms$Parts") := ⟨RX9, TX9, 9, tyX9, clX9, by decide, rfl, wa 234 rfl rfl, rfl, rfl, rfl⟩
set_option maxRecDepth 100000 in
theorem fl_X9_56 : FL RX9 56 9 7 2 := ⟨RX9, TX9, 9, tyX9, clX9, by decide, rfl, wa 235 rfl rfl⟩
set_option maxRecDepth 100000 in
theorem ff_X9_56 : FF RX9 56 9 7 2 (.object "TwoLetterForms$SetUp") := ⟨RX9, TX9, 9, tyX9, clX9, by decide, rfl, wa 235 rfl rfl, rfl, rfl, rfl⟩
set_option maxRecDepth 100000 in
theorem fl_X9_62 : FL RX9 62 9 8 2 := ⟨RX9, TX9, 9, tyX9, clX9, by decide, rfl, wa 236 rfl rfl⟩
set_option maxRecDepth 100000 in
theorem ff_X9_62 : FF RX9 62 9 8 2 (.array (.object "TwoLetterForms$Tape")) := ⟨RX9, TX9, 9, tyX9, clX9, by decide, rfl, wa 236 rfl rfl, rfl, rfl, rfl⟩
set_option maxRecDepth 100000 in
theorem fl_X9_71 : FL RX9 71 6 0 2 := ⟨RX6, TX6, 4, tyX6, clX6, by decide, rfl, wa 92 rfl rfl⟩
set_option maxRecDepth 100000 in
theorem fl_X9_74 : FL RX9 74 1 0 2 := ⟨RX1, TX1, 3, tyX1, clX1, by decide, rfl, wa 60 rfl rfl⟩
set_option maxRecDepth 100000 in
theorem fl_X9_78 : FL RX9 78 2 0 0 := ⟨RX2, TX2, 4, tyX2, clX2, by decide, rfl, wa 44 rfl rfl⟩
set_option maxRecDepth 100000 in
theorem fl_X9_100 : FL RX9 100 1 1 0 := ⟨RX1, TX1, 3, tyX1, clX1, by decide, rfl, wa 63 rfl rfl⟩
set_option maxRecDepth 100000 in
theorem fw_X9_100 : FW RX9 100 1 1 0 (.int) := ⟨RX1, TX1, 3, tyX1, clX1, by decide, rfl, wa 63 rfl rfl, rfl, rfl⟩
set_option maxRecDepth 100000 in
theorem fl_X9_103 : FL RX9 103 1 2 0 := ⟨RX1, TX1, 3, tyX1, clX1, by decide, rfl, wa 66 rfl rfl⟩
set_option maxRecDepth 100000 in
theorem fw_X9_103 : FW RX9 103 1 2 0 (.int) := ⟨RX1, TX1, 3, tyX1, clX1, by decide, rfl, wa 66 rfl rfl, rfl, rfl⟩
set_option maxRecDepth 100000 in
theorem fl_X9_122 : FL RX9 122 5 0 0 := ⟨RX5, TX5, 6, tyX5, clX5, by decide, rfl, wa 189 rfl rfl⟩
set_option maxRecDepth 100000 in
theorem fw_X9_122 : FW RX9 122 5 0 0 (.int) := ⟨RX5, TX5, 6, tyX5, clX5, by decide, rfl, wa 189 rfl rfl, rfl, rfl⟩
set_option maxRecDepth 100000 in
theorem fl_X9_129 : FL RX9 129 5 1 2 := ⟨RX5, TX5, 6, tyX5, clX5, by decide, rfl, wa 191 rfl rfl⟩
set_option maxRecDepth 100000 in
theorem fl_X9_133 : FL RX9 133 4 0 0 := ⟨RX4, TX4, 2, tyX4, clX4, by decide, rfl, wa 84 rfl rfl⟩
set_option maxRecDepth 100000 in
theorem fl_X9_143 : FL RX9 143 0 0 0 := ⟨RX0, TX0, 6, tyX0, clX0, by decide, rfl, wa 119 rfl rfl⟩
set_option maxRecDepth 100000 in
theorem fl_X9_148 : FL RX9 148 8 0 0 := ⟨RX8, TX8, 2, tyX8, clX8, by decide, rfl, wa 147 rfl rfl⟩
set_option maxRecDepth 100000 in
theorem fl_X9_152 : FL RX9 152 0 1 0 := ⟨RX0, TX0, 6, tyX0, clX0, by decide, rfl, wa 121 rfl rfl⟩
set_option maxRecDepth 100000 in
theorem fl_X9_159 : FL RX9 159 3 0 0 := ⟨RX3, TX3, 6, tyX3, clX3, by decide, rfl, wa 161 rfl rfl⟩
set_option maxRecDepth 100000 in
theorem fl_X9_213 : FL RX9 213 6 1 2 := ⟨RX6, TX6, 4, tyX6, clX6, by decide, rfl, wa 94 rfl rfl⟩
set_option maxRecDepth 100000 in
theorem fl_X9_244 : FL RX9 244 6 2 2 := ⟨RX6, TX6, 4, tyX6, clX6, by decide, rfl, wa 96 rfl rfl⟩
set_option maxRecDepth 100000 in
theorem fl_X9_256 : FL RX9 256 6 3 2 := ⟨RX6, TX6, 4, tyX6, clX6, by decide, rfl, wa 98 rfl rfl⟩
set_option maxRecDepth 100000 in
theorem fl_X9_273 : FL RX9 273 7 0 0 := ⟨RX7, TX7, 3, tyX7, clX7, by decide, rfl, wa 217 rfl rfl⟩
set_option maxRecDepth 100000 in
theorem fl_X9_292 : FL RX9 292 7 1 2 := ⟨RX7, TX7, 3, tyX7, clX7, by decide, rfl, wa 219 rfl rfl⟩
set_option maxRecDepth 100000 in
theorem fl_X0_9 : FL RX0 9 0 0 0 := ⟨RX0, TX0, 6, tyX0, clX0, by decide, rfl, wa 118 rfl rfl⟩
set_option maxRecDepth 100000 in
theorem fw_X0_9 : FW RX0 9 0 0 0 (.int) := ⟨RX0, TX0, 6, tyX0, clX0, by decide, rfl, wa 118 rfl rfl, rfl, rfl⟩
set_option maxRecDepth 100000 in
theorem fl_X0_15 : FL RX0 15 0 1 0 := ⟨RX0, TX0, 6, tyX0, clX0, by decide, rfl, wa 120 rfl rfl⟩
set_option maxRecDepth 100000 in
theorem fw_X0_15 : FW RX0 15 0 1 0 (.int) := ⟨RX0, TX0, 6, tyX0, clX0, by decide, rfl, wa 120 rfl rfl, rfl, rfl⟩
set_option maxRecDepth 100000 in
theorem fl_X0_18 : FL RX0 18 0 2 0 := ⟨RX0, TX0, 6, tyX0, clX0, by decide, rfl, wa 122 rfl rfl⟩
set_option maxRecDepth 100000 in
theorem fw_X0_18 : FW RX0 18 0 2 0 (.boolean) := ⟨RX0, TX0, 6, tyX0, clX0, by decide, rfl, wa 122 rfl rfl, rfl, rfl⟩
set_option maxRecDepth 100000 in
theorem fl_X0_22 : FL RX0 22 0 3 0 := ⟨RX0, TX0, 6, tyX0, clX0, by decide, rfl, wa 123 rfl rfl⟩
set_option maxRecDepth 100000 in
theorem fw_X0_22 : FW RX0 22 0 3 0 (.boolean) := ⟨RX0, TX0, 6, tyX0, clX0, by decide, rfl, wa 123 rfl rfl, rfl, rfl⟩
set_option maxRecDepth 100000 in
theorem fl_X0_28 : FL RX0 28 0 4 2 := ⟨RX0, TX0, 6, tyX0, clX0, by decide, rfl, wa 124 rfl rfl⟩
set_option maxRecDepth 100000 in
theorem ff_X0_28 : FF RX0 28 0 4 2 (.object "TwoLetterForms$Equation") := ⟨RX0, TX0, 6, tyX0, clX0, by decide, rfl, wa 124 rfl rfl, rfl, rfl, rfl⟩
set_option maxRecDepth 100000 in
theorem fl_X0_32 : FL RX0 32 0 5 2 := ⟨RX0, TX0, 6, tyX0, clX0, by decide, rfl, wa 125 rfl rfl⟩
set_option maxRecDepth 100000 in
theorem ff_X0_32 : FF RX0 32 0 5 2 (.array .int) := ⟨RX0, TX0, 6, tyX0, clX0, by decide, rfl, wa 125 rfl rfl, rfl, rfl, rfl⟩
set_option maxRecDepth 100000 in
theorem fl_X0_50 : FL RX0 50 1 2 0 := ⟨RX1, TX1, 3, tyX1, clX1, by decide, rfl, wa 65 rfl rfl⟩
set_option maxRecDepth 100000 in
theorem fl_X0_65 : FL RX0 65 1 0 2 := ⟨RX1, TX1, 3, tyX1, clX1, by decide, rfl, wa 61 rfl rfl⟩
set_option maxRecDepth 100000 in
theorem fl_X0_89 : FL RX0 89 8 0 0 := ⟨RX8, TX8, 2, tyX8, clX8, by decide, rfl, wa 146 rfl rfl⟩
set_option maxRecDepth 100000 in
theorem fl_X1_12 : FL RX1 12 1 0 2 := ⟨RX1, TX1, 3, tyX1, clX1, by decide, rfl, wa 59 rfl rfl⟩
set_option maxRecDepth 100000 in
theorem ff_X1_12 : FF RX1 12 1 0 2 (.object "TwoLetterForms$Form") := ⟨RX1, TX1, 3, tyX1, clX1, by decide, rfl, wa 59 rfl rfl, rfl, rfl, rfl⟩
set_option maxRecDepth 100000 in
theorem fl_X1_18 : FL RX1 18 1 1 0 := ⟨RX1, TX1, 3, tyX1, clX1, by decide, rfl, wa 62 rfl rfl⟩
set_option maxRecDepth 100000 in
theorem fw_X1_18 : FW RX1 18 1 1 0 (.int) := ⟨RX1, TX1, 3, tyX1, clX1, by decide, rfl, wa 62 rfl rfl, rfl, rfl⟩
set_option maxRecDepth 100000 in
theorem fl_X1_22 : FL RX1 22 1 2 0 := ⟨RX1, TX1, 3, tyX1, clX1, by decide, rfl, wa 64 rfl rfl⟩
set_option maxRecDepth 100000 in
theorem fw_X1_22 : FW RX1 22 1 2 0 (.int) := ⟨RX1, TX1, 3, tyX1, clX1, by decide, rfl, wa 64 rfl rfl, rfl, rfl⟩
set_option maxRecDepth 100000 in
theorem fl_X2_9 : FL RX2 9 2 0 0 := ⟨RX2, TX2, 4, tyX2, clX2, by decide, rfl, wa 42 rfl rfl⟩
set_option maxRecDepth 100000 in
theorem fw_X2_9 : FW RX2 9 2 0 0 (.int) := ⟨RX2, TX2, 4, tyX2, clX2, by decide, rfl, wa 42 rfl rfl, rfl, rfl⟩
set_option maxRecDepth 100000 in
theorem fl_X2_15 : FL RX2 15 2 1 2 := ⟨RX2, TX2, 4, tyX2, clX2, by decide, rfl, wa 45 rfl rfl⟩
set_option maxRecDepth 100000 in
theorem ff_X2_15 : FF RX2 15 2 1 2 (.array .int) := ⟨RX2, TX2, 4, tyX2, clX2, by decide, rfl, wa 45 rfl rfl, rfl, rfl, rfl⟩
set_option maxRecDepth 100000 in
theorem fl_X2_19 : FL RX2 19 2 2 2 := ⟨RX2, TX2, 4, tyX2, clX2, by decide, rfl, wa 46 rfl rfl⟩
set_option maxRecDepth 100000 in
theorem ff_X2_19 : FF RX2 19 2 2 2 (.array .long) := ⟨RX2, TX2, 4, tyX2, clX2, by decide, rfl, wa 46 rfl rfl, rfl, rfl, rfl⟩
set_option maxRecDepth 100000 in
theorem fl_X2_23 : FL RX2 23 2 3 2 := ⟨RX2, TX2, 4, tyX2, clX2, by decide, rfl, wa 47 rfl rfl⟩
set_option maxRecDepth 100000 in
theorem ff_X2_23 : FF RX2 23 2 3 2 (.array .long) := ⟨RX2, TX2, 4, tyX2, clX2, by decide, rfl, wa 47 rfl rfl, rfl, rfl, rfl⟩
set_option maxRecDepth 100000 in
theorem fl_X3_9 : FL RX3 9 3 0 0 := ⟨RX3, TX3, 6, tyX3, clX3, by decide, rfl, wa 160 rfl rfl⟩
set_option maxRecDepth 100000 in
theorem fw_X3_9 : FW RX3 9 3 0 0 (.int) := ⟨RX3, TX3, 6, tyX3, clX3, by decide, rfl, wa 160 rfl rfl, rfl, rfl⟩
set_option maxRecDepth 100000 in
theorem fl_X3_15 : FL RX3 15 3 1 0 := ⟨RX3, TX3, 6, tyX3, clX3, by decide, rfl, wa 162 rfl rfl⟩
set_option maxRecDepth 100000 in
theorem fw_X3_15 : FW RX3 15 3 1 0 (.int) := ⟨RX3, TX3, 6, tyX3, clX3, by decide, rfl, wa 162 rfl rfl, rfl, rfl⟩
set_option maxRecDepth 100000 in
theorem fl_X3_18 : FL RX3 18 3 2 2 := ⟨RX3, TX3, 6, tyX3, clX3, by decide, rfl, wa 163 rfl rfl⟩
set_option maxRecDepth 100000 in
theorem ff_X3_18 : FF RX3 18 3 2 2 (.array .long) := ⟨RX3, TX3, 6, tyX3, clX3, by decide, rfl, wa 163 rfl rfl, rfl, rfl, rfl⟩
set_option maxRecDepth 100000 in
theorem fl_X3_22 : FL RX3 22 3 3 2 := ⟨RX3, TX3, 6, tyX3, clX3, by decide, rfl, wa 164 rfl rfl⟩
set_option maxRecDepth 100000 in
theorem ff_X3_22 : FF RX3 22 3 3 2 (.array .int) := ⟨RX3, TX3, 6, tyX3, clX3, by decide, rfl, wa 164 rfl rfl, rfl, rfl, rfl⟩
set_option maxRecDepth 100000 in
theorem fl_X3_26 : FL RX3 26 3 4 2 := ⟨RX3, TX3, 6, tyX3, clX3, by decide, rfl, wa 165 rfl rfl⟩
set_option maxRecDepth 100000 in
theorem ff_X3_26 : FF RX3 26 3 4 2 (.array .long) := ⟨RX3, TX3, 6, tyX3, clX3, by decide, rfl, wa 165 rfl rfl, rfl, rfl, rfl⟩
set_option maxRecDepth 100000 in
theorem fl_X3_29 : FL RX3 29 3 5 2 := ⟨RX3, TX3, 6, tyX3, clX3, by decide, rfl, wa 166 rfl rfl⟩
set_option maxRecDepth 100000 in
theorem ff_X3_29 : FF RX3 29 3 5 2 (.array .long) := ⟨RX3, TX3, 6, tyX3, clX3, by decide, rfl, wa 166 rfl rfl, rfl, rfl, rfl⟩
set_option maxRecDepth 100000 in
theorem fl_X3_32 : FL RX3 32 2 0 0 := ⟨RX2, TX2, 4, tyX2, clX2, by decide, rfl, wa 43 rfl rfl⟩
set_option maxRecDepth 100000 in
theorem fl_X4_9 : FL RX4 9 4 0 0 := ⟨RX4, TX4, 2, tyX4, clX4, by decide, rfl, wa 83 rfl rfl⟩
set_option maxRecDepth 100000 in
theorem fw_X4_9 : FW RX4 9 4 0 0 (.int) := ⟨RX4, TX4, 2, tyX4, clX4, by decide, rfl, wa 83 rfl rfl, rfl, rfl⟩
set_option maxRecDepth 100000 in
theorem fl_X4_21 : FL RX4 21 4 1 2 := ⟨RX4, TX4, 2, tyX4, clX4, by decide, rfl, wa 85 rfl rfl⟩
set_option maxRecDepth 100000 in
theorem ff_X4_21 : FF RX4 21 4 1 2 (.array .int) := ⟨RX4, TX4, 2, tyX4, clX4, by decide, rfl, wa 85 rfl rfl, rfl, rfl, rfl⟩
set_option maxRecDepth 100000 in
theorem fl_X5_7 : FL RX5 7 5 0 0 := ⟨RX5, TX5, 6, tyX5, clX5, by decide, rfl, wa 188 rfl rfl⟩
set_option maxRecDepth 100000 in
theorem fw_X5_7 : FW RX5 7 5 0 0 (.int) := ⟨RX5, TX5, 6, tyX5, clX5, by decide, rfl, wa 188 rfl rfl, rfl, rfl⟩
set_option maxRecDepth 100000 in
theorem fl_X5_18 : FL RX5 18 5 1 2 := ⟨RX5, TX5, 6, tyX5, clX5, by decide, rfl, wa 190 rfl rfl⟩
set_option maxRecDepth 100000 in
theorem ff_X5_18 : FF RX5 18 5 1 2 (.object "TwoLetterForms$Rows") := ⟨RX5, TX5, 6, tyX5, clX5, by decide, rfl, wa 190 rfl rfl, rfl, rfl, rfl⟩
set_option maxRecDepth 100000 in
theorem fl_X5_22 : FL RX5 22 5 2 2 := ⟨RX5, TX5, 6, tyX5, clX5, by decide, rfl, wa 192 rfl rfl⟩
set_option maxRecDepth 100000 in
theorem ff_X5_22 : FF RX5 22 5 2 2 (.array .int) := ⟨RX5, TX5, 6, tyX5, clX5, by decide, rfl, wa 192 rfl rfl, rfl, rfl, rfl⟩
set_option maxRecDepth 100000 in
theorem fl_X5_26 : FL RX5 26 5 3 0 := ⟨RX5, TX5, 6, tyX5, clX5, by decide, rfl, wa 193 rfl rfl⟩
set_option maxRecDepth 100000 in
theorem fw_X5_26 : FW RX5 26 5 3 0 (.int) := ⟨RX5, TX5, 6, tyX5, clX5, by decide, rfl, wa 193 rfl rfl, rfl, rfl⟩
set_option maxRecDepth 100000 in
theorem fl_X5_29 : FL RX5 29 5 4 0 := ⟨RX5, TX5, 6, tyX5, clX5, by decide, rfl, wa 194 rfl rfl⟩
set_option maxRecDepth 100000 in
theorem fw_X5_29 : FW RX5 29 5 4 0 (.int) := ⟨RX5, TX5, 6, tyX5, clX5, by decide, rfl, wa 194 rfl rfl, rfl, rfl⟩
set_option maxRecDepth 100000 in
theorem fl_X5_32 : FL RX5 32 5 5 0 := ⟨RX5, TX5, 6, tyX5, clX5, by decide, rfl, wa 195 rfl rfl⟩
set_option maxRecDepth 100000 in
theorem fw_X5_32 : FW RX5 32 5 5 0 (.int) := ⟨RX5, TX5, 6, tyX5, clX5, by decide, rfl, wa 195 rfl rfl, rfl, rfl⟩
set_option maxRecDepth 100000 in
theorem fl_X6_12 : FL RX6 12 6 0 2 := ⟨RX6, TX6, 4, tyX6, clX6, by decide, rfl, wa 91 rfl rfl⟩
set_option maxRecDepth 100000 in
theorem ff_X6_12 : FF RX6 12 6 0 2 (.object "TwoLetterForms$Equation") := ⟨RX6, TX6, 4, tyX6, clX6, by decide, rfl, wa 91 rfl rfl, rfl, rfl, rfl⟩
set_option maxRecDepth 100000 in
theorem fl_X6_23 : FL RX6 23 6 1 2 := ⟨RX6, TX6, 4, tyX6, clX6, by decide, rfl, wa 93 rfl rfl⟩
set_option maxRecDepth 100000 in
theorem ff_X6_23 : FF RX6 23 6 1 2 (.object "TwoLetterForms$Rows") := ⟨RX6, TX6, 4, tyX6, clX6, by decide, rfl, wa 93 rfl rfl, rfl, rfl, rfl⟩
set_option maxRecDepth 100000 in
theorem fl_X6_27 : FL RX6 27 6 2 2 := ⟨RX6, TX6, 4, tyX6, clX6, by decide, rfl, wa 95 rfl rfl⟩
set_option maxRecDepth 100000 in
theorem ff_X6_27 : FF RX6 27 6 2 2 (.object "TwoLetterForms$Rows") := ⟨RX6, TX6, 4, tyX6, clX6, by decide, rfl, wa 95 rfl rfl, rfl, rfl, rfl⟩
set_option maxRecDepth 100000 in
theorem fl_X6_30 : FL RX6 30 6 3 2 := ⟨RX6, TX6, 4, tyX6, clX6, by decide, rfl, wa 97 rfl rfl⟩
set_option maxRecDepth 100000 in
theorem ff_X6_30 : FF RX6 30 6 3 2 (.object "TwoLetterForms$Rows") := ⟨RX6, TX6, 4, tyX6, clX6, by decide, rfl, wa 97 rfl rfl, rfl, rfl, rfl⟩
set_option maxRecDepth 100000 in
theorem fl_X7_9 : FL RX7 9 7 0 0 := ⟨RX7, TX7, 3, tyX7, clX7, by decide, rfl, wa 216 rfl rfl⟩
set_option maxRecDepth 100000 in
theorem fw_X7_9 : FW RX7 9 7 0 0 (.int) := ⟨RX7, TX7, 3, tyX7, clX7, by decide, rfl, wa 216 rfl rfl, rfl, rfl⟩
set_option maxRecDepth 100000 in
theorem fl_X7_15 : FL RX7 15 7 1 2 := ⟨RX7, TX7, 3, tyX7, clX7, by decide, rfl, wa 218 rfl rfl⟩
set_option maxRecDepth 100000 in
theorem ff_X7_15 : FF RX7 15 7 1 2 (.array .long) := ⟨RX7, TX7, 3, tyX7, clX7, by decide, rfl, wa 218 rfl rfl, rfl, rfl, rfl⟩
set_option maxRecDepth 100000 in
theorem fl_X7_19 : FL RX7 19 7 2 0 := ⟨RX7, TX7, 3, tyX7, clX7, by decide, rfl, wa 220 rfl rfl⟩
set_option maxRecDepth 100000 in
theorem fw_X7_19 : FW RX7 19 7 2 0 (.int) := ⟨RX7, TX7, 3, tyX7, clX7, by decide, rfl, wa 220 rfl rfl, rfl, rfl⟩
set_option maxRecDepth 100000 in
theorem fl_X8_7 : FL RX8 7 8 0 0 := ⟨RX8, TX8, 2, tyX8, clX8, by decide, rfl, wa 145 rfl rfl⟩
set_option maxRecDepth 100000 in
theorem fw_X8_7 : FW RX8 7 8 0 0 (.int) := ⟨RX8, TX8, 2, tyX8, clX8, by decide, rfl, wa 145 rfl rfl, rfl, rfl⟩
set_option maxRecDepth 100000 in
theorem fl_X8_13 : FL RX8 13 8 1 2 := ⟨RX8, TX8, 2, tyX8, clX8, by decide, rfl, wa 148 rfl rfl⟩
set_option maxRecDepth 100000 in
theorem ff_X8_13 : FF RX8 13 8 1 2 (.array .int) := ⟨RX8, TX8, 2, tyX8, clX8, by decide, rfl, wa 148 rfl rfl, rfl, rfl, rfl⟩
set_option maxRecDepth 100000 in
theorem fl_X10_9 : FL RX10 9 10 0 0 := ⟨RX10, TX10, 39, tyX10, clX10, by decide, rfl, wa 816 rfl rfl⟩
set_option maxRecDepth 100000 in
theorem fw_X10_9 : FW RX10 9 10 0 0 (.int) := ⟨RX10, TX10, 39, tyX10, clX10, by decide, rfl, wa 816 rfl rfl, rfl, rfl⟩
set_option maxRecDepth 100000 in
theorem fl_X10_15 : FL RX10 15 10 1 2 := ⟨RX10, TX10, 39, tyX10, clX10, by decide, rfl, wa 817 rfl rfl⟩
set_option maxRecDepth 100000 in
theorem ff_X10_15 : FF RX10 15 10 1 2 (.array .long) := ⟨RX10, TX10, 39, tyX10, clX10, by decide, rfl, wa 817 rfl rfl, rfl, rfl, rfl⟩
set_option maxRecDepth 100000 in
theorem fl_X10_19 : FL RX10 19 10 2 0 := ⟨RX10, TX10, 39, tyX10, clX10, by decide, rfl, wa 818 rfl rfl⟩
set_option maxRecDepth 100000 in
theorem fw_X10_19 : FW RX10 19 10 2 0 (.int) := ⟨RX10, TX10, 39, tyX10, clX10, by decide, rfl, wa 818 rfl rfl, rfl, rfl⟩
set_option maxRecDepth 100000 in
theorem fl_X10_22 : FL RX10 22 10 3 0 := ⟨RX10, TX10, 39, tyX10, clX10, by decide, rfl, wa 819 rfl rfl⟩
set_option maxRecDepth 100000 in
theorem fw_X10_22 : FW RX10 22 10 3 0 (.int) := ⟨RX10, TX10, 39, tyX10, clX10, by decide, rfl, wa 819 rfl rfl, rfl, rfl⟩
set_option maxRecDepth 100000 in
theorem fl_X10_25 : FL RX10 25 10 4 2 := ⟨RX10, TX10, 39, tyX10, clX10, by decide, rfl, wa 820 rfl rfl⟩
set_option maxRecDepth 100000 in
theorem ff_X10_25 : FF RX10 25 10 4 2 (.array .int) := ⟨RX10, TX10, 39, tyX10, clX10, by decide, rfl, wa 820 rfl rfl, rfl, rfl, rfl⟩
set_option maxRecDepth 100000 in
theorem fl_X10_29 : FL RX10 29 10 6 2 := ⟨RX10, TX10, 39, tyX10, clX10, by decide, rfl, wa 822 rfl rfl⟩
set_option maxRecDepth 100000 in
theorem ff_X10_29 : FF RX10 29 10 6 2 (.array .int) := ⟨RX10, TX10, 39, tyX10, clX10, by decide, rfl, wa 822 rfl rfl, rfl, rfl, rfl⟩
set_option maxRecDepth 100000 in
theorem fl_X10_32 : FL RX10 32 10 8 2 := ⟨RX10, TX10, 39, tyX10, clX10, by decide, rfl, wa 824 rfl rfl⟩
set_option maxRecDepth 100000 in
theorem ff_X10_32 : FF RX10 32 10 8 2 (.array .int) := ⟨RX10, TX10, 39, tyX10, clX10, by decide, rfl, wa 824 rfl rfl, rfl, rfl, rfl⟩
set_option maxRecDepth 100000 in
theorem fl_X10_35 : FL RX10 35 10 10 2 := ⟨RX10, TX10, 39, tyX10, clX10, by decide, rfl, wa 826 rfl rfl⟩
set_option maxRecDepth 100000 in
theorem ff_X10_35 : FF RX10 35 10 10 2 (.array .long) := ⟨RX10, TX10, 39, tyX10, clX10, by decide, rfl, wa 826 rfl rfl, rfl, rfl, rfl⟩
set_option maxRecDepth 100000 in
theorem fl_X10_38 : FL RX10 38 10 11 2 := ⟨RX10, TX10, 39, tyX10, clX10, by decide, rfl, wa 827 rfl rfl⟩
set_option maxRecDepth 100000 in
theorem ff_X10_38 : FF RX10 38 10 11 2 (.array .long) := ⟨RX10, TX10, 39, tyX10, clX10, by decide, rfl, wa 827 rfl rfl, rfl, rfl, rfl⟩
set_option maxRecDepth 100000 in
theorem fl_X10_41 : FL RX10 41 10 12 2 := ⟨RX10, TX10, 39, tyX10, clX10, by decide, rfl, wa 828 rfl rfl⟩
set_option maxRecDepth 100000 in
theorem ff_X10_41 : FF RX10 41 10 12 2 (.array .int) := ⟨RX10, TX10, 39, tyX10, clX10, by decide, rfl, wa 828 rfl rfl, rfl, rfl, rfl⟩
set_option maxRecDepth 100000 in
theorem fl_X10_44 : FL RX10 44 10 14 2 := ⟨RX10, TX10, 39, tyX10, clX10, by decide, rfl, wa 830 rfl rfl⟩
set_option maxRecDepth 100000 in
theorem ff_X10_44 : FF RX10 44 10 14 2 (.array .int) := ⟨RX10, TX10, 39, tyX10, clX10, by decide, rfl, wa 830 rfl rfl, rfl, rfl, rfl⟩
set_option maxRecDepth 100000 in
theorem fl_X10_47 : FL RX10 47 10 16 2 := ⟨RX10, TX10, 39, tyX10, clX10, by decide, rfl, wa 832 rfl rfl⟩
set_option maxRecDepth 100000 in
theorem ff_X10_47 : FF RX10 47 10 16 2 (.array .int) := ⟨RX10, TX10, 39, tyX10, clX10, by decide, rfl, wa 832 rfl rfl, rfl, rfl, rfl⟩
set_option maxRecDepth 100000 in
theorem fl_X10_50 : FL RX10 50 10 17 2 := ⟨RX10, TX10, 39, tyX10, clX10, by decide, rfl, wa 833 rfl rfl⟩
set_option maxRecDepth 100000 in
theorem ff_X10_50 : FF RX10 50 10 17 2 (.array .int) := ⟨RX10, TX10, 39, tyX10, clX10, by decide, rfl, wa 833 rfl rfl, rfl, rfl, rfl⟩
set_option maxRecDepth 100000 in
theorem fl_X10_53 : FL RX10 53 10 18 2 := ⟨RX10, TX10, 39, tyX10, clX10, by decide, rfl, wa 834 rfl rfl⟩
set_option maxRecDepth 100000 in
theorem ff_X10_53 : FF RX10 53 10 18 2 (.array .int) := ⟨RX10, TX10, 39, tyX10, clX10, by decide, rfl, wa 834 rfl rfl, rfl, rfl, rfl⟩
set_option maxRecDepth 100000 in
theorem fl_X10_56 : FL RX10 56 10 20 2 := ⟨RX10, TX10, 39, tyX10, clX10, by decide, rfl, wa 836 rfl rfl⟩
set_option maxRecDepth 100000 in
theorem ff_X10_56 : FF RX10 56 10 20 2 (.array .int) := ⟨RX10, TX10, 39, tyX10, clX10, by decide, rfl, wa 836 rfl rfl, rfl, rfl, rfl⟩
set_option maxRecDepth 100000 in
theorem fl_X10_59 : FL RX10 59 10 21 2 := ⟨RX10, TX10, 39, tyX10, clX10, by decide, rfl, wa 837 rfl rfl⟩
set_option maxRecDepth 100000 in
theorem ff_X10_59 : FF RX10 59 10 21 2 (.array .boolean) := ⟨RX10, TX10, 39, tyX10, clX10, by decide, rfl, wa 837 rfl rfl, rfl, rfl, rfl⟩
set_option maxRecDepth 100000 in
theorem fl_X10_63 : FL RX10 63 10 22 2 := ⟨RX10, TX10, 39, tyX10, clX10, by decide, rfl, wa 838 rfl rfl⟩
set_option maxRecDepth 100000 in
theorem ff_X10_63 : FF RX10 63 10 22 2 (.array .long) := ⟨RX10, TX10, 39, tyX10, clX10, by decide, rfl, wa 838 rfl rfl, rfl, rfl, rfl⟩
set_option maxRecDepth 100000 in
theorem fl_X10_66 : FL RX10 66 10 23 2 := ⟨RX10, TX10, 39, tyX10, clX10, by decide, rfl, wa 839 rfl rfl⟩
set_option maxRecDepth 100000 in
theorem ff_X10_66 : FF RX10 66 10 23 2 (.array .long) := ⟨RX10, TX10, 39, tyX10, clX10, by decide, rfl, wa 839 rfl rfl, rfl, rfl, rfl⟩
set_option maxRecDepth 100000 in
theorem fl_X10_69 : FL RX10 69 10 24 2 := ⟨RX10, TX10, 39, tyX10, clX10, by decide, rfl, wa 840 rfl rfl⟩
set_option maxRecDepth 100000 in
theorem ff_X10_69 : FF RX10 69 10 24 2 (.array .int) := ⟨RX10, TX10, 39, tyX10, clX10, by decide, rfl, wa 840 rfl rfl, rfl, rfl, rfl⟩
set_option maxRecDepth 100000 in
theorem fl_X10_72 : FL RX10 72 10 28 2 := ⟨RX10, TX10, 39, tyX10, clX10, by decide, rfl, wa 844 rfl rfl⟩
set_option maxRecDepth 100000 in
theorem ff_X10_72 : FF RX10 72 10 28 2 (.array .int) := ⟨RX10, TX10, 39, tyX10, clX10, by decide, rfl, wa 844 rfl rfl, rfl, rfl, rfl⟩
set_option maxRecDepth 100000 in
theorem fl_X10_75 : FL RX10 75 10 31 2 := ⟨RX10, TX10, 39, tyX10, clX10, by decide, rfl, wa 847 rfl rfl⟩
set_option maxRecDepth 100000 in
theorem ff_X10_75 : FF RX10 75 10 31 2 (.array .int) := ⟨RX10, TX10, 39, tyX10, clX10, by decide, rfl, wa 847 rfl rfl, rfl, rfl, rfl⟩
set_option maxRecDepth 100000 in
theorem fl_X10_78 : FL RX10 78 10 32 2 := ⟨RX10, TX10, 39, tyX10, clX10, by decide, rfl, wa 848 rfl rfl⟩
set_option maxRecDepth 100000 in
theorem ff_X10_78 : FF RX10 78 10 32 2 (.array .long) := ⟨RX10, TX10, 39, tyX10, clX10, by decide, rfl, wa 848 rfl rfl, rfl, rfl, rfl⟩
set_option maxRecDepth 100000 in
theorem fl_X10_81 : FL RX10 81 10 33 2 := ⟨RX10, TX10, 39, tyX10, clX10, by decide, rfl, wa 849 rfl rfl⟩
set_option maxRecDepth 100000 in
theorem ff_X10_81 : FF RX10 81 10 33 2 (.array .int) := ⟨RX10, TX10, 39, tyX10, clX10, by decide, rfl, wa 849 rfl rfl, rfl, rfl, rfl⟩
set_option maxRecDepth 100000 in
theorem fl_X10_84 : FL RX10 84 10 34 2 := ⟨RX10, TX10, 39, tyX10, clX10, by decide, rfl, wa 850 rfl rfl⟩
set_option maxRecDepth 100000 in
theorem ff_X10_84 : FF RX10 84 10 34 2 (.array .int) := ⟨RX10, TX10, 39, tyX10, clX10, by decide, rfl, wa 850 rfl rfl, rfl, rfl, rfl⟩
set_option maxRecDepth 100000 in
theorem fl_X10_87 : FL RX10 87 10 35 2 := ⟨RX10, TX10, 39, tyX10, clX10, by decide, rfl, wa 851 rfl rfl⟩
set_option maxRecDepth 100000 in
theorem ff_X10_87 : FF RX10 87 10 35 2 (.array .long) := ⟨RX10, TX10, 39, tyX10, clX10, by decide, rfl, wa 851 rfl rfl, rfl, rfl, rfl⟩
set_option maxRecDepth 100000 in
theorem fl_X10_90 : FL RX10 90 10 37 2 := ⟨RX10, TX10, 39, tyX10, clX10, by decide, rfl, wa 853 rfl rfl⟩
set_option maxRecDepth 100000 in
theorem ff_X10_90 : FF RX10 90 10 37 2 (.array .long) := ⟨RX10, TX10, 39, tyX10, clX10, by decide, rfl, wa 853 rfl rfl, rfl, rfl, rfl⟩
set_option maxRecDepth 100000 in
theorem fl_X10_93 : FL RX10 93 10 38 2 := ⟨RX10, TX10, 39, tyX10, clX10, by decide, rfl, wa 854 rfl rfl⟩
set_option maxRecDepth 100000 in
theorem ff_X10_93 : FF RX10 93 10 38 2 (.array .int) := ⟨RX10, TX10, 39, tyX10, clX10, by decide, rfl, wa 854 rfl rfl, rfl, rfl, rfl⟩
set_option maxRecDepth 100000 in
theorem fl_X10_143 : FL RX10 143 10 13 0 := ⟨RX10, TX10, 39, tyX10, clX10, by decide, rfl, wa 829 rfl rfl⟩
set_option maxRecDepth 100000 in
theorem fw_X10_143 : FW RX10 143 10 13 0 (.int) := ⟨RX10, TX10, 39, tyX10, clX10, by decide, rfl, wa 829 rfl rfl, rfl, rfl⟩
set_option maxRecDepth 100000 in
theorem fl_X10_150 : FL RX10 150 10 15 0 := ⟨RX10, TX10, 39, tyX10, clX10, by decide, rfl, wa 831 rfl rfl⟩
set_option maxRecDepth 100000 in
theorem fw_X10_150 : FW RX10 150 10 15 0 (.int) := ⟨RX10, TX10, 39, tyX10, clX10, by decide, rfl, wa 831 rfl rfl, rfl, rfl⟩
set_option maxRecDepth 100000 in
theorem fl_X10_171 : FL RX10 171 10 19 0 := ⟨RX10, TX10, 39, tyX10, clX10, by decide, rfl, wa 835 rfl rfl⟩
set_option maxRecDepth 100000 in
theorem fw_X10_171 : FW RX10 171 10 19 0 (.int) := ⟨RX10, TX10, 39, tyX10, clX10, by decide, rfl, wa 835 rfl rfl, rfl, rfl⟩
set_option maxRecDepth 100000 in
theorem fl_X10_194 : FL RX10 194 10 25 0 := ⟨RX10, TX10, 39, tyX10, clX10, by decide, rfl, wa 841 rfl rfl⟩
set_option maxRecDepth 100000 in
theorem fw_X10_194 : FW RX10 194 10 25 0 (.int) := ⟨RX10, TX10, 39, tyX10, clX10, by decide, rfl, wa 841 rfl rfl, rfl, rfl⟩
set_option maxRecDepth 100000 in
theorem fl_X10_203 : FL RX10 203 10 26 1 := ⟨RX10, TX10, 39, tyX10, clX10, by decide, rfl, wa 842 rfl rfl⟩
set_option maxRecDepth 100000 in
theorem fw_X10_203 : FW RX10 203 10 26 1 (.long) := ⟨RX10, TX10, 39, tyX10, clX10, by decide, rfl, wa 842 rfl rfl, rfl, rfl⟩
set_option maxRecDepth 100000 in
theorem fl_X10_207 : FL RX10 207 10 27 1 := ⟨RX10, TX10, 39, tyX10, clX10, by decide, rfl, wa 843 rfl rfl⟩
set_option maxRecDepth 100000 in
theorem fw_X10_207 : FW RX10 207 10 27 1 (.long) := ⟨RX10, TX10, 39, tyX10, clX10, by decide, rfl, wa 843 rfl rfl, rfl, rfl⟩
set_option maxRecDepth 100000 in
theorem fl_X10_233 : FL RX10 233 10 29 0 := ⟨RX10, TX10, 39, tyX10, clX10, by decide, rfl, wa 845 rfl rfl⟩
set_option maxRecDepth 100000 in
theorem fw_X10_233 : FW RX10 233 10 29 0 (.int) := ⟨RX10, TX10, 39, tyX10, clX10, by decide, rfl, wa 845 rfl rfl, rfl, rfl⟩
set_option maxRecDepth 100000 in
theorem fl_X10_236 : FL RX10 236 10 30 0 := ⟨RX10, TX10, 39, tyX10, clX10, by decide, rfl, wa 846 rfl rfl⟩
set_option maxRecDepth 100000 in
theorem fw_X10_236 : FW RX10 236 10 30 0 (.int) := ⟨RX10, TX10, 39, tyX10, clX10, by decide, rfl, wa 846 rfl rfl, rfl, rfl⟩
set_option maxRecDepth 100000 in
theorem fl_X10_276 : FL RX10 276 10 5 0 := ⟨RX10, TX10, 39, tyX10, clX10, by decide, rfl, wa 821 rfl rfl⟩
set_option maxRecDepth 100000 in
theorem fw_X10_276 : FW RX10 276 10 5 0 (.int) := ⟨RX10, TX10, 39, tyX10, clX10, by decide, rfl, wa 821 rfl rfl, rfl, rfl⟩
set_option maxRecDepth 100000 in
theorem fl_X10_283 : FL RX10 283 10 7 0 := ⟨RX10, TX10, 39, tyX10, clX10, by decide, rfl, wa 823 rfl rfl⟩
set_option maxRecDepth 100000 in
theorem fw_X10_283 : FW RX10 283 10 7 0 (.int) := ⟨RX10, TX10, 39, tyX10, clX10, by decide, rfl, wa 823 rfl rfl, rfl, rfl⟩
set_option maxRecDepth 100000 in
theorem fl_X10_296 : FL RX10 296 10 9 0 := ⟨RX10, TX10, 39, tyX10, clX10, by decide, rfl, wa 825 rfl rfl⟩
set_option maxRecDepth 100000 in
theorem fw_X10_296 : FW RX10 296 10 9 0 (.int) := ⟨RX10, TX10, 39, tyX10, clX10, by decide, rfl, wa 825 rfl rfl, rfl, rfl⟩
set_option maxRecDepth 100000 in
theorem fl_X10_306 : FL RX10 306 10 36 0 := ⟨RX10, TX10, 39, tyX10, clX10, by decide, rfl, wa 852 rfl rfl⟩
set_option maxRecDepth 100000 in
theorem fw_X10_306 : FW RX10 306 10 36 0 (.boolean) := ⟨RX10, TX10, 39, tyX10, clX10, by decide, rfl, wa 852 rfl rfl, rfl, rfl⟩
set_option maxRecDepth 100000 in
theorem sl_X9_181 : Cond.fieldLink RX9 181 "TwoLetterForms" "PRIMES" "[I" ∈ WSA := wa 584 rfl rfl
set_option maxRecDepth 100000 in
theorem sl_X1_53 : Cond.fieldLinkNest RX1 53 "TwoLetterForms" "PRIMES" "[I" "TwoLetterForms" ∈ tables_1 := List.mem_of_getElem? (i := 619) rfl
set_option maxRecDepth 100000 in
theorem sl_X2_67 : Cond.fieldLink RX2 67 "TwoLetterForms$Form" "MOVE_TURNS" "[I" ∈ WSA := wa 307 rfl rfl
set_option maxRecDepth 100000 in
theorem ml_X9_3 : Cond.methodLink RX9 3 Lib.objectInit ∈ WSA := wa 21 rfl rfl
set_option maxRecDepth 100000 in
theorem ml_X9_11 : Cond.methodLinkNest RX9 11 yX6_init "TwoLetterForms" ∈ tables_1 := List.mem_of_getElem? (i := 26) rfl
set_option maxRecDepth 100000 in
theorem ml_X9_27 : Cond.methodLinkNest RX9 27 yX1_init "TwoLetterForms" ∈ tables_1 := List.mem_of_getElem? (i := 109) rfl
set_option maxRecDepth 100000 in
theorem ml_X9_34 : Cond.methodLinkNest RX9 34 yX0_init "TwoLetterForms" ∈ tables_1 := List.mem_of_getElem? (i := 112) rfl
set_option maxRecDepth 100000 in
theorem ml_X9_41 : Cond.methodLinkNest RX9 41 yX8_init "TwoLetterForms" ∈ tables_1 := List.mem_of_getElem? (i := 141) rfl
set_option maxRecDepth 100000 in
theorem ml_X9_48 : Cond.methodLinkNest RX9 48 yX3_init "TwoLetterForms" ∈ tables_1 := List.mem_of_getElem? (i := 156) rfl
set_option maxRecDepth 100000 in
theorem ml_X9_55 : Cond.methodLinkNest RX9 55 yX5_init "TwoLetterForms" ∈ tables_1 := List.mem_of_getElem? (i := 182) rfl
set_option maxRecDepth 100000 in
theorem ml_X9_66 : Cond.methodLinkNest RX9 66 yX7_init "TwoLetterForms" ∈ tables_1 := List.mem_of_getElem? (i := 212) rfl
set_option maxRecDepth 100000 in
theorem ml_X9_67 : Cond.methodLink RX9 67 yX9_between ∈ WSA := wa 260 rfl rfl
set_option maxRecDepth 100000 in
theorem ml_X9_84 : Cond.methodLink RX9 84 yX2_clear ∈ WSA := wa 263 rfl rfl
set_option maxRecDepth 100000 in
theorem ml_X9_88 : Cond.methodLink RX9 88 yX2_has ∈ WSA := wa 274 rfl rfl
set_option maxRecDepth 100000 in
theorem ml_X9_92 : Cond.methodLink RX9 92 yX2_get ∈ WSA := wa 278 rfl rfl
set_option maxRecDepth 100000 in
theorem ml_X9_96 : Cond.methodLink RX9 96 yX2_set ∈ WSA := wa 283 rfl rfl
set_option maxRecDepth 100000 in
theorem ml_X9_106 : Cond.methodLink RX9 106 yX2_isMove ∈ WSA := wa 299 rfl rfl
set_option maxRecDepth 100000 in
theorem ml_X9_109 : Cond.methodLink RX9 109 yX2_moveBy ∈ WSA := wa 302 rfl rfl
set_option maxRecDepth 100000 in
theorem ml_X9_112 : Cond.methodLink RX9 112 yX9_isTurn ∈ WSA := wa 329 rfl rfl
set_option maxRecDepth 100000 in
theorem ml_X9_115 : Cond.methodLink RX9 115 yX2_turnBy ∈ WSA := wa 332 rfl rfl
set_option maxRecDepth 100000 in
theorem ml_X9_119 : Cond.methodLink RX9 119 yX5_add ∈ WSA := wa 337 rfl rfl
set_option maxRecDepth 100000 in
theorem ml_X9_125 : Cond.methodLink RX9 125 yX5_findFault ∈ WSA := wa 345 rfl rfl
set_option maxRecDepth 100000 in
theorem ml_X9_136 : Cond.methodLink RX9 136 yX9_clauseAnswer ∈ WSA := wa 386 rfl rfl
set_option maxRecDepth 100000 in
theorem ml_X9_139 : Cond.methodLink RX9 139 yX9_answersNow ∈ WSA := wa 419 rfl rfl
set_option maxRecDepth 100000 in
theorem ml_X9_144 : Cond.methodLink RX9 144 yX9_unitsNow ∈ WSA := wa 468 rfl rfl
set_option maxRecDepth 100000 in
theorem ml_X9_149 : Cond.methodLink RX9 149 yX9_answersInFamilies ∈ WSA := wa 484 rfl rfl
set_option maxRecDepth 100000 in
theorem ml_X9_155 : Cond.methodLink RX9 155 yX9_partsNow ∈ WSA := wa 519 rfl rfl
set_option maxRecDepth 100000 in
theorem ml_X9_160 : Cond.methodLink RX9 160 yX9_convergentAnswers ∈ WSA := wa 550 rfl rfl
set_option maxRecDepth 100000 in
theorem ml_X9_165 : Cond.methodLink RX9 165 yX2_at ∈ WSA := wa 568 rfl rfl
set_option maxRecDepth 100000 in
theorem ml_X9_169 : Cond.methodLink RX9 169 yX0_cellOfAnswer ∈ WSA := wa 573 rfl rfl
set_option maxRecDepth 100000 in
theorem ml_X9_172 : Cond.methodLink RX9 172 yX0_xOf ∈ WSA := wa 577 rfl rfl
set_option maxRecDepth 100000 in
theorem ml_X9_175 : Cond.methodLink RX9 175 yX0_yOf ∈ WSA := wa 578 rfl rfl
set_option maxRecDepth 100000 in
theorem ml_X9_178 : Cond.methodLink RX9 178 yX0_labelAt ∈ WSA := wa 579 rfl rfl
set_option maxRecDepth 100000 in
theorem ml_X9_185 : Cond.methodLink RX9 185 yX2_remaindersBy ∈ WSA := wa 586 rfl rfl
set_option maxRecDepth 100000 in
theorem ml_X9_188 : Cond.methodLink RX9 188 yJ6_bitCount_0f7a4 ∈ WSA := wa 597 rfl rfl
set_option maxRecDepth 100000 in
theorem ml_X9_193 : Cond.methodLink RX9 193 yX1_isBarredBy ∈ WSA := wa 603 rfl rfl
set_option maxRecDepth 100000 in
theorem ml_X9_196 : Cond.methodLink RX9 196 yX1_firstBar ∈ WSA := wa 615 rfl rfl
set_option maxRecDepth 100000 in
theorem ml_X9_199 : Cond.methodLink RX9 199 yX8_get ∈ WSA := wa 625 rfl rfl
set_option maxRecDepth 100000 in
theorem ml_X9_202 : Cond.methodLink RX9 202 yX0_sizeOfFamily ∈ WSA := wa 630 rfl rfl
set_option maxRecDepth 100000 in
theorem ml_X9_205 : Cond.methodLink RX9 205 yX3_get ∈ WSA := wa 638 rfl rfl
set_option maxRecDepth 100000 in
theorem ml_X9_206 : Cond.methodLink RX9 206 yX3_above ∈ WSA := wa 554 rfl rfl
set_option maxRecDepth 100000 in
theorem ml_X9_210 : Cond.methodLink RX9 210 yX3_below ∈ WSA := wa 558 rfl rfl
set_option maxRecDepth 100000 in
theorem ml_X9_216 : Cond.methodLink RX9 216 yX4_empty ∈ WSA := wa 650 rfl rfl
set_option maxRecDepth 100000 in
theorem ml_X9_219 : Cond.methodLink RX9 219 yX4_add ∈ WSA := wa 651 rfl rfl
set_option maxRecDepth 100000 in
theorem ml_X9_222 : Cond.methodLink RX9 222 yX2_copy ∈ WSA := wa 656 rfl rfl
set_option maxRecDepth 100000 in
theorem ml_X9_226 : Cond.methodLink RX9 226 yX9_isAsSeen ∈ WSA := wa 657 rfl rfl
set_option maxRecDepth 100000 in
theorem ml_X9_230 : Cond.methodLink RX9 230 yX1_valuesAboveM ∈ WSA := wa 665 rfl rfl
set_option maxRecDepth 100000 in
theorem ml_X9_234 : Cond.methodLink RX9 234 yX1_twos ∈ WSA := wa 669 rfl rfl
set_option maxRecDepth 100000 in
theorem ml_X9_237 : Cond.methodLink RX9 237 yX9_lowest ∈ WSA := wa 674 rfl rfl
set_option maxRecDepth 100000 in
theorem ml_X9_241 : Cond.methodLink RX9 241 yX1_valuesTogether ∈ WSA := wa 687 rfl rfl
set_option maxRecDepth 100000 in
theorem ml_X9_247 : Cond.methodLink RX9 247 yX9_tryEvents ∈ WSA := wa 699 rfl rfl
set_option maxRecDepth 100000 in
theorem ml_X9_250 : Cond.methodLink RX9 250 yX1_howManyAnswers ∈ WSA := wa 718 rfl rfl
set_option maxRecDepth 100000 in
theorem ml_X9_253 : Cond.methodLink RX9 253 yX8_look ∈ WSA := wa 472 rfl rfl
set_option maxRecDepth 100000 in
theorem ml_X9_259 : Cond.methodLink RX9 259 yX4_first ∈ WSA := wa 402 rfl rfl
set_option maxRecDepth 100000 in
theorem ml_X9_262 : Cond.methodLink RX9 262 yX4_second ∈ WSA := wa 390 rfl rfl
set_option maxRecDepth 100000 in
theorem ml_X9_265 : Cond.methodLink RX9 265 yX9_tapeAt ∈ WSA := wa 734 rfl rfl
set_option maxRecDepth 100000 in
theorem ml_X9_269 : Cond.methodLink RX9 269 yX7_holdsNothing ∈ WSA := wa 738 rfl rfl
set_option maxRecDepth 100000 in
theorem ml_X9_276 : Cond.methodLink RX9 276 yX7_has ∈ WSA := wa 742 rfl rfl
set_option maxRecDepth 100000 in
theorem ml_X9_277 : Cond.methodLink RX9 277 yX7_get ∈ WSA := wa 746 rfl rfl
set_option maxRecDepth 100000 in
theorem ml_X9_279 : Cond.methodLink RX9 279 yX6_copy ∈ WSA := wa 755 rfl rfl
set_option maxRecDepth 100000 in
theorem ml_X9_282 : Cond.methodLink RX9 282 yX7_become ∈ WSA := wa 778 rfl rfl
set_option maxRecDepth 100000 in
theorem ml_X9_285 : Cond.methodLink RX9 285 yX7_set ∈ WSA := wa 789 rfl rfl
set_option maxRecDepth 100000 in
theorem ml_X9_288 : Cond.methodLink RX9 288 yX7_hasAll ∈ WSA := wa 805 rfl rfl
set_option maxRecDepth 100000 in
theorem ml_X9_296 : Cond.methodLink RX9 296 arraycopyName ∈ WSA := wa 809 rfl rfl
set_option maxRecDepth 100000 in
theorem ml_X9_302 : Cond.methodLink RX9 302 yJ9_abs_067f4 ∈ WSA := wa 677 rfl rfl
set_option maxRecDepth 100000 in
theorem ml_X9_308 : Cond.methodLink RX9 308 yX9_commonDivisor ∈ WSA := wa 680 rfl rfl
set_option maxRecDepth 100000 in
theorem ml_X9_311 : Cond.methodLink RX9 311 yX0_look ∈ WSA := wa 423 rfl rfl
set_option maxRecDepth 100000 in
theorem ml_X9_314 : Cond.methodLink RX9 314 yX0_findFamilies ∈ WSA := wa 488 rfl rfl
set_option maxRecDepth 100000 in
theorem ml_X9_318 : Cond.methodLink RX9 318 yX3_look ∈ WSA := wa 523 rfl rfl
set_option maxRecDepth 100000 in
theorem ml_X9_319 : Cond.methodLink RX9 319 yX1_isAnswer ∈ WSA := wa 562 rfl rfl
set_option maxRecDepth 100000 in
theorem ml_X9_323 : Cond.methodLink RX9 323 yX4_third ∈ WSA := wa 398 rfl rfl
set_option maxRecDepth 100000 in
theorem ml_X9_326 : Cond.methodLink RX9 326 yX9_degree ∈ WSA := wa 406 rfl rfl
set_option maxRecDepth 100000 in
theorem ml_X9_328 : Cond.methodLink RX9 328 yX9_number ∈ WSA := wa 407 rfl rfl
set_option maxRecDepth 100000 in
theorem ml_X9_331 : Cond.methodLink RX9 331 yX9_equal ∈ WSA := wa 408 rfl rfl
set_option maxRecDepth 100000 in
theorem ml_X9_334 : Cond.methodLink RX9 334 yX9_window ∈ WSA := wa 409 rfl rfl
set_option maxRecDepth 100000 in
theorem ml_X9_337 : Cond.methodLink RX9 337 yX9_move ∈ WSA := wa 410 rfl rfl
set_option maxRecDepth 100000 in
theorem ml_X9_340 : Cond.methodLink RX9 340 yX1_copy ∈ WSA := wa 703 rfl rfl
set_option maxRecDepth 100000 in
theorem ml_X9_342 : Cond.methodLink RX9 342 yX2_raise ∈ WSA := wa 704 rfl rfl
set_option maxRecDepth 100000 in
theorem ml_X9_345 : Cond.methodLink RX9 345 yX1_addToM ∈ WSA := wa 713 rfl rfl
set_option maxRecDepth 100000 in
theorem ml_X0_3 : Cond.methodLink RX0 3 Lib.objectInit ∈ WSA := wa 115 rfl rfl
set_option maxRecDepth 100000 in
theorem ml_X0_27 : Cond.methodLinkNest RX0 27 yX1_init "TwoLetterForms" ∈ tables_1 := List.mem_of_getElem? (i := 117) rfl
set_option maxRecDepth 100000 in
theorem ml_X0_36 : Cond.methodLink RX0 36 yX1_isLike ∈ WSA := wa 427 rfl rfl
set_option maxRecDepth 100000 in
theorem ml_X0_40 : Cond.methodLink RX0 40 yX1_copy ∈ WSA := wa 435 rfl rfl
set_option maxRecDepth 100000 in
theorem ml_X0_44 : Cond.methodLink RX0 44 yJ7_fill_53178 ∈ WSA := wa 446 rfl rfl
set_option maxRecDepth 100000 in
theorem ml_X0_53 : Cond.methodLink RX0 53 yX1_isAnswer ∈ WSA := wa 447 rfl rfl
set_option maxRecDepth 100000 in
theorem ml_X0_57 : Cond.methodLink RX0 57 yX0_cellAt ∈ WSA := wa 459 rfl rfl
set_option maxRecDepth 100000 in
theorem ml_X0_61 : Cond.methodLink RX0 61 yX0_setLabel ∈ WSA := wa 464 rfl rfl
set_option maxRecDepth 100000 in
theorem ml_X0_69 : Cond.methodLink RX0 69 yX8_look ∈ WSA := wa 492 rfl rfl
set_option maxRecDepth 100000 in
theorem ml_X0_75 : Cond.methodLink RX0 75 yX0_spread ∈ WSA := wa 493 rfl rfl
set_option maxRecDepth 100000 in
theorem ml_X0_79 : Cond.methodLink RX0 79 yX1_hasInWindow ∈ WSA := wa 463 rfl rfl
set_option maxRecDepth 100000 in
theorem ml_X0_82 : Cond.methodLink RX0 82 yX0_await ∈ WSA := wa 497 rfl rfl
set_option maxRecDepth 100000 in
theorem ml_X0_85 : Cond.methodLink RX0 85 yX0_behind ∈ WSA := wa 505 rfl rfl
set_option maxRecDepth 100000 in
theorem ml_X0_90 : Cond.methodLink RX0 90 yX8_get ∈ WSA := wa 509 rfl rfl
set_option maxRecDepth 100000 in
theorem ml_X0_93 : Cond.methodLink RX0 93 yX0_xOf ∈ WSA := wa 513 rfl rfl
set_option maxRecDepth 100000 in
theorem ml_X0_96 : Cond.methodLink RX0 96 yX0_yOf ∈ WSA := wa 516 rfl rfl
set_option maxRecDepth 100000 in
theorem ml_X0_99 : Cond.methodLink RX0 99 yX0_labelAt ∈ WSA := wa 501 rfl rfl
set_option maxRecDepth 100000 in
theorem ml_X1_3 : Cond.methodLink RX1 3 Lib.objectInit ∈ WSA := wa 35 rfl rfl
set_option maxRecDepth 100000 in
theorem ml_X1_11 : Cond.methodLinkNest RX1 11 yX2_init "TwoLetterForms" ∈ tables_1 := List.mem_of_getElem? (i := 38) rfl
set_option maxRecDepth 100000 in
theorem ml_X1_25 : Cond.methodLink RX1 25 yX2_copy ∈ WSA := wa 439 rfl rfl
set_option maxRecDepth 100000 in
theorem ml_X1_29 : Cond.methodLink RX1 29 yX2_isLike ∈ WSA := wa 431 rfl rfl
set_option maxRecDepth 100000 in
theorem ml_X1_33 : Cond.methodLink RX1 33 yX1_hasInWindow ∈ WSA := wa 451 rfl rfl
set_option maxRecDepth 100000 in
theorem ml_X1_37 : Cond.methodLink RX1 37 yX2_at ∈ WSA := wa 455 rfl rfl
set_option maxRecDepth 100000 in
theorem ml_X1_43 : Cond.methodLink RX1 43 yX2_remaindersBy ∈ WSA := wa 607 rfl rfl
set_option maxRecDepth 100000 in
theorem ml_X1_47 : Cond.methodLink RX1 47 yJ9_floorMod_7cf53 ∈ WSA := wa 608 rfl rfl
set_option maxRecDepth 100000 in
theorem ml_X1_57 : Cond.methodLink RX1 57 yX1_isBarredBy ∈ WSA := wa 620 rfl rfl
set_option maxRecDepth 100000 in
theorem ml_X1_61 : Cond.methodLinkNest RX1 61 yX9_between "TwoLetterForms" ∈ tables_1 := List.mem_of_getElem? (i := 717) rfl
set_option maxRecDepth 100000 in
theorem ml_X2_3 : Cond.methodLink RX2 3 Lib.objectInit ∈ WSA := wa 41 rfl rfl
set_option maxRecDepth 100000 in
theorem ml_X2_26 : Cond.methodLink RX2 26 yJ7_fill_53178 ∈ WSA := wa 267 rfl rfl
set_option maxRecDepth 100000 in
theorem ml_X2_32 : Cond.methodLink RX2 32 arraycopyName ∈ WSA := wa 443 rfl rfl
set_option maxRecDepth 100000 in
theorem ml_X2_38 : Cond.methodLink RX2 38 yX2_has ∈ WSA := wa 282 rfl rfl
set_option maxRecDepth 100000 in
theorem ml_X2_42 : Cond.methodLink RX2 42 yX2_get ∈ WSA := wa 708 rfl rfl
set_option maxRecDepth 100000 in
theorem ml_X2_46 : Cond.methodLink RX2 46 yJ9_min_7cf53 ∈ WSA := wa 709 rfl rfl
set_option maxRecDepth 100000 in
theorem ml_X2_52 : Cond.methodLink RX2 52 yX2_set ∈ WSA := wa 712 rfl rfl
set_option maxRecDepth 100000 in
theorem ml_X2_56 : Cond.methodLink RX2 56 yX2_at ∈ WSA := wa 590 rfl rfl
set_option maxRecDepth 100000 in
theorem ml_X2_60 : Cond.methodLink RX2 60 yJ9_floorMod_1978a ∈ WSA := wa 591 rfl rfl
set_option maxRecDepth 100000 in
theorem ml_X2_64 : Cond.methodLink RX2 64 yX2_isMove ∈ WSA := wa 306 rfl rfl
set_option maxRecDepth 100000 in
theorem ml_X2_70 : Cond.methodLink RX2 70 yX2_turnBy ∈ WSA := wa 309 rfl rfl
set_option maxRecDepth 100000 in
theorem ml_X2_74 : Cond.methodLink RX2 74 yX2_findTurned ∈ WSA := wa 313 rfl rfl
set_option maxRecDepth 100000 in
theorem ml_X2_82 : Cond.methodLink RX2 82 yJ7_fill_d0a16 ∈ WSA := wa 317 rfl rfl
set_option maxRecDepth 100000 in
theorem ml_X2_85 : Cond.methodLink RX2 85 yX2_multiply ∈ WSA := wa 320 rfl rfl
set_option maxRecDepth 100000 in
theorem ml_X3_3 : Cond.methodLink RX3 3 Lib.objectInit ∈ WSA := wa 159 rfl rfl
set_option maxRecDepth 100000 in
theorem ml_X3_35 : Cond.methodLink RX3 35 yX2_get ∈ WSA := wa 527 rfl rfl
set_option maxRecDepth 100000 in
theorem ml_X3_39 : Cond.methodLink RX3 39 yX3_greatestFrom ∈ WSA := wa 528 rfl rfl
set_option maxRecDepth 100000 in
theorem ml_X3_42 : Cond.methodLink RX3 42 yX3_keep ∈ WSA := wa 536 rfl rfl
set_option maxRecDepth 100000 in
theorem ml_X3_46 : Cond.methodLink RX3 46 yX3_at ∈ WSA := wa 532 rfl rfl
set_option maxRecDepth 100000 in
theorem ml_X3_50 : Cond.methodLink RX3 50 yX3_goBehind ∈ WSA := wa 540 rfl rfl
set_option maxRecDepth 100000 in
theorem ml_X3_53 : Cond.methodLink RX3 53 yX3_isRowBeyond ∈ WSA := wa 544 rfl rfl
set_option maxRecDepth 100000 in
theorem ml_X4_3 : Cond.methodLink RX4 3 Lib.objectInit ∈ WSA := wa 79 rfl rfl
set_option maxRecDepth 100000 in
theorem ml_X4_15 : Cond.methodLink RX4 15 yJ9_max_7cf53 ∈ WSA := wa 80 rfl rfl
set_option maxRecDepth 100000 in
theorem ml_X4_25 : Cond.methodLink RX4 25 yJ9_min_7cf53 ∈ WSA := wa 764 rfl rfl
set_option maxRecDepth 100000 in
theorem ml_X4_28 : Cond.methodLink RX4 28 arraycopyName ∈ WSA := wa 765 rfl rfl
set_option maxRecDepth 100000 in
theorem ml_X4_34 : Cond.methodLink RX4 34 yX4_cell ∈ WSA := wa 394 rfl rfl
set_option maxRecDepth 100000 in
theorem ml_X5_1 : Cond.methodLink RX5 1 Lib.objectInit ∈ WSA := wa 185 rfl rfl
set_option maxRecDepth 100000 in
theorem ml_X5_15 : Cond.methodLink RX5 15 yX4_init ∈ WSA := wa 187 rfl rfl
set_option maxRecDepth 100000 in
theorem ml_X5_35 : Cond.methodLink RX5 35 yX4_empty ∈ WSA := wa 349 rfl rfl
set_option maxRecDepth 100000 in
theorem ml_X5_39 : Cond.methodLink RX5 39 yX5_takeClause ∈ WSA := wa 353 rfl rfl
set_option maxRecDepth 100000 in
theorem ml_X5_43 : Cond.methodLink RX5 43 yX5_next ∈ WSA := wa 357 rfl rfl
set_option maxRecDepth 100000 in
theorem ml_X5_46 : Cond.methodLink RX5 46 yX5_isKind ∈ WSA := wa 361 rfl rfl
set_option maxRecDepth 100000 in
theorem ml_X5_50 : Cond.methodLink RX5 50 yX5_hasDigit ∈ WSA := wa 364 rfl rfl
set_option maxRecDepth 100000 in
theorem ml_X5_53 : Cond.methodLink RX5 53 yX5_takeDigit ∈ WSA := wa 370 rfl rfl
set_option maxRecDepth 100000 in
theorem ml_X5_56 : Cond.methodLink RX5 56 yX5_hasNumber ∈ WSA := wa 367 rfl rfl
set_option maxRecDepth 100000 in
theorem ml_X5_59 : Cond.methodLink RX5 59 yX5_takeNumber ∈ WSA := wa 378 rfl rfl
set_option maxRecDepth 100000 in
theorem ml_X5_62 : Cond.methodLink RX5 62 yX4_add ∈ WSA := wa 382 rfl rfl
set_option maxRecDepth 100000 in
theorem ml_X5_66 : Cond.methodLink RX5 66 yX5_isAtDigit ∈ WSA := wa 374 rfl rfl
set_option maxRecDepth 100000 in
theorem ml_X6_3 : Cond.methodLink RX6 3 Lib.objectInit ∈ WSA := wa 29 rfl rfl
set_option maxRecDepth 100000 in
theorem ml_X6_11 : Cond.methodLinkNest RX6 11 yX1_init "TwoLetterForms" ∈ tables_1 := List.mem_of_getElem? (i := 32) rfl
set_option maxRecDepth 100000 in
theorem ml_X6_20 : Cond.methodLink RX6 20 yX4_init ∈ WSA := wa 76 rfl rfl
set_option maxRecDepth 100000 in
theorem ml_X6_33 : Cond.methodLink RX6 33 yX1_copy ∈ WSA := wa 759 rfl rfl
set_option maxRecDepth 100000 in
theorem ml_X6_37 : Cond.methodLink RX6 37 yX4_copy ∈ WSA := wa 760 rfl rfl
set_option maxRecDepth 100000 in
theorem ml_X7_3 : Cond.methodLink RX7 3 Lib.objectInit ∈ WSA := wa 215 rfl rfl
set_option maxRecDepth 100000 in
theorem ml_X7_22 : Cond.methodLink RX7 22 yJ9_min_7cf53 ∈ WSA := wa 782 rfl rfl
set_option maxRecDepth 100000 in
theorem ml_X7_28 : Cond.methodLink RX7 28 yJ9_max_7cf53 ∈ WSA := wa 783 rfl rfl
set_option maxRecDepth 100000 in
theorem ml_X7_31 : Cond.methodLink RX7 31 yJ7_fill_d0a16 ∈ WSA := wa 784 rfl rfl
set_option maxRecDepth 100000 in
theorem ml_X7_37 : Cond.methodLink RX7 37 yX7_has ∈ WSA := wa 750 rfl rfl
set_option maxRecDepth 100000 in
theorem ml_X7_41 : Cond.methodLink RX7 41 yX7_lowestBits ∈ WSA := wa 793 rfl rfl
set_option maxRecDepth 100000 in
theorem ml_X8_1 : Cond.methodLink RX8 1 Lib.objectInit ∈ WSA := wa 144 rfl rfl
set_option maxRecDepth 100000 in
theorem ml_X8_17 : Cond.methodLink RX8 17 yX2_isLeftBy ∈ WSA := wa 476 rfl rfl
set_option maxRecDepth 100000 in
theorem ml_X8_23 : Cond.methodLink RX8 23 yX8_add ∈ WSA := wa 480 rfl rfl
set_option maxRecDepth 100000 in
theorem ml_L_9 : Cond.methodLink "TwoLetterFormsLaw" 9 yX9_init ∈ WSA := wa 18 rfl rfl
set_option maxRecDepth 100000 in
theorem ml_L_12 : Cond.methodLink "TwoLetterFormsLaw" 12 yX10_init ∈ WSA := wa 812 rfl rfl
set_option maxRecDepth 100000 in
theorem ml_L_13 : Cond.methodLink "TwoLetterFormsLaw" 13 yX9_degree ∈ WSA := wa 256 rfl rfl
set_option maxRecDepth 100000 in
theorem ml_L_17 : Cond.methodLink "TwoLetterFormsLaw" 17 yX10_degree ∈ WSA := wa 935 rfl rfl
set_option maxRecDepth 100000 in
theorem ml_L_18 : Cond.methodLink "TwoLetterFormsLaw" 18 yX9_number ∈ WSA := wa 270 rfl rfl
set_option maxRecDepth 100000 in
theorem ml_L_22 : Cond.methodLink "TwoLetterFormsLaw" 22 yX10_number ∈ WSA := wa 944 rfl rfl
set_option maxRecDepth 100000 in
theorem ml_L_23 : Cond.methodLink "TwoLetterFormsLaw" 23 yX9_equal ∈ WSA := wa 287 rfl rfl
set_option maxRecDepth 100000 in
theorem ml_L_26 : Cond.methodLink "TwoLetterFormsLaw" 26 yX10_equal ∈ WSA := wa 954 rfl rfl
set_option maxRecDepth 100000 in
theorem ml_L_27 : Cond.methodLink "TwoLetterFormsLaw" 27 yX9_window ∈ WSA := wa 291 rfl rfl
set_option maxRecDepth 100000 in
theorem ml_L_30 : Cond.methodLink "TwoLetterFormsLaw" 30 yX10_window ∈ WSA := wa 960 rfl rfl
set_option maxRecDepth 100000 in
theorem ml_L_31 : Cond.methodLink "TwoLetterFormsLaw" 31 yX9_move ∈ WSA := wa 295 rfl rfl
set_option maxRecDepth 100000 in
theorem ml_L_34 : Cond.methodLink "TwoLetterFormsLaw" 34 yX10_move ∈ WSA := wa 965 rfl rfl
set_option maxRecDepth 100000 in
theorem ml_L_35 : Cond.methodLink "TwoLetterFormsLaw" 35 yX9_turn ∈ WSA := wa 325 rfl rfl
set_option maxRecDepth 100000 in
theorem ml_L_39 : Cond.methodLink "TwoLetterFormsLaw" 39 yX10_turn ∈ WSA := wa 986 rfl rfl
set_option maxRecDepth 100000 in
theorem ml_L_40 : Cond.methodLink "TwoLetterFormsLaw" 40 yX9_feed ∈ WSA := wa 333 rfl rfl
set_option maxRecDepth 100000 in
theorem ml_L_43 : Cond.methodLink "TwoLetterFormsLaw" 43 yX10_feed ∈ WSA := wa 1106 rfl rfl
set_option maxRecDepth 100000 in
theorem ml_L_44 : Cond.methodLink "TwoLetterFormsLaw" 44 yX9_read ∈ WSA := wa 341 rfl rfl
set_option maxRecDepth 100000 in
theorem ml_L_48 : Cond.methodLink "TwoLetterFormsLaw" 48 yX10_read ∈ WSA := wa 1111 rfl rfl
set_option maxRecDepth 100000 in
theorem ml_L_49 : Cond.methodLink "TwoLetterFormsLaw" 49 yX9_of ∈ WSA := wa 411 rfl rfl
set_option maxRecDepth 100000 in
theorem ml_L_52 : Cond.methodLink "TwoLetterFormsLaw" 52 yX10_of ∈ WSA := wa 1055 rfl rfl
set_option maxRecDepth 100000 in
theorem ml_L_53 : Cond.methodLink "TwoLetterFormsLaw" 53 yX9_told ∈ WSA := wa 415 rfl rfl
set_option maxRecDepth 100000 in
theorem ml_L_56 : Cond.methodLink "TwoLetterFormsLaw" 56 yX10_told ∈ WSA := wa 1059 rfl rfl
set_option maxRecDepth 100000 in
theorem ml_L_57 : Cond.methodLink "TwoLetterFormsLaw" 57 yX9_value ∈ WSA := wa 563 rfl rfl
set_option maxRecDepth 100000 in
theorem ml_L_61 : Cond.methodLink "TwoLetterFormsLaw" 61 yX10_value ∈ WSA := wa 1087 rfl rfl
set_option maxRecDepth 100000 in
theorem ml_L_62 : Cond.methodLink "TwoLetterFormsLaw" 62 yX9_answer ∈ WSA := wa 569 rfl rfl
set_option maxRecDepth 100000 in
theorem ml_L_65 : Cond.methodLink "TwoLetterFormsLaw" 65 yX10_answer ∈ WSA := wa 1093 rfl rfl
set_option maxRecDepth 100000 in
theorem ml_L_66 : Cond.methodLink "TwoLetterFormsLaw" 66 yX9_prime ∈ WSA := wa 580 rfl rfl
set_option maxRecDepth 100000 in
theorem ml_L_69 : Cond.methodLink "TwoLetterFormsLaw" 69 yX10_prime ∈ WSA := wa 992 rfl rfl
set_option maxRecDepth 100000 in
theorem ml_L_70 : Cond.methodLink "TwoLetterFormsLaw" 70 yX9_reason ∈ WSA := wa 611 rfl rfl
set_option maxRecDepth 100000 in
theorem ml_L_73 : Cond.methodLink "TwoLetterFormsLaw" 73 yX10_reason ∈ WSA := wa 1012 rfl rfl
set_option maxRecDepth 100000 in
theorem ml_L_74 : Cond.methodLink "TwoLetterFormsLaw" 74 yX9_unit ∈ WSA := wa 621 rfl rfl
set_option maxRecDepth 100000 in
theorem ml_L_77 : Cond.methodLink "TwoLetterFormsLaw" 77 yX10_unit ∈ WSA := wa 1097 rfl rfl
set_option maxRecDepth 100000 in
theorem ml_L_78 : Cond.methodLink "TwoLetterFormsLaw" 78 yX9_family ∈ WSA := wa 626 rfl rfl
set_option maxRecDepth 100000 in
theorem ml_L_81 : Cond.methodLink "TwoLetterFormsLaw" 81 yX10_family ∈ WSA := wa 1102 rfl rfl
set_option maxRecDepth 100000 in
theorem ml_L_82 : Cond.methodLink "TwoLetterFormsLaw" 82 yX9_part ∈ WSA := wa 634 rfl rfl
set_option maxRecDepth 100000 in
theorem ml_L_85 : Cond.methodLink "TwoLetterFormsLaw" 85 yX10_part ∈ WSA := wa 1024 rfl rfl
set_option maxRecDepth 100000 in
theorem ml_L_86 : Cond.methodLink "TwoLetterFormsLaw" 86 yX9_convergent ∈ WSA := wa 642 rfl rfl
set_option maxRecDepth 100000 in
theorem ml_L_89 : Cond.methodLink "TwoLetterFormsLaw" 89 yX10_convergent ∈ WSA := wa 1046 rfl rfl
set_option maxRecDepth 100000 in
theorem ml_L_90 : Cond.methodLink "TwoLetterFormsLaw" 90 yX9_see ∈ WSA := wa 646 rfl rfl
set_option maxRecDepth 100000 in
theorem ml_L_94 : Cond.methodLink "TwoLetterFormsLaw" 94 yX10_see ∈ WSA := wa 1146 rfl rfl
set_option maxRecDepth 100000 in
theorem ml_L_95 : Cond.methodLink "TwoLetterFormsLaw" 95 yX9_fits ∈ WSA := wa 652 rfl rfl
set_option maxRecDepth 100000 in
theorem ml_L_98 : Cond.methodLink "TwoLetterFormsLaw" 98 yX10_fits ∈ WSA := wa 1150 rfl rfl
set_option maxRecDepth 100000 in
theorem ml_L_99 : Cond.methodLink "TwoLetterFormsLaw" 99 yX9_odds ∈ WSA := wa 661 rfl rfl
set_option maxRecDepth 100000 in
theorem ml_L_103 : Cond.methodLink "TwoLetterFormsLaw" 103 yX10_odds ∈ WSA := wa 1154 rfl rfl
set_option maxRecDepth 100000 in
theorem ml_L_104 : Cond.methodLink "TwoLetterFormsLaw" 104 yX9_mean ∈ WSA := wa 683 rfl rfl
set_option maxRecDepth 100000 in
theorem ml_L_107 : Cond.methodLink "TwoLetterFormsLaw" 107 yX10_mean ∈ WSA := wa 1161 rfl rfl
set_option maxRecDepth 100000 in
theorem ml_L_108 : Cond.methodLink "TwoLetterFormsLaw" 108 yX9_event ∈ WSA := wa 691 rfl rfl
set_option maxRecDepth 100000 in
theorem ml_L_111 : Cond.methodLink "TwoLetterFormsLaw" 111 yX10_event ∈ WSA := wa 1165 rfl rfl
set_option maxRecDepth 100000 in
theorem ml_L_112 : Cond.methodLink "TwoLetterFormsLaw" 112 yX9_after ∈ WSA := wa 695 rfl rfl
set_option maxRecDepth 100000 in
theorem ml_L_115 : Cond.methodLink "TwoLetterFormsLaw" 115 yX10_after ∈ WSA := wa 1169 rfl rfl
set_option maxRecDepth 100000 in
theorem ml_L_116 : Cond.methodLink "TwoLetterFormsLaw" 116 yX9_book ∈ WSA := wa 722 rfl rfl
set_option maxRecDepth 100000 in
theorem ml_L_119 : Cond.methodLink "TwoLetterFormsLaw" 119 yX10_book ∈ WSA := wa 1181 rfl rfl
set_option maxRecDepth 100000 in
theorem ml_L_120 : Cond.methodLink "TwoLetterFormsLaw" 120 yX9_looked ∈ WSA := wa 726 rfl rfl
set_option maxRecDepth 100000 in
theorem ml_L_123 : Cond.methodLink "TwoLetterFormsLaw" 123 yX10_looked ∈ WSA := wa 1185 rfl rfl
set_option maxRecDepth 100000 in
theorem ml_L_124 : Cond.methodLink "TwoLetterFormsLaw" 124 yX9_judge ∈ WSA := wa 730 rfl rfl
set_option maxRecDepth 100000 in
theorem ml_L_127 : Cond.methodLink "TwoLetterFormsLaw" 127 yX10_judge ∈ WSA := wa 1189 rfl rfl
set_option maxRecDepth 100000 in
theorem ml_L_128 : Cond.methodLink "TwoLetterFormsLaw" 128 yX9_image ∈ WSA := wa 751 rfl rfl
set_option maxRecDepth 100000 in
theorem ml_L_131 : Cond.methodLink "TwoLetterFormsLaw" 131 yX10_image ∈ WSA := wa 1196 rfl rfl
set_option maxRecDepth 100000 in
theorem ml_L_132 : Cond.methodLink "TwoLetterFormsLaw" 132 yX9_undo ∈ WSA := wa 766 rfl rfl
set_option maxRecDepth 100000 in
theorem ml_L_135 : Cond.methodLink "TwoLetterFormsLaw" 135 yX10_undo ∈ WSA := wa 1208 rfl rfl
set_option maxRecDepth 100000 in
theorem ml_L_136 : Cond.methodLink "TwoLetterFormsLaw" 136 yX9_count ∈ WSA := wa 770 rfl rfl
set_option maxRecDepth 100000 in
theorem ml_L_139 : Cond.methodLink "TwoLetterFormsLaw" 139 yX10_count ∈ WSA := wa 1212 rfl rfl
set_option maxRecDepth 100000 in
theorem ml_L_140 : Cond.methodLink "TwoLetterFormsLaw" 140 yX9_tape ∈ WSA := wa 774 rfl rfl
set_option maxRecDepth 100000 in
theorem ml_L_143 : Cond.methodLink "TwoLetterFormsLaw" 143 yX10_tape ∈ WSA := wa 1216 rfl rfl
set_option maxRecDepth 100000 in
theorem ml_L_146 : Cond.methodLink "TwoLetterFormsLaw" 146 yX9_item ∈ WSA := wa 785 rfl rfl
set_option maxRecDepth 100000 in
theorem ml_L_150 : Cond.methodLink "TwoLetterFormsLaw" 150 yX10_item ∈ WSA := wa 1220 rfl rfl
set_option maxRecDepth 100000 in
theorem ml_L_151 : Cond.methodLink "TwoLetterFormsLaw" 151 yX9_peek ∈ WSA := wa 797 rfl rfl
set_option maxRecDepth 100000 in
theorem ml_L_154 : Cond.methodLink "TwoLetterFormsLaw" 154 yX10_peek ∈ WSA := wa 1227 rfl rfl
set_option maxRecDepth 100000 in
theorem ml_L_155 : Cond.methodLink "TwoLetterFormsLaw" 155 yX9_shift ∈ WSA := wa 801 rfl rfl
set_option maxRecDepth 100000 in
theorem ml_L_159 : Cond.methodLink "TwoLetterFormsLaw" 159 yX10_shift ∈ WSA := wa 1231 rfl rfl
set_option maxRecDepth 100000 in
theorem ml_X10_3 : Cond.methodLink RX10 3 Lib.objectInit ∈ WSA := wa 815 rfl rfl
set_option maxRecDepth 100000 in
theorem ml_X10_96 : Cond.methodLink RX10 96 yX10_in ∈ WSA := wa 941 rfl rfl
set_option maxRecDepth 100000 in
theorem ml_X10_104 : Cond.methodLink RX10 104 yX10_isNumber ∈ WSA := wa 948 rfl rfl
set_option maxRecDepth 100000 in
theorem ml_X10_118 : Cond.methodLink RX10 118 yX10_power ∈ WSA := wa 1005 rfl rfl
set_option maxRecDepth 100000 in
theorem ml_X10_122 : Cond.methodLink RX10 122 yX10_multiplies ∈ WSA := wa 977 rfl rfl
set_option maxRecDepth 100000 in
theorem ml_X10_126 : Cond.methodLink RX10 126 yX10_turns ∈ WSA := wa 973 rfl rfl
set_option maxRecDepth 100000 in
theorem ml_X10_132 : Cond.methodLink RX10 132 yX10_becomesTurned ∈ WSA := wa 982 rfl rfl
set_option maxRecDepth 100000 in
theorem ml_X10_136 : Cond.methodLink RX10 136 yX10_moves ∈ WSA := wa 969 rfl rfl
set_option maxRecDepth 100000 in
theorem ml_X10_146 : Cond.methodLink RX10 146 yX10_valueAt ∈ WSA := wa 1001 rfl rfl
set_option maxRecDepth 100000 in
theorem ml_X10_153 : Cond.methodLink RX10 153 yX10_leastOf ∈ WSA := wa 1079 rfl rfl
set_option maxRecDepth 100000 in
theorem ml_X10_157 : Cond.methodLink RX10 157 yX10_tellsAnswers ∈ WSA := wa 1016 rfl rfl
set_option maxRecDepth 100000 in
theorem ml_X10_160 : Cond.methodLink RX10 160 yX10_tellsUnits ∈ WSA := wa 1063 rfl rfl
set_option maxRecDepth 100000 in
theorem ml_X10_163 : Cond.methodLink RX10 163 yX10_cell ∈ WSA := wa 1071 rfl rfl
set_option maxRecDepth 100000 in
theorem ml_X10_167 : Cond.methodLink RX10 167 yX10_links ∈ WSA := wa 1075 rfl rfl
set_option maxRecDepth 100000 in
theorem ml_X10_174 : Cond.methodLink RX10 174 yX10_remainders ∈ WSA := wa 997 rfl rfl
set_option maxRecDepth 100000 in
theorem ml_X10_177 : Cond.methodLink RX10 177 yX10_bars ∈ WSA := wa 1008 rfl rfl
set_option maxRecDepth 100000 in
theorem ml_X10_182 : Cond.methodLink RX10 182 yX10_firstBar ∈ WSA := wa 1020 rfl rfl
set_option maxRecDepth 100000 in
theorem ml_X10_186 : Cond.methodLink RX10 186 yX10_rowAt ∈ WSA := wa 1036 rfl rfl
set_option maxRecDepth 100000 in
theorem ml_X10_197 : Cond.methodLink RX10 197 yX10_greatest ∈ WSA := wa 1032 rfl rfl
set_option maxRecDepth 100000 in
theorem ml_X10_200 : Cond.methodLink RX10 200 yX10_goesOn ∈ WSA := wa 1040 rfl rfl
set_option maxRecDepth 100000 in
theorem ml_X10_210 : Cond.methodLink RX10 210 yX10_tellsParts ∈ WSA := wa 1028 rfl rfl
set_option maxRecDepth 100000 in
theorem ml_X10_215 : Cond.methodLink RX10 215 yX10_tellsConvergent ∈ WSA := wa 1051 rfl rfl
set_option maxRecDepth 100000 in
theorem ml_X10_219 : Cond.methodLink RX10 219 yX10_tellsFamilies ∈ WSA := wa 1067 rfl rfl
set_option maxRecDepth 100000 in
theorem ml_X10_222 : Cond.methodLink RX10 222 yX10_answering ∈ WSA := wa 1083 rfl rfl
set_option maxRecDepth 100000 in
theorem ml_X10_239 : Cond.methodLink RX10 239 yX10_here ∈ WSA := wa 1119 rfl rfl
set_option maxRecDepth 100000 in
theorem ml_X10_246 : Cond.methodLink RX10 246 yX10_isDigit ∈ WSA := wa 1127 rfl rfl
set_option maxRecDepth 100000 in
theorem ml_X10_249 : Cond.methodLink RX10 249 yX10_readsDigit ∈ WSA := wa 1123 rfl rfl
set_option maxRecDepth 100000 in
theorem ml_X10_252 : Cond.methodLink RX10 252 yX10_readsNumber ∈ WSA := wa 1133 rfl rfl
set_option maxRecDepth 100000 in
theorem ml_X10_255 : Cond.methodLink RX10 255 yX10_degree ∈ WSA := wa 1141 rfl rfl
set_option maxRecDepth 100000 in
theorem ml_X10_258 : Cond.methodLink RX10 258 yX10_number ∈ WSA := wa 1142 rfl rfl
set_option maxRecDepth 100000 in
theorem ml_X10_261 : Cond.methodLink RX10 261 yX10_equal ∈ WSA := wa 1143 rfl rfl
set_option maxRecDepth 100000 in
theorem ml_X10_264 : Cond.methodLink RX10 264 yX10_window ∈ WSA := wa 1144 rfl rfl
set_option maxRecDepth 100000 in
theorem ml_X10_267 : Cond.methodLink RX10 267 yX10_move ∈ WSA := wa 1145 rfl rfl
set_option maxRecDepth 100000 in
theorem ml_X10_270 : Cond.methodLink RX10 270 yX10_readsClause ∈ WSA := wa 1115 rfl rfl
set_option maxRecDepth 100000 in
theorem ml_X10_273 : Cond.methodLink RX10 273 yX10_does ∈ WSA := wa 1137 rfl rfl
set_option maxRecDepth 100000 in
theorem ml_X10_279 : Cond.methodLink RX10 279 yX10_lowest ∈ WSA := wa 1158 rfl rfl
set_option maxRecDepth 100000 in
theorem ml_X10_286 : Cond.methodLink RX10 286 yJ9_min_f86c9 ∈ WSA := wa 1177 rfl rfl
set_option maxRecDepth 100000 in
theorem ml_X10_291 : Cond.methodLink RX10 291 yX10_happens ∈ WSA := wa 1173 rfl rfl
set_option maxRecDepth 100000 in
theorem ml_X10_294 : Cond.methodLink RX10 294 yX10_told ∈ WSA := wa 1180 rfl rfl
set_option maxRecDepth 100000 in
theorem ml_X10_299 : Cond.methodLink RX10 299 yX10_isTape ∈ WSA := wa 1193 rfl rfl
set_option maxRecDepth 100000 in
theorem ml_X10_302 : Cond.methodLink RX10 302 yX10_laysRow ∈ WSA := wa 1204 rfl rfl
set_option maxRecDepth 100000 in
theorem ml_X10_310 : Cond.methodLink RX10 310 yX10_lays ∈ WSA := wa 1200 rfl rfl
set_option maxRecDepth 100000 in
theorem ml_X10_314 : Cond.methodLink RX10 314 yX10_held ∈ WSA := wa 1224 rfl rfl
set_option maxRecDepth 100000 in
theorem ml_X10_318 : Cond.methodLink RX10 318 yX10_areThere ∈ WSA := wa 1235 rfl rfl
set_option maxRecDepth 100000 in
theorem ml_J9_146 : Cond.methodLink RJ9 146 yJ9_floorMod_f86c9 ∈ WSA := wa 594 rfl rfl
set_option maxRecDepth 100000 in
theorem kc_X9_163 : Jvm.Cond.constantLong RX9 163 (-9223372036854775808) ∈ WSA := wa 567 rfl rfl
set_option maxRecDepth 100000 in
theorem kc_X1_41 : Jvm.Cond.constantLong RX1 41 (2) ∈ WSA := wa 673 rfl rfl
set_option maxRecDepth 100000 in
theorem kc_X2_78 : Jvm.Cond.constantLong RX2 78 (99) ∈ WSA := wa 323 rfl rfl
set_option maxRecDepth 100000 in
theorem kc_X2_80 : Jvm.Cond.constantLong RX2 80 (-99) ∈ WSA := wa 324 rfl rfl
set_option maxRecDepth 100000 in
theorem kc_X3_57 : Jvm.Cond.constantLong RX3 57 (1000000000) ∈ WSA := wa 548 rfl rfl
set_option maxRecDepth 100000 in
theorem kc_X3_59 : Jvm.Cond.constantLong RX3 59 (-1000000000) ∈ WSA := wa 549 rfl rfl
set_option maxRecDepth 100000 in
theorem kc_L_144 : Jvm.Cond.constantLong RL 144 (4294967295) ∈ WSA := wa 1239 rfl rfl
set_option maxRecDepth 100000 in
theorem kc_X10_100 : Jvm.Cond.constantLong RX10 100 (2) ∈ WSA := wa 939 rfl rfl
set_option maxRecDepth 100000 in
theorem kc_X10_102 : Jvm.Cond.constantLong RX10 102 (4) ∈ WSA := wa 940 rfl rfl
set_option maxRecDepth 100000 in
theorem kc_X10_108 : Jvm.Cond.constantLong RX10 108 (-99) ∈ WSA := wa 952 rfl rfl
set_option maxRecDepth 100000 in
theorem kc_X10_110 : Jvm.Cond.constantLong RX10 110 (99) ∈ WSA := wa 953 rfl rfl
set_option maxRecDepth 100000 in
theorem kc_X10_112 : Jvm.Cond.constantLong RX10 112 (-9999) ∈ WSA := wa 958 rfl rfl
set_option maxRecDepth 100000 in
theorem kc_X10_114 : Jvm.Cond.constantLong RX10 114 (9999) ∈ WSA := wa 959 rfl rfl
set_option maxRecDepth 100000 in
theorem kc_X10_116 : Jvm.Cond.constantLong RX10 116 (40) ∈ WSA := wa 964 rfl rfl
set_option maxRecDepth 100000 in
theorem kc_X10_130 : Jvm.Cond.constantLong RX10 130 (-1) ∈ WSA := wa 981 rfl rfl
set_option maxRecDepth 100000 in
theorem kc_X10_139 : Jvm.Cond.constantLong RX10 139 (-9) ∈ WSA := wa 990 rfl rfl
set_option maxRecDepth 100000 in
theorem kc_X10_141 : Jvm.Cond.constantLong RX10 141 (9) ∈ WSA := wa 991 rfl rfl
set_option maxRecDepth 100000 in
theorem kc_X10_180 : Jvm.Cond.constantLong RX10 180 (5) ∈ WSA := wa 996 rfl rfl
set_option maxRecDepth 100000 in
theorem kc_X10_190 : Jvm.Cond.constantLong RX10 190 (-1000000000) ∈ WSA := wa 1044 rfl rfl
set_option maxRecDepth 100000 in
theorem kc_X10_192 : Jvm.Cond.constantLong RX10 192 (1000000000) ∈ WSA := wa 1045 rfl rfl
set_option maxRecDepth 100000 in
theorem kc_X10_213 : Jvm.Cond.constantLong RX10 213 (-9223372036854775808) ∈ WSA := wa 1050 rfl rfl
set_option maxRecDepth 100000 in
theorem kc_X10_225 : Jvm.Cond.constantLong RX10 225 (-999) ∈ WSA := wa 1091 rfl rfl
set_option maxRecDepth 100000 in
theorem kc_X10_227 : Jvm.Cond.constantLong RX10 227 (999) ∈ WSA := wa 1092 rfl rfl
set_option maxRecDepth 100000 in
theorem kc_X10_229 : Jvm.Cond.constantLong RX10 229 (3) ∈ WSA := wa 1101 rfl rfl
set_option maxRecDepth 100000 in
theorem kc_X10_231 : Jvm.Cond.constantLong RX10 231 (127) ∈ WSA := wa 1110 rfl rfl
set_option maxRecDepth 100000 in
theorem kc_X10_242 : Jvm.Cond.constantLong RX10 242 (48) ∈ WSA := wa 1131 rfl rfl
set_option maxRecDepth 100000 in
theorem kc_X10_244 : Jvm.Cond.constantLong RX10 244 (57) ∈ WSA := wa 1132 rfl rfl
set_option maxRecDepth 100000 in
theorem kc_J6_265 : Jvm.Cond.constant RJ6 265 (1431655765) ∈ WSA := wa 600 rfl rfl
set_option maxRecDepth 100000 in
theorem kc_J6_266 : Jvm.Cond.constant RJ6 266 (858993459) ∈ WSA := wa 601 rfl rfl
set_option maxRecDepth 100000 in
theorem kc_J6_267 : Jvm.Cond.constant RJ6 267 (252645135) ∈ WSA := wa 602 rfl rfl
set_option maxRecDepth 100000 in
theorem lk_X9_9 : Cond.classLink RX9 9 RX6 ∈ WSA := wa 24 rfl rfl
set_option maxRecDepth 100000 in
theorem lk_X9_25 : Cond.classLink RX9 25 RX1 ∈ WSA := wa 108 rfl rfl
set_option maxRecDepth 100000 in
theorem lk_X9_32 : Cond.classLink RX9 32 RX0 ∈ WSA := wa 110 rfl rfl
set_option maxRecDepth 100000 in
theorem lk_X9_39 : Cond.classLink RX9 39 RX8 ∈ WSA := wa 139 rfl rfl
set_option maxRecDepth 100000 in
theorem lk_X9_46 : Cond.classLink RX9 46 RX3 ∈ WSA := wa 154 rfl rfl
set_option maxRecDepth 100000 in
theorem lk_X9_53 : Cond.classLink RX9 53 RX5 ∈ WSA := wa 180 rfl rfl
set_option maxRecDepth 100000 in
theorem lk_X9_60 : Cond.classLink RX9 60 RX7 ∈ WSA := wa 209 rfl rfl
set_option maxRecDepth 100000 in
theorem lk_X0_25 : Cond.classLink RX0 25 RX1 ∈ WSA := wa 116 rfl rfl
set_option maxRecDepth 100000 in
theorem lk_X1_9 : Cond.classLink RX1 9 RX2 ∈ WSA := wa 36 rfl rfl
set_option maxRecDepth 100000 in
theorem lk_X5_13 : Cond.classLink RX5 13 RX4 ∈ WSA := wa 186 rfl rfl
set_option maxRecDepth 100000 in
theorem lk_X6_9 : Cond.classLink RX6 9 RX1 ∈ WSA := wa 30 rfl rfl
set_option maxRecDepth 100000 in
theorem lk_X6_18 : Cond.classLink RX6 18 RX4 ∈ WSA := wa 74 rfl rfl
set_option maxRecDepth 100000 in
theorem lk_L_7 : Cond.classLink "TwoLetterFormsLaw" 7 RX9 ∈ WSA := wa 16 rfl rfl
set_option maxRecDepth 100000 in
theorem lk_L_10 : Cond.classLink "TwoLetterFormsLaw" 10 RX10 ∈ WSA := wa 810 rfl rfl
set_option maxRecDepth 100000 in
theorem in_9 : Cond.instantiable RX9 9 ∈ WSA := wa 17 rfl rfl
set_option maxRecDepth 100000 in
theorem it_9 : Cond.initialized RX9 ∈ WSA := wa 1 rfl rfl
set_option maxRecDepth 100000 in
theorem in_0 : Cond.instantiable RX0 6 ∈ WSA := wa 111 rfl rfl
set_option maxRecDepth 100000 in
theorem it_0 : Cond.initialized RX0 ∈ WSA := wa 7 rfl rfl
set_option maxRecDepth 100000 in
theorem in_1 : Cond.instantiable RX1 3 ∈ WSA := wa 31 rfl rfl
set_option maxRecDepth 100000 in
theorem it_1 : Cond.initialized RX1 ∈ WSA := wa 3 rfl rfl
set_option maxRecDepth 100000 in
theorem in_2 : Cond.instantiable RX2 4 ∈ WSA := wa 37 rfl rfl
set_option maxRecDepth 100000 in
theorem it_2 : Cond.initialized RX2 ∈ WSA := wa 4 rfl rfl
set_option maxRecDepth 100000 in
theorem in_3 : Cond.instantiable RX3 6 ∈ WSA := wa 155 rfl rfl
set_option maxRecDepth 100000 in
theorem it_3 : Cond.initialized RX3 ∈ WSA := wa 9 rfl rfl
set_option maxRecDepth 100000 in
theorem in_4 : Cond.instantiable RX4 2 ∈ WSA := wa 75 rfl rfl
set_option maxRecDepth 100000 in
theorem it_4 : Cond.initialized RX4 ∈ WSA := wa 5 rfl rfl
set_option maxRecDepth 100000 in
theorem in_5 : Cond.instantiable RX5 6 ∈ WSA := wa 181 rfl rfl
set_option maxRecDepth 100000 in
theorem it_5 : Cond.initialized RX5 ∈ WSA := wa 10 rfl rfl
set_option maxRecDepth 100000 in
theorem in_6 : Cond.instantiable RX6 4 ∈ WSA := wa 25 rfl rfl
set_option maxRecDepth 100000 in
theorem it_6 : Cond.initialized RX6 ∈ WSA := wa 2 rfl rfl
set_option maxRecDepth 100000 in
theorem in_7 : Cond.instantiable RX7 3 ∈ WSA := wa 211 rfl rfl
set_option maxRecDepth 100000 in
theorem it_7 : Cond.initialized RX7 ∈ WSA := wa 11 rfl rfl
set_option maxRecDepth 100000 in
theorem in_8 : Cond.instantiable RX8 2 ∈ WSA := wa 140 rfl rfl
set_option maxRecDepth 100000 in
theorem it_8 : Cond.initialized RX8 ∈ WSA := wa 8 rfl rfl
set_option maxRecDepth 100000 in
theorem in_10 : Cond.instantiable RX10 39 ∈ WSA := wa 811 rfl rfl
set_option maxRecDepth 100000 in
theorem it_10 : Cond.initialized RX10 ∈ WSA := wa 12 rfl rfl
set_option maxRecDepth 100000 in
theorem ac_I : Cond.arrayClass .int ∈ WSA := wa 57 rfl rfl
set_option maxRecDepth 100000 in
theorem ac_J : Cond.arrayClass .long ∈ WSA := wa 58 rfl rfl
set_option maxRecDepth 100000 in
theorem ac_Z : Cond.arrayClass .boolean ∈ WSA := wa 934 rfl rfl
set_option maxRecDepth 100000 in
theorem oi_1 : Cond.instanceMethod Lib.objectInit ∈ WSA := wa 22 rfl rfl
set_option maxRecDepth 100000 in
theorem oi_2 : Cond.code Lib.objectInit ⟨#[0xb1]⟩ 1 none ∈ WSA := wa 23 rfl rfl
set_option maxRecDepth 100000 in
theorem ac_1 : Cond.native arraycopyName ∈ WSA := wa 445 rfl rfl
set_option maxRecDepth 100000 in
theorem ac_2 : Cond.static arraycopyName ∈ WSA := wa 444 rfl rfl
set_option maxRecDepth 100000 in
theorem ac_3 : Cond.initialized "java/lang/System" ∈ WSA := wa 14 rfl rfl
set_option maxRecDepth 100000 in
theorem cal_X2_init : CalI yX2_init cX2_init 1 0 := ⟨⟨wa 39 rfl rfl, wa 4 rfl rfl, wa 40 rfl rfl, rfl⟩, ⟨by decide +kernel, by decide +kernel, by decide +kernel⟩⟩
set_option maxRecDepth 100000 in
theorem cal_X1_init : CalI yX1_init cX1_init 1 0 := ⟨⟨wa 33 rfl rfl, wa 3 rfl rfl, wa 34 rfl rfl, rfl⟩, ⟨by decide +kernel, by decide +kernel, by decide +kernel⟩⟩
set_option maxRecDepth 100000 in
theorem cal_J9_max_7cf53 : CalS yJ9_max_7cf53 cJ9_max_7cf53 2 (some (.int)) 2 := ⟨⟨wa 81 rfl rfl, wa 6 rfl rfl, wa 82 rfl rfl⟩, ⟨by decide +kernel, by decide +kernel, by decide +kernel⟩⟩
set_option maxRecDepth 100000 in
theorem cal_X4_init : CalI yX4_init cX4_init 2 1 := ⟨⟨wa 77 rfl rfl, wa 5 rfl rfl, wa 78 rfl rfl, rfl⟩, ⟨by decide +kernel, by decide +kernel, by decide +kernel⟩⟩
set_option maxRecDepth 100000 in
theorem cal_X6_init : CalI yX6_init cX6_init 1 0 := ⟨⟨wa 27 rfl rfl, wa 2 rfl rfl, wa 28 rfl rfl, rfl⟩, ⟨by decide +kernel, by decide +kernel, by decide +kernel⟩⟩
set_option maxRecDepth 100000 in
theorem cal_X0_init : CalI yX0_init cX0_init 1 0 := ⟨⟨wa 113 rfl rfl, wa 7 rfl rfl, wa 114 rfl rfl, rfl⟩, ⟨by decide +kernel, by decide +kernel, by decide +kernel⟩⟩
set_option maxRecDepth 100000 in
theorem cal_X8_init : CalI yX8_init cX8_init 1 0 := ⟨⟨wa 142 rfl rfl, wa 8 rfl rfl, wa 143 rfl rfl, rfl⟩, ⟨by decide +kernel, by decide +kernel, by decide +kernel⟩⟩
set_option maxRecDepth 100000 in
theorem cal_X3_init : CalI yX3_init cX3_init 1 0 := ⟨⟨wa 157 rfl rfl, wa 9 rfl rfl, wa 158 rfl rfl, rfl⟩, ⟨by decide +kernel, by decide +kernel, by decide +kernel⟩⟩
set_option maxRecDepth 100000 in
theorem cal_X5_init : CalI yX5_init cX5_init 1 0 := ⟨⟨wa 183 rfl rfl, wa 10 rfl rfl, wa 184 rfl rfl, rfl⟩, ⟨by decide +kernel, by decide +kernel, by decide +kernel⟩⟩
set_option maxRecDepth 100000 in
theorem cal_X7_init : CalI yX7_init cX7_init 1 0 := ⟨⟨wa 213 rfl rfl, wa 11 rfl rfl, wa 214 rfl rfl, rfl⟩, ⟨by decide +kernel, by decide +kernel, by decide +kernel⟩⟩
set_option maxRecDepth 100000 in
theorem cal_X9_init : CalI yX9_init cX9_init 2 0 := ⟨⟨wa 19 rfl rfl, wa 1 rfl rfl, wa 20 rfl rfl, rfl⟩, ⟨by decide +kernel, by decide +kernel, by decide +kernel⟩⟩
set_option maxRecDepth 100000 in
theorem cal_X10_init : CalI yX10_init cX10_init 1 0 := ⟨⟨wa 813 rfl rfl, wa 12 rfl rfl, wa 814 rfl rfl, rfl⟩, ⟨by decide +kernel, by decide +kernel, by decide +kernel⟩⟩
set_option maxRecDepth 100000 in
theorem cal_X9_between : CalS yX9_between cX9_between 3 (some (.boolean)) 3 := ⟨⟨wa 261 rfl rfl, wa 1 rfl rfl, wa 262 rfl rfl⟩, ⟨by decide +kernel, by decide +kernel, by decide +kernel⟩⟩
set_option maxRecDepth 100000 in
theorem cal_J7_fill_53178 : CalS yJ7_fill_53178 cJ7_fill_53178 4 none 2 := ⟨⟨wa 268 rfl rfl, wa 13 rfl rfl, wa 269 rfl rfl⟩, ⟨by decide +kernel, by decide +kernel, by decide +kernel⟩⟩
set_option maxRecDepth 100000 in
theorem cal_X2_clear : CalV yX2_clear cX2_clear 2 none 1 := ⟨⟨wa 264 rfl rfl, wa 265 rfl rfl, wa 4 rfl rfl, wa 266 rfl rfl⟩, ⟨by decide +kernel, by decide +kernel, by decide +kernel⟩⟩
set_option maxRecDepth 100000 in
theorem cal_X9_degree : CalV yX9_degree cX9_degree 3 (some (.int)) 1 := ⟨⟨wa 257 rfl rfl, wa 258 rfl rfl, wa 1 rfl rfl, wa 259 rfl rfl⟩, ⟨by decide +kernel, by decide +kernel, by decide +kernel⟩⟩
set_option maxRecDepth 100000 in
theorem cal_X10_in : CalS yX10_in cX10_in 6 (some (.boolean)) 3 := ⟨⟨wa 942 rfl rfl, wa 12 rfl rfl, wa 943 rfl rfl⟩, ⟨by decide +kernel, by decide +kernel, by decide +kernel⟩⟩
set_option maxRecDepth 100000 in
theorem cal_X10_degree : CalV yX10_degree cX10_degree 4 (some (.int)) 1 := ⟨⟨wa 936 rfl rfl, wa 937 rfl rfl, wa 12 rfl rfl, wa 938 rfl rfl⟩, ⟨by decide +kernel, by decide +kernel, by decide +kernel⟩⟩
set_option maxRecDepth 100000 in
theorem cal_X2_has : CalV yX2_has cX2_has 2 (some (.boolean)) 1 := ⟨⟨wa 275 rfl rfl, wa 276 rfl rfl, wa 4 rfl rfl, wa 277 rfl rfl⟩, ⟨by decide +kernel, by decide +kernel, by decide +kernel⟩⟩
set_option maxRecDepth 100000 in
theorem cal_X2_get : CalV yX2_get cX2_get 2 (some (.int)) 1 := ⟨⟨wa 279 rfl rfl, wa 280 rfl rfl, wa 4 rfl rfl, wa 281 rfl rfl⟩, ⟨by decide +kernel, by decide +kernel, by decide +kernel⟩⟩
set_option maxRecDepth 100000 in
theorem cal_X2_set : CalV yX2_set cX2_set 3 none 2 := ⟨⟨wa 284 rfl rfl, wa 285 rfl rfl, wa 4 rfl rfl, wa 286 rfl rfl⟩, ⟨by decide +kernel, by decide +kernel, by decide +kernel⟩⟩
set_option maxRecDepth 100000 in
theorem cal_X9_number : CalV yX9_number cX9_number 5 (some (.int)) 2 := ⟨⟨wa 271 rfl rfl, wa 272 rfl rfl, wa 1 rfl rfl, wa 273 rfl rfl⟩, ⟨by decide +kernel, by decide +kernel, by decide +kernel⟩⟩
set_option maxRecDepth 100000 in
theorem cal_X10_isNumber : CalV yX10_isNumber cX10_isNumber 2 (some (.boolean)) 1 := ⟨⟨wa 950 rfl rfl, wap (q := (yX10_isNumber, 39)) 28 (by decide +kernel) (by decide +kernel), wa 12 rfl rfl, wa 951 rfl rfl⟩, ⟨by decide +kernel, by decide +kernel, by decide +kernel⟩⟩
set_option maxRecDepth 100000 in
theorem cal_X10_number : CalV yX10_number cX10_number 4 (some (.int)) 2 := ⟨⟨wa 945 rfl rfl, wa 946 rfl rfl, wa 12 rfl rfl, wa 947 rfl rfl⟩, ⟨by decide +kernel, by decide +kernel, by decide +kernel⟩⟩
set_option maxRecDepth 100000 in
theorem cal_X9_equal : CalV yX9_equal cX9_equal 3 (some (.int)) 1 := ⟨⟨wa 288 rfl rfl, wa 289 rfl rfl, wa 1 rfl rfl, wa 290 rfl rfl⟩, ⟨by decide +kernel, by decide +kernel, by decide +kernel⟩⟩
set_option maxRecDepth 100000 in
theorem cal_X10_equal : CalV yX10_equal cX10_equal 3 (some (.int)) 1 := ⟨⟨wa 955 rfl rfl, wa 956 rfl rfl, wa 12 rfl rfl, wa 957 rfl rfl⟩, ⟨by decide +kernel, by decide +kernel, by decide +kernel⟩⟩
set_option maxRecDepth 100000 in
theorem cal_X9_window : CalV yX9_window cX9_window 3 (some (.int)) 1 := ⟨⟨wa 292 rfl rfl, wa 293 rfl rfl, wa 1 rfl rfl, wa 294 rfl rfl⟩, ⟨by decide +kernel, by decide +kernel, by decide +kernel⟩⟩
set_option maxRecDepth 100000 in
theorem cal_X10_window : CalV yX10_window cX10_window 3 (some (.int)) 1 := ⟨⟨wa 961 rfl rfl, wa 962 rfl rfl, wa 12 rfl rfl, wa 963 rfl rfl⟩, ⟨by decide +kernel, by decide +kernel, by decide +kernel⟩⟩
set_option maxRecDepth 100000 in
theorem cal_X2_isMove : CalS yX2_isMove cX2_isMove 1 (some (.boolean)) 1 := ⟨⟨wa 300 rfl rfl, wa 4 rfl rfl, wa 301 rfl rfl⟩, ⟨by decide +kernel, by decide +kernel, by decide +kernel⟩⟩
set_option maxRecDepth 100000 in
theorem cal_J7_fill_d0a16 : CalS yJ7_fill_d0a16 cJ7_fill_d0a16 5 none 2 := ⟨⟨wa 318 rfl rfl, wa 13 rfl rfl, wa 319 rfl rfl⟩, ⟨by decide +kernel, by decide +kernel, by decide +kernel⟩⟩
set_option maxRecDepth 100000 in
theorem cal_X2_multiply : CalS yX2_multiply cX2_multiply 4 none 3 := ⟨⟨wa 321 rfl rfl, wa 4 rfl rfl, wa 322 rfl rfl⟩, ⟨by decide +kernel, by decide +kernel, by decide +kernel⟩⟩
set_option maxRecDepth 100000 in
theorem cal_X2_findTurned : CalV yX2_findTurned cX2_findTurned 7 none 4 := ⟨⟨wa 315 rfl rfl, wap (q := (yX2_findTurned, 4)) 0 (by decide +kernel) (by decide +kernel), wa 4 rfl rfl, wa 316 rfl rfl⟩, ⟨by decide +kernel, by decide +kernel, by decide +kernel⟩⟩
set_option maxRecDepth 100000 in
theorem cal_X2_turnBy : CalV yX2_turnBy cX2_turnBy 6 (some (.boolean)) 4 := ⟨⟨wa 310 rfl rfl, wa 311 rfl rfl, wa 4 rfl rfl, wa 312 rfl rfl⟩, ⟨by decide +kernel, by decide +kernel, by decide +kernel⟩⟩
set_option maxRecDepth 100000 in
theorem cal_X2_moveBy : CalV yX2_moveBy cX2_moveBy 4 (some (.boolean)) 1 := ⟨⟨wa 303 rfl rfl, wa 304 rfl rfl, wa 4 rfl rfl, wa 305 rfl rfl⟩, ⟨by decide +kernel, by decide +kernel, by decide +kernel⟩⟩
set_option maxRecDepth 100000 in
theorem cal_X9_move : CalV yX9_move cX9_move 2 (some (.int)) 1 := ⟨⟨wa 296 rfl rfl, wa 297 rfl rfl, wa 1 rfl rfl, wa 298 rfl rfl⟩, ⟨by decide +kernel, by decide +kernel, by decide +kernel⟩⟩
set_option maxRecDepth 100000 in
theorem cal_X10_multiplies : CalV yX10_multiplies cX10_multiplies 6 none 2 := ⟨⟨wa 979 rfl rfl, wap (q := (yX10_multiplies, 39)) 31 (by decide +kernel) (by decide +kernel), wa 12 rfl rfl, wa 980 rfl rfl⟩, ⟨by decide +kernel, by decide +kernel, by decide +kernel⟩⟩
set_option maxRecDepth 100000 in
theorem cal_X10_turns : CalV yX10_turns cX10_turns 11 none 4 := ⟨⟨wa 975 rfl rfl, wap (q := (yX10_turns, 39)) 30 (by decide +kernel) (by decide +kernel), wa 12 rfl rfl, wa 976 rfl rfl⟩, ⟨by decide +kernel, by decide +kernel, by decide +kernel⟩⟩
set_option maxRecDepth 100000 in
theorem cal_X10_becomesTurned : CalV yX10_becomesTurned cX10_becomesTurned 2 (some (.boolean)) 0 := ⟨⟨wa 984 rfl rfl, wap (q := (yX10_becomesTurned, 39)) 32 (by decide +kernel) (by decide +kernel), wa 12 rfl rfl, wa 985 rfl rfl⟩, ⟨by decide +kernel, by decide +kernel, by decide +kernel⟩⟩
set_option maxRecDepth 100000 in
theorem cal_X10_moves : CalV yX10_moves cX10_moves 3 (some (.boolean)) 1 := ⟨⟨wa 971 rfl rfl, wap (q := (yX10_moves, 39)) 29 (by decide +kernel) (by decide +kernel), wa 12 rfl rfl, wa 972 rfl rfl⟩, ⟨by decide +kernel, by decide +kernel, by decide +kernel⟩⟩
set_option maxRecDepth 100000 in
theorem cal_X10_move : CalV yX10_move cX10_move 2 (some (.int)) 1 := ⟨⟨wa 966 rfl rfl, wa 967 rfl rfl, wa 12 rfl rfl, wa 968 rfl rfl⟩, ⟨by decide +kernel, by decide +kernel, by decide +kernel⟩⟩
set_option maxRecDepth 100000 in
theorem cal_X9_isTurn : CalS yX9_isTurn cX9_isTurn 1 (some (.boolean)) 1 := ⟨⟨wa 330 rfl rfl, wa 1 rfl rfl, wa 331 rfl rfl⟩, ⟨by decide +kernel, by decide +kernel, by decide +kernel⟩⟩
set_option maxRecDepth 100000 in
theorem cal_X9_turn : CalV yX9_turn cX9_turn 5 (some (.int)) 4 := ⟨⟨wa 326 rfl rfl, wa 327 rfl rfl, wa 1 rfl rfl, wa 328 rfl rfl⟩, ⟨by decide +kernel, by decide +kernel, by decide +kernel⟩⟩
set_option maxRecDepth 100000 in
theorem cal_X10_turn : CalV yX10_turn cX10_turn 5 (some (.int)) 4 := ⟨⟨wa 987 rfl rfl, wa 988 rfl rfl, wa 12 rfl rfl, wa 989 rfl rfl⟩, ⟨by decide +kernel, by decide +kernel, by decide +kernel⟩⟩
set_option maxRecDepth 100000 in
theorem cal_X5_add : CalV yX5_add cX5_add 2 (some (.boolean)) 1 := ⟨⟨wa 338 rfl rfl, wa 339 rfl rfl, wa 10 rfl rfl, wa 340 rfl rfl⟩, ⟨by decide +kernel, by decide +kernel, by decide +kernel⟩⟩
set_option maxRecDepth 100000 in
theorem cal_X9_feed : CalV yX9_feed cX9_feed 2 (some (.int)) 1 := ⟨⟨wa 334 rfl rfl, wa 335 rfl rfl, wa 1 rfl rfl, wa 336 rfl rfl⟩, ⟨by decide +kernel, by decide +kernel, by decide +kernel⟩⟩
set_option maxRecDepth 100000 in
theorem cal_X10_feed : CalV yX10_feed cX10_feed 2 (some (.int)) 1 := ⟨⟨wa 1107 rfl rfl, wa 1108 rfl rfl, wa 12 rfl rfl, wa 1109 rfl rfl⟩, ⟨by decide +kernel, by decide +kernel, by decide +kernel⟩⟩
set_option maxRecDepth 100000 in
theorem cal_X4_empty : CalV yX4_empty cX4_empty 1 (some (.int)) 0 := ⟨⟨wa 350 rfl rfl, wa 351 rfl rfl, wa 5 rfl rfl, wa 352 rfl rfl⟩, ⟨by decide +kernel, by decide +kernel, by decide +kernel⟩⟩
set_option maxRecDepth 100000 in
theorem cal_X5_next : CalV yX5_next cX5_next 1 (some (.int)) 0 := ⟨⟨wa 359 rfl rfl, wap (q := (yX5_next, 6)) 2 (by decide +kernel) (by decide +kernel), wa 10 rfl rfl, wa 360 rfl rfl⟩, ⟨by decide +kernel, by decide +kernel, by decide +kernel⟩⟩
set_option maxRecDepth 100000 in
theorem cal_X5_hasDigit : CalS yX5_hasDigit cX5_hasDigit 1 (some (.boolean)) 1 := ⟨⟨wa 365 rfl rfl, wa 10 rfl rfl, wa 366 rfl rfl⟩, ⟨by decide +kernel, by decide +kernel, by decide +kernel⟩⟩
set_option maxRecDepth 100000 in
theorem cal_X5_hasNumber : CalS yX5_hasNumber cX5_hasNumber 1 (some (.boolean)) 1 := ⟨⟨wa 368 rfl rfl, wa 10 rfl rfl, wa 369 rfl rfl⟩, ⟨by decide +kernel, by decide +kernel, by decide +kernel⟩⟩
set_option maxRecDepth 100000 in
theorem cal_X5_isKind : CalS yX5_isKind cX5_isKind 1 (some (.boolean)) 1 := ⟨⟨wa 362 rfl rfl, wa 10 rfl rfl, wa 363 rfl rfl⟩, ⟨by decide +kernel, by decide +kernel, by decide +kernel⟩⟩
set_option maxRecDepth 100000 in
theorem cal_X5_isAtDigit : CalV yX5_isAtDigit cX5_isAtDigit 1 (some (.boolean)) 0 := ⟨⟨wa 376 rfl rfl, wap (q := (yX5_isAtDigit, 6)) 4 (by decide +kernel) (by decide +kernel), wa 10 rfl rfl, wa 377 rfl rfl⟩, ⟨by decide +kernel, by decide +kernel, by decide +kernel⟩⟩
set_option maxRecDepth 100000 in
theorem cal_X5_takeDigit : CalV yX5_takeDigit cX5_takeDigit 1 (some (.boolean)) 0 := ⟨⟨wa 372 rfl rfl, wap (q := (yX5_takeDigit, 6)) 3 (by decide +kernel) (by decide +kernel), wa 10 rfl rfl, wa 373 rfl rfl⟩, ⟨by decide +kernel, by decide +kernel, by decide +kernel⟩⟩
set_option maxRecDepth 100000 in
theorem cal_X5_takeNumber : CalV yX5_takeNumber cX5_takeNumber 3 (some (.boolean)) 0 := ⟨⟨wa 380 rfl rfl, wap (q := (yX5_takeNumber, 6)) 5 (by decide +kernel) (by decide +kernel), wa 10 rfl rfl, wa 381 rfl rfl⟩, ⟨by decide +kernel, by decide +kernel, by decide +kernel⟩⟩
set_option maxRecDepth 100000 in
theorem cal_X4_add : CalV yX4_add cX4_add 5 (some (.int)) 3 := ⟨⟨wa 383 rfl rfl, wa 384 rfl rfl, wa 5 rfl rfl, wa 385 rfl rfl⟩, ⟨by decide +kernel, by decide +kernel, by decide +kernel⟩⟩
set_option maxRecDepth 100000 in
theorem cal_X5_takeClause : CalV yX5_takeClause cX5_takeClause 2 (some (.boolean)) 0 := ⟨⟨wa 355 rfl rfl, wap (q := (yX5_takeClause, 6)) 1 (by decide +kernel) (by decide +kernel), wa 10 rfl rfl, wa 356 rfl rfl⟩, ⟨by decide +kernel, by decide +kernel, by decide +kernel⟩⟩
set_option maxRecDepth 100000 in
theorem cal_X5_findFault : CalV yX5_findFault cX5_findFault 2 (some (.int)) 0 := ⟨⟨wa 346 rfl rfl, wa 347 rfl rfl, wa 10 rfl rfl, wa 348 rfl rfl⟩, ⟨by decide +kernel, by decide +kernel, by decide +kernel⟩⟩
set_option maxRecDepth 100000 in
theorem cal_X4_cell : CalV yX4_cell cX4_cell 4 (some (.int)) 2 := ⟨⟨wa 396 rfl rfl, wap (q := (yX4_cell, 2)) 7 (by decide +kernel) (by decide +kernel), wa 5 rfl rfl, wa 397 rfl rfl⟩, ⟨by decide +kernel, by decide +kernel, by decide +kernel⟩⟩
set_option maxRecDepth 100000 in
theorem cal_X4_second : CalV yX4_second cX4_second 2 (some (.int)) 1 := ⟨⟨wa 391 rfl rfl, wa 392 rfl rfl, wa 5 rfl rfl, wa 393 rfl rfl⟩, ⟨by decide +kernel, by decide +kernel, by decide +kernel⟩⟩
set_option maxRecDepth 100000 in
theorem cal_X4_third : CalV yX4_third cX4_third 2 (some (.int)) 1 := ⟨⟨wa 399 rfl rfl, wa 400 rfl rfl, wa 5 rfl rfl, wa 401 rfl rfl⟩, ⟨by decide +kernel, by decide +kernel, by decide +kernel⟩⟩
set_option maxRecDepth 100000 in
theorem cal_X4_first : CalV yX4_first cX4_first 2 (some (.int)) 1 := ⟨⟨wa 403 rfl rfl, wa 404 rfl rfl, wa 5 rfl rfl, wa 405 rfl rfl⟩, ⟨by decide +kernel, by decide +kernel, by decide +kernel⟩⟩
set_option maxRecDepth 100000 in
theorem cal_X9_clauseAnswer : CalV yX9_clauseAnswer cX9_clauseAnswer 4 (some (.int)) 1 := ⟨⟨wa 388 rfl rfl, wap (q := (yX9_clauseAnswer, 9)) 6 (by decide +kernel) (by decide +kernel), wa 1 rfl rfl, wa 389 rfl rfl⟩, ⟨by decide +kernel, by decide +kernel, by decide +kernel⟩⟩
set_option maxRecDepth 100000 in
theorem cal_X9_read : CalV yX9_read cX9_read 4 (some (.int)) 0 := ⟨⟨wa 342 rfl rfl, wa 343 rfl rfl, wa 1 rfl rfl, wa 344 rfl rfl⟩, ⟨by decide +kernel, by decide +kernel, by decide +kernel⟩⟩
set_option maxRecDepth 100000 in
theorem cal_X10_here : CalV yX10_here cX10_here 1 (some (.int)) 0 := ⟨⟨wa 1121 rfl rfl, wap (q := (yX10_here, 39)) 50 (by decide +kernel) (by decide +kernel), wa 12 rfl rfl, wa 1122 rfl rfl⟩, ⟨by decide +kernel, by decide +kernel, by decide +kernel⟩⟩
set_option maxRecDepth 100000 in
theorem cal_X10_isDigit : CalV yX10_isDigit cX10_isDigit 1 (some (.boolean)) 0 := ⟨⟨wa 1129 rfl rfl, wap (q := (yX10_isDigit, 39)) 52 (by decide +kernel) (by decide +kernel), wa 12 rfl rfl, wa 1130 rfl rfl⟩, ⟨by decide +kernel, by decide +kernel, by decide +kernel⟩⟩
set_option maxRecDepth 100000 in
theorem cal_X10_readsDigit : CalV yX10_readsDigit cX10_readsDigit 2 (some (.boolean)) 1 := ⟨⟨wa 1125 rfl rfl, wap (q := (yX10_readsDigit, 39)) 51 (by decide +kernel) (by decide +kernel), wa 12 rfl rfl, wa 1126 rfl rfl⟩, ⟨by decide +kernel, by decide +kernel, by decide +kernel⟩⟩
set_option maxRecDepth 100000 in
theorem cal_X10_readsNumber : CalV yX10_readsNumber cX10_readsNumber 5 (some (.boolean)) 1 := ⟨⟨wa 1135 rfl rfl, wap (q := (yX10_readsNumber, 39)) 53 (by decide +kernel) (by decide +kernel), wa 12 rfl rfl, wa 1136 rfl rfl⟩, ⟨by decide +kernel, by decide +kernel, by decide +kernel⟩⟩
set_option maxRecDepth 100000 in
theorem cal_X10_readsClause : CalV yX10_readsClause cX10_readsClause 3 (some (.boolean)) 1 := ⟨⟨wa 1117 rfl rfl, wap (q := (yX10_readsClause, 39)) 49 (by decide +kernel) (by decide +kernel), wa 12 rfl rfl, wa 1118 rfl rfl⟩, ⟨by decide +kernel, by decide +kernel, by decide +kernel⟩⟩
set_option maxRecDepth 100000 in
theorem cal_X10_does : CalV yX10_does cX10_does 4 (some (.int)) 1 := ⟨⟨wa 1139 rfl rfl, wap (q := (yX10_does, 39)) 54 (by decide +kernel) (by decide +kernel), wa 12 rfl rfl, wa 1140 rfl rfl⟩, ⟨by decide +kernel, by decide +kernel, by decide +kernel⟩⟩
set_option maxRecDepth 100000 in
theorem cal_X10_read : CalV yX10_read cX10_read 5 (some (.int)) 0 := ⟨⟨wa 1112 rfl rfl, wa 1113 rfl rfl, wa 12 rfl rfl, wa 1114 rfl rfl⟩, ⟨by decide +kernel, by decide +kernel, by decide +kernel⟩⟩
set_option maxRecDepth 100000 in
theorem cal_X9_of : CalV yX9_of cX9_of 3 (some (.int)) 1 := ⟨⟨wa 412 rfl rfl, wa 413 rfl rfl, wa 1 rfl rfl, wa 414 rfl rfl⟩, ⟨by decide +kernel, by decide +kernel, by decide +kernel⟩⟩
set_option maxRecDepth 100000 in
theorem cal_X10_of : CalV yX10_of cX10_of 2 (some (.int)) 1 := ⟨⟨wa 1056 rfl rfl, wa 1057 rfl rfl, wa 12 rfl rfl, wa 1058 rfl rfl⟩, ⟨by decide +kernel, by decide +kernel, by decide +kernel⟩⟩
set_option maxRecDepth 100000 in
theorem cal_X2_isLike : CalV yX2_isLike cX2_isLike 3 (some (.boolean)) 1 := ⟨⟨wa 432 rfl rfl, wa 433 rfl rfl, wa 4 rfl rfl, wa 434 rfl rfl⟩, ⟨by decide +kernel, by decide +kernel, by decide +kernel⟩⟩
set_option maxRecDepth 100000 in
theorem cal_X1_isLike : CalV yX1_isLike cX1_isLike 2 (some (.boolean)) 1 := ⟨⟨wa 428 rfl rfl, wa 429 rfl rfl, wa 3 rfl rfl, wa 430 rfl rfl⟩, ⟨by decide +kernel, by decide +kernel, by decide +kernel⟩⟩
set_option maxRecDepth 100000 in
theorem cal_X2_copy : CalV yX2_copy cX2_copy 2 none 1 := ⟨⟨wa 440 rfl rfl, wa 441 rfl rfl, wa 4 rfl rfl, wa 442 rfl rfl⟩, ⟨by decide +kernel, by decide +kernel, by decide +kernel⟩⟩
set_option maxRecDepth 100000 in
theorem cal_X1_copy : CalV yX1_copy cX1_copy 2 none 1 := ⟨⟨wa 436 rfl rfl, wa 437 rfl rfl, wa 3 rfl rfl, wa 438 rfl rfl⟩, ⟨by decide +kernel, by decide +kernel, by decide +kernel⟩⟩
set_option maxRecDepth 100000 in
theorem cal_X1_hasInWindow : CalV yX1_hasInWindow cX1_hasInWindow 5 (some (.boolean)) 2 := ⟨⟨wa 452 rfl rfl, wa 453 rfl rfl, wa 3 rfl rfl, wa 454 rfl rfl⟩, ⟨by decide +kernel, by decide +kernel, by decide +kernel⟩⟩
set_option maxRecDepth 100000 in
theorem cal_X2_at : CalV yX2_at cX2_at 10 (some (.long)) 2 := ⟨⟨wa 456 rfl rfl, wa 457 rfl rfl, wa 4 rfl rfl, wa 458 rfl rfl⟩, ⟨by decide +kernel, by decide +kernel, by decide +kernel⟩⟩
set_option maxRecDepth 100000 in
theorem cal_X1_isAnswer : CalV yX1_isAnswer cX1_isAnswer 5 (some (.boolean)) 2 := ⟨⟨wa 448 rfl rfl, wa 449 rfl rfl, wa 3 rfl rfl, wa 450 rfl rfl⟩, ⟨by decide +kernel, by decide +kernel, by decide +kernel⟩⟩
set_option maxRecDepth 100000 in
theorem cal_X0_cellAt : CalV yX0_cellAt cX0_cellAt 3 (some (.int)) 2 := ⟨⟨wa 461 rfl rfl, wap (q := (yX0_cellAt, 6)) 9 (by decide +kernel) (by decide +kernel), wa 7 rfl rfl, wa 462 rfl rfl⟩, ⟨by decide +kernel, by decide +kernel, by decide +kernel⟩⟩
set_option maxRecDepth 100000 in
theorem cal_X0_setLabel : CalV yX0_setLabel cX0_setLabel 3 none 2 := ⟨⟨wa 466 rfl rfl, wap (q := (yX0_setLabel, 6)) 10 (by decide +kernel) (by decide +kernel), wa 7 rfl rfl, wa 467 rfl rfl⟩, ⟨by decide +kernel, by decide +kernel, by decide +kernel⟩⟩
set_option maxRecDepth 100000 in
theorem cal_X0_look : CalV yX0_look cX0_look 4 none 1 := ⟨⟨wa 424 rfl rfl, wa 425 rfl rfl, wa 7 rfl rfl, wa 426 rfl rfl⟩, ⟨by decide +kernel, by decide +kernel, by decide +kernel⟩⟩
set_option maxRecDepth 100000 in
theorem cal_X9_answersNow : CalV yX9_answersNow cX9_answersNow 1 (some (.object "TwoLetterForms$Answers")) 0 := ⟨⟨wa 421 rfl rfl, wap (q := (yX9_answersNow, 9)) 8 (by decide +kernel) (by decide +kernel), wa 1 rfl rfl, wa 422 rfl rfl⟩, ⟨by decide +kernel, by decide +kernel, by decide +kernel⟩⟩
set_option maxRecDepth 100000 in
theorem cal_X2_isLeftBy : CalV yX2_isLeftBy cX2_isLeftBy 6 (some (.boolean)) 4 := ⟨⟨wa 477 rfl rfl, wa 478 rfl rfl, wa 4 rfl rfl, wa 479 rfl rfl⟩, ⟨by decide +kernel, by decide +kernel, by decide +kernel⟩⟩
set_option maxRecDepth 100000 in
theorem cal_X8_add : CalV yX8_add cX8_add 6 none 4 := ⟨⟨wa 482 rfl rfl, wap (q := (yX8_add, 2)) 12 (by decide +kernel) (by decide +kernel), wa 8 rfl rfl, wa 483 rfl rfl⟩, ⟨by decide +kernel, by decide +kernel, by decide +kernel⟩⟩
set_option maxRecDepth 100000 in
theorem cal_X8_look : CalV yX8_look cX8_look 7 none 1 := ⟨⟨wa 473 rfl rfl, wa 474 rfl rfl, wa 8 rfl rfl, wa 475 rfl rfl⟩, ⟨by decide +kernel, by decide +kernel, by decide +kernel⟩⟩
set_option maxRecDepth 100000 in
theorem cal_X9_unitsNow : CalV yX9_unitsNow cX9_unitsNow 1 (some (.object "TwoLetterForms$Units")) 0 := ⟨⟨wa 470 rfl rfl, wap (q := (yX9_unitsNow, 9)) 11 (by decide +kernel) (by decide +kernel), wa 1 rfl rfl, wa 471 rfl rfl⟩, ⟨by decide +kernel, by decide +kernel, by decide +kernel⟩⟩
set_option maxRecDepth 100000 in
theorem cal_X0_labelAt : CalV yX0_labelAt cX0_labelAt 2 (some (.int)) 1 := ⟨⟨wa 502 rfl rfl, wa 503 rfl rfl, wa 7 rfl rfl, wa 504 rfl rfl⟩, ⟨by decide +kernel, by decide +kernel, by decide +kernel⟩⟩
set_option maxRecDepth 100000 in
theorem cal_X0_await : CalV yX0_await cX0_await 3 (some (.int)) 2 := ⟨⟨wa 499 rfl rfl, wap (q := (yX0_await, 6)) 15 (by decide +kernel) (by decide +kernel), wa 7 rfl rfl, wa 500 rfl rfl⟩, ⟨by decide +kernel, by decide +kernel, by decide +kernel⟩⟩
set_option maxRecDepth 100000 in
theorem cal_X0_behind : CalV yX0_behind cX0_behind 3 (some (.int)) 1 := ⟨⟨wa 507 rfl rfl, wap (q := (yX0_behind, 6)) 16 (by decide +kernel) (by decide +kernel), wa 7 rfl rfl, wa 508 rfl rfl⟩, ⟨by decide +kernel, by decide +kernel, by decide +kernel⟩⟩
set_option maxRecDepth 100000 in
theorem cal_X8_get : CalV yX8_get cX8_get 4 (some (.int)) 2 := ⟨⟨wa 510 rfl rfl, wa 511 rfl rfl, wa 8 rfl rfl, wa 512 rfl rfl⟩, ⟨by decide +kernel, by decide +kernel, by decide +kernel⟩⟩
set_option maxRecDepth 100000 in
theorem cal_X0_xOf : CalS yX0_xOf cX0_xOf 1 (some (.int)) 1 := ⟨⟨wa 514 rfl rfl, wa 7 rfl rfl, wa 515 rfl rfl⟩, ⟨by decide +kernel, by decide +kernel, by decide +kernel⟩⟩
set_option maxRecDepth 100000 in
theorem cal_X0_yOf : CalS yX0_yOf cX0_yOf 1 (some (.int)) 1 := ⟨⟨wa 517 rfl rfl, wa 7 rfl rfl, wa 518 rfl rfl⟩, ⟨by decide +kernel, by decide +kernel, by decide +kernel⟩⟩
set_option maxRecDepth 100000 in
theorem cal_X0_spread : CalV yX0_spread cX0_spread 9 none 2 := ⟨⟨wa 495 rfl rfl, wap (q := (yX0_spread, 6)) 14 (by decide +kernel) (by decide +kernel), wa 7 rfl rfl, wa 496 rfl rfl⟩, ⟨by decide +kernel, by decide +kernel, by decide +kernel⟩⟩
set_option maxRecDepth 100000 in
theorem cal_X0_findFamilies : CalV yX0_findFamilies cX0_findFamilies 3 none 1 := ⟨⟨wa 489 rfl rfl, wa 490 rfl rfl, wa 7 rfl rfl, wa 491 rfl rfl⟩, ⟨by decide +kernel, by decide +kernel, by decide +kernel⟩⟩
set_option maxRecDepth 100000 in
theorem cal_X9_answersInFamilies : CalV yX9_answersInFamilies cX9_answersInFamilies 1 (some (.object "TwoLetterForms$Answers")) 0 := ⟨⟨wa 486 rfl rfl, wap (q := (yX9_answersInFamilies, 9)) 13 (by decide +kernel) (by decide +kernel), wa 1 rfl rfl, wa 487 rfl rfl⟩, ⟨by decide +kernel, by decide +kernel, by decide +kernel⟩⟩
set_option maxRecDepth 100000 in
theorem cal_X3_at : CalV yX3_at cX3_at 5 (some (.long)) 1 := ⟨⟨wa 534 rfl rfl, wap (q := (yX3_at, 6)) 19 (by decide +kernel) (by decide +kernel), wa 9 rfl rfl, wa 535 rfl rfl⟩, ⟨by decide +kernel, by decide +kernel, by decide +kernel⟩⟩
set_option maxRecDepth 100000 in
theorem cal_X3_greatestFrom : CalV yX3_greatestFrom cX3_greatestFrom 7 (some (.int)) 1 := ⟨⟨wa 530 rfl rfl, wap (q := (yX3_greatestFrom, 6)) 18 (by decide +kernel) (by decide +kernel), wa 9 rfl rfl, wa 531 rfl rfl⟩, ⟨by decide +kernel, by decide +kernel, by decide +kernel⟩⟩
set_option maxRecDepth 100000 in
theorem cal_X3_keep : CalV yX3_keep cX3_keep 10 none 1 := ⟨⟨wa 538 rfl rfl, wap (q := (yX3_keep, 6)) 20 (by decide +kernel) (by decide +kernel), wa 9 rfl rfl, wa 539 rfl rfl⟩, ⟨by decide +kernel, by decide +kernel, by decide +kernel⟩⟩
set_option maxRecDepth 100000 in
theorem cal_X3_goBehind : CalV yX3_goBehind cX3_goBehind 6 none 1 := ⟨⟨wa 542 rfl rfl, wap (q := (yX3_goBehind, 6)) 21 (by decide +kernel) (by decide +kernel), wa 9 rfl rfl, wa 543 rfl rfl⟩, ⟨by decide +kernel, by decide +kernel, by decide +kernel⟩⟩
set_option maxRecDepth 100000 in
theorem cal_X3_isRowBeyond : CalV yX3_isRowBeyond cX3_isRowBeyond 2 (some (.boolean)) 0 := ⟨⟨wa 546 rfl rfl, wap (q := (yX3_isRowBeyond, 6)) 22 (by decide +kernel) (by decide +kernel), wa 9 rfl rfl, wa 547 rfl rfl⟩, ⟨by decide +kernel, by decide +kernel, by decide +kernel⟩⟩
set_option maxRecDepth 100000 in
theorem cal_X3_look : CalV yX3_look cX3_look 4 none 1 := ⟨⟨wa 524 rfl rfl, wa 525 rfl rfl, wa 9 rfl rfl, wa 526 rfl rfl⟩, ⟨by decide +kernel, by decide +kernel, by decide +kernel⟩⟩
set_option maxRecDepth 100000 in
theorem cal_X9_partsNow : CalV yX9_partsNow cX9_partsNow 1 (some (.object "TwoLetterForms$Parts")) 0 := ⟨⟨wa 521 rfl rfl, wap (q := (yX9_partsNow, 9)) 17 (by decide +kernel) (by decide +kernel), wa 1 rfl rfl, wa 522 rfl rfl⟩, ⟨by decide +kernel, by decide +kernel, by decide +kernel⟩⟩
set_option maxRecDepth 100000 in
theorem cal_X3_above : CalV yX3_above cX3_above 2 (some (.long)) 1 := ⟨⟨wa 555 rfl rfl, wa 556 rfl rfl, wa 9 rfl rfl, wa 557 rfl rfl⟩, ⟨by decide +kernel, by decide +kernel, by decide +kernel⟩⟩
set_option maxRecDepth 100000 in
theorem cal_X3_below : CalV yX3_below cX3_below 2 (some (.long)) 1 := ⟨⟨wa 559 rfl rfl, wa 560 rfl rfl, wa 9 rfl rfl, wa 561 rfl rfl⟩, ⟨by decide +kernel, by decide +kernel, by decide +kernel⟩⟩
set_option maxRecDepth 100000 in
theorem cal_X9_convergentAnswers : CalV yX9_convergentAnswers cX9_convergentAnswers 4 (some (.int)) 0 := ⟨⟨wa 552 rfl rfl, wap (q := (yX9_convergentAnswers, 9)) 23 (by decide +kernel) (by decide +kernel), wa 1 rfl rfl, wa 553 rfl rfl⟩, ⟨by decide +kernel, by decide +kernel, by decide +kernel⟩⟩
set_option maxRecDepth 100000 in
theorem cal_X9_told : CalV yX9_told cX9_told 2 (some (.int)) 1 := ⟨⟨wa 416 rfl rfl, wa 417 rfl rfl, wa 1 rfl rfl, wa 418 rfl rfl⟩, ⟨by decide +kernel, by decide +kernel, by decide +kernel⟩⟩
set_option maxRecDepth 100000 in
theorem cal_X10_power : CalS yX10_power cX10_power 6 (some (.long)) 2 := ⟨⟨wa 1006 rfl rfl, wa 12 rfl rfl, wa 1007 rfl rfl⟩, ⟨by decide +kernel, by decide +kernel, by decide +kernel⟩⟩
set_option maxRecDepth 100000 in
theorem cal_X10_valueAt : CalV yX10_valueAt cX10_valueAt 8 (some (.long)) 2 := ⟨⟨wa 1003 rfl rfl, wap (q := (yX10_valueAt, 39)) 34 (by decide +kernel) (by decide +kernel), wa 12 rfl rfl, wa 1004 rfl rfl⟩, ⟨by decide +kernel, by decide +kernel, by decide +kernel⟩⟩
set_option maxRecDepth 100000 in
theorem cal_X10_tellsAnswers : CalV yX10_tellsAnswers cX10_tellsAnswers 3 none 0 := ⟨⟨wa 1018 rfl rfl, wap (q := (yX10_tellsAnswers, 39)) 36 (by decide +kernel) (by decide +kernel), wa 12 rfl rfl, wa 1019 rfl rfl⟩, ⟨by decide +kernel, by decide +kernel, by decide +kernel⟩⟩
set_option maxRecDepth 100000 in
theorem cal_X10_tellsUnits : CalV yX10_tellsUnits cX10_tellsUnits 8 none 0 := ⟨⟨wa 1065 rfl rfl, wap (q := (yX10_tellsUnits, 39)) 43 (by decide +kernel) (by decide +kernel), wa 12 rfl rfl, wa 1066 rfl rfl⟩, ⟨by decide +kernel, by decide +kernel, by decide +kernel⟩⟩
set_option maxRecDepth 100000 in
theorem cal_X10_cell : CalV yX10_cell cX10_cell 3 (some (.int)) 2 := ⟨⟨wa 1073 rfl rfl, wap (q := (yX10_cell, 39)) 45 (by decide +kernel) (by decide +kernel), wa 12 rfl rfl, wa 1074 rfl rfl⟩, ⟨by decide +kernel, by decide +kernel, by decide +kernel⟩⟩
set_option maxRecDepth 100000 in
theorem cal_X10_leastOf : CalV yX10_leastOf cX10_leastOf 3 (some (.int)) 1 := ⟨⟨wa 1081 rfl rfl, wap (q := (yX10_leastOf, 39)) 47 (by decide +kernel) (by decide +kernel), wa 12 rfl rfl, wa 1082 rfl rfl⟩, ⟨by decide +kernel, by decide +kernel, by decide +kernel⟩⟩
set_option maxRecDepth 100000 in
theorem cal_X10_links : CalV yX10_links cX10_links 5 none 2 := ⟨⟨wa 1077 rfl rfl, wap (q := (yX10_links, 39)) 46 (by decide +kernel) (by decide +kernel), wa 12 rfl rfl, wa 1078 rfl rfl⟩, ⟨by decide +kernel, by decide +kernel, by decide +kernel⟩⟩
set_option maxRecDepth 100000 in
theorem cal_X10_tellsFamilies : CalV yX10_tellsFamilies cX10_tellsFamilies 5 none 0 := ⟨⟨wa 1069 rfl rfl, wap (q := (yX10_tellsFamilies, 39)) 44 (by decide +kernel) (by decide +kernel), wa 12 rfl rfl, wa 1070 rfl rfl⟩, ⟨by decide +kernel, by decide +kernel, by decide +kernel⟩⟩
set_option maxRecDepth 100000 in
theorem cal_X10_rowAt : CalV yX10_rowAt cX10_rowAt 6 (some (.long)) 1 := ⟨⟨wa 1038 rfl rfl, wap (q := (yX10_rowAt, 39)) 40 (by decide +kernel) (by decide +kernel), wa 12 rfl rfl, wa 1039 rfl rfl⟩, ⟨by decide +kernel, by decide +kernel, by decide +kernel⟩⟩
set_option maxRecDepth 100000 in
theorem cal_X10_greatest : CalV yX10_greatest cX10_greatest 7 (some (.int)) 1 := ⟨⟨wa 1034 rfl rfl, wap (q := (yX10_greatest, 39)) 39 (by decide +kernel) (by decide +kernel), wa 12 rfl rfl, wa 1035 rfl rfl⟩, ⟨by decide +kernel, by decide +kernel, by decide +kernel⟩⟩
set_option maxRecDepth 100000 in
theorem cal_X10_goesOn : CalV yX10_goesOn cX10_goesOn 4 (some (.boolean)) 1 := ⟨⟨wa 1042 rfl rfl, wap (q := (yX10_goesOn, 39)) 41 (by decide +kernel) (by decide +kernel), wa 12 rfl rfl, wa 1043 rfl rfl⟩, ⟨by decide +kernel, by decide +kernel, by decide +kernel⟩⟩
set_option maxRecDepth 100000 in
theorem cal_X10_tellsParts : CalV yX10_tellsParts cX10_tellsParts 3 none 0 := ⟨⟨wa 1030 rfl rfl, wap (q := (yX10_tellsParts, 39)) 38 (by decide +kernel) (by decide +kernel), wa 12 rfl rfl, wa 1031 rfl rfl⟩, ⟨by decide +kernel, by decide +kernel, by decide +kernel⟩⟩
set_option maxRecDepth 100000 in
theorem cal_X10_tellsConvergent : CalV yX10_tellsConvergent cX10_tellsConvergent 11 none 1 := ⟨⟨wa 1053 rfl rfl, wap (q := (yX10_tellsConvergent, 39)) 42 (by decide +kernel) (by decide +kernel), wa 12 rfl rfl, wa 1054 rfl rfl⟩, ⟨by decide +kernel, by decide +kernel, by decide +kernel⟩⟩
set_option maxRecDepth 100000 in
theorem cal_X10_answering : CalV yX10_answering cX10_answering 3 (some (.int)) 0 := ⟨⟨wa 1085 rfl rfl, wap (q := (yX10_answering, 39)) 48 (by decide +kernel) (by decide +kernel), wa 12 rfl rfl, wa 1086 rfl rfl⟩, ⟨by decide +kernel, by decide +kernel, by decide +kernel⟩⟩
set_option maxRecDepth 100000 in
theorem cal_X10_told : CalV yX10_told cX10_told 2 (some (.int)) 1 := ⟨⟨wa 1060 rfl rfl, wa 1061 rfl rfl, wa 12 rfl rfl, wa 1062 rfl rfl⟩, ⟨by decide +kernel, by decide +kernel, by decide +kernel⟩⟩
set_option maxRecDepth 100000 in
theorem cal_X9_value : CalV yX9_value cX9_value 3 (some (.long)) 2 := ⟨⟨wa 564 rfl rfl, wa 565 rfl rfl, wa 1 rfl rfl, wa 566 rfl rfl⟩, ⟨by decide +kernel, by decide +kernel, by decide +kernel⟩⟩
set_option maxRecDepth 100000 in
theorem cal_X10_value : CalV yX10_value cX10_value 3 (some (.long)) 2 := ⟨⟨wa 1088 rfl rfl, wa 1089 rfl rfl, wa 12 rfl rfl, wa 1090 rfl rfl⟩, ⟨by decide +kernel, by decide +kernel, by decide +kernel⟩⟩
set_option maxRecDepth 100000 in
theorem cal_X0_cellOfAnswer : CalV yX0_cellOfAnswer cX0_cellOfAnswer 4 (some (.int)) 1 := ⟨⟨wa 574 rfl rfl, wa 575 rfl rfl, wa 7 rfl rfl, wa 576 rfl rfl⟩, ⟨by decide +kernel, by decide +kernel, by decide +kernel⟩⟩
set_option maxRecDepth 100000 in
theorem cal_X9_answer : CalV yX9_answer cX9_answer 5 (some (.int)) 2 := ⟨⟨wa 570 rfl rfl, wa 571 rfl rfl, wa 1 rfl rfl, wa 572 rfl rfl⟩, ⟨by decide +kernel, by decide +kernel, by decide +kernel⟩⟩
set_option maxRecDepth 100000 in
theorem cal_X10_answer : CalV yX10_answer cX10_answer 3 (some (.int)) 2 := ⟨⟨wa 1094 rfl rfl, wa 1095 rfl rfl, wa 12 rfl rfl, wa 1096 rfl rfl⟩, ⟨by decide +kernel, by decide +kernel, by decide +kernel⟩⟩
set_option maxRecDepth 100000 in
theorem cal_J9_floorMod_f86c9 : CalS yJ9_floorMod_f86c9 cJ9_floorMod_f86c9 6 (some (.long)) 2 := ⟨⟨wa 595 rfl rfl, wa 6 rfl rfl, wa 596 rfl rfl⟩, ⟨by decide +kernel, by decide +kernel, by decide +kernel⟩⟩
set_option maxRecDepth 100000 in
theorem cal_J9_floorMod_1978a : CalS yJ9_floorMod_1978a cJ9_floorMod_1978a 3 (some (.int)) 2 := ⟨⟨wa 592 rfl rfl, wa 6 rfl rfl, wa 593 rfl rfl⟩, ⟨by decide +kernel, by decide +kernel, by decide +kernel⟩⟩
set_option maxRecDepth 100000 in
theorem cal_X2_remaindersBy : CalV yX2_remaindersBy cX2_remaindersBy 5 (some (.int)) 1 := ⟨⟨wa 587 rfl rfl, wa 588 rfl rfl, wa 4 rfl rfl, wa 589 rfl rfl⟩, ⟨by decide +kernel, by decide +kernel, by decide +kernel⟩⟩
set_option maxRecDepth 100000 in
theorem cal_J6_bitCount_0f7a4 : CalS yJ6_bitCount_0f7a4 cJ6_bitCount_0f7a4 1 (some (.int)) 1 := ⟨⟨wa 598 rfl rfl, wa 15 rfl rfl, wa 599 rfl rfl⟩, ⟨by decide +kernel, by decide +kernel, by decide +kernel⟩⟩
set_option maxRecDepth 100000 in
theorem cal_J9_floorMod_7cf53 : CalS yJ9_floorMod_7cf53 cJ9_floorMod_7cf53 3 (some (.int)) 2 := ⟨⟨wa 609 rfl rfl, wa 6 rfl rfl, wa 610 rfl rfl⟩, ⟨by decide +kernel, by decide +kernel, by decide +kernel⟩⟩
set_option maxRecDepth 100000 in
theorem cal_X1_isBarredBy : CalV yX1_isBarredBy cX1_isBarredBy 2 (some (.boolean)) 1 := ⟨⟨wa 604 rfl rfl, wa 605 rfl rfl, wa 3 rfl rfl, wa 606 rfl rfl⟩, ⟨by decide +kernel, by decide +kernel, by decide +kernel⟩⟩
set_option maxRecDepth 100000 in
theorem cal_X9_prime : CalV yX9_prime cX9_prime 4 (some (.int)) 2 := ⟨⟨wa 581 rfl rfl, wa 582 rfl rfl, wa 1 rfl rfl, wa 583 rfl rfl⟩, ⟨by decide +kernel, by decide +kernel, by decide +kernel⟩⟩
set_option maxRecDepth 100000 in
theorem cal_X10_remainders : CalV yX10_remainders cX10_remainders 4 (some (.int)) 1 := ⟨⟨wa 999 rfl rfl, wap (q := (yX10_remainders, 39)) 33 (by decide +kernel) (by decide +kernel), wa 12 rfl rfl, wa 1000 rfl rfl⟩, ⟨by decide +kernel, by decide +kernel, by decide +kernel⟩⟩
set_option maxRecDepth 100000 in
theorem cal_X10_bars : CalV yX10_bars cX10_bars 3 (some (.boolean)) 1 := ⟨⟨wa 1010 rfl rfl, wap (q := (yX10_bars, 39)) 35 (by decide +kernel) (by decide +kernel), wa 12 rfl rfl, wa 1011 rfl rfl⟩, ⟨by decide +kernel, by decide +kernel, by decide +kernel⟩⟩
set_option maxRecDepth 100000 in
theorem cal_X10_prime : CalV yX10_prime cX10_prime 4 (some (.int)) 2 := ⟨⟨wa 993 rfl rfl, wa 994 rfl rfl, wa 12 rfl rfl, wa 995 rfl rfl⟩, ⟨by decide +kernel, by decide +kernel, by decide +kernel⟩⟩
set_option maxRecDepth 100000 in
theorem cal_X1_firstBar : CalV yX1_firstBar cX1_firstBar 2 (some (.int)) 0 := ⟨⟨wa 616 rfl rfl, wa 617 rfl rfl, wa 3 rfl rfl, wa 618 rfl rfl⟩, ⟨by decide +kernel, by decide +kernel, by decide +kernel⟩⟩
set_option maxRecDepth 100000 in
theorem cal_X9_reason : CalV yX9_reason cX9_reason 3 (some (.int)) 1 := ⟨⟨wa 612 rfl rfl, wa 613 rfl rfl, wa 1 rfl rfl, wa 614 rfl rfl⟩, ⟨by decide +kernel, by decide +kernel, by decide +kernel⟩⟩
set_option maxRecDepth 100000 in
theorem cal_X10_firstBar : CalV yX10_firstBar cX10_firstBar 2 (some (.int)) 0 := ⟨⟨wa 1022 rfl rfl, wap (q := (yX10_firstBar, 39)) 37 (by decide +kernel) (by decide +kernel), wa 12 rfl rfl, wa 1023 rfl rfl⟩, ⟨by decide +kernel, by decide +kernel, by decide +kernel⟩⟩
set_option maxRecDepth 100000 in
theorem cal_X10_reason : CalV yX10_reason cX10_reason 3 (some (.int)) 1 := ⟨⟨wa 1013 rfl rfl, wa 1014 rfl rfl, wa 12 rfl rfl, wa 1015 rfl rfl⟩, ⟨by decide +kernel, by decide +kernel, by decide +kernel⟩⟩
set_option maxRecDepth 100000 in
theorem cal_X9_unit : CalV yX9_unit cX9_unit 4 (some (.int)) 2 := ⟨⟨wa 622 rfl rfl, wa 623 rfl rfl, wa 1 rfl rfl, wa 624 rfl rfl⟩, ⟨by decide +kernel, by decide +kernel, by decide +kernel⟩⟩
set_option maxRecDepth 100000 in
theorem cal_X10_unit : CalV yX10_unit cX10_unit 3 (some (.int)) 2 := ⟨⟨wa 1098 rfl rfl, wa 1099 rfl rfl, wa 12 rfl rfl, wa 1100 rfl rfl⟩, ⟨by decide +kernel, by decide +kernel, by decide +kernel⟩⟩
set_option maxRecDepth 100000 in
theorem cal_X0_sizeOfFamily : CalV yX0_sizeOfFamily cX0_sizeOfFamily 4 (some (.int)) 1 := ⟨⟨wa 631 rfl rfl, wa 632 rfl rfl, wa 7 rfl rfl, wa 633 rfl rfl⟩, ⟨by decide +kernel, by decide +kernel, by decide +kernel⟩⟩
set_option maxRecDepth 100000 in
theorem cal_X9_family : CalV yX9_family cX9_family 3 (some (.int)) 1 := ⟨⟨wa 627 rfl rfl, wa 628 rfl rfl, wa 1 rfl rfl, wa 629 rfl rfl⟩, ⟨by decide +kernel, by decide +kernel, by decide +kernel⟩⟩
set_option maxRecDepth 100000 in
theorem cal_X10_family : CalV yX10_family cX10_family 4 (some (.int)) 1 := ⟨⟨wa 1103 rfl rfl, wa 1104 rfl rfl, wa 12 rfl rfl, wa 1105 rfl rfl⟩, ⟨by decide +kernel, by decide +kernel, by decide +kernel⟩⟩
set_option maxRecDepth 100000 in
theorem cal_X3_get : CalV yX3_get cX3_get 2 (some (.int)) 1 := ⟨⟨wa 639 rfl rfl, wa 640 rfl rfl, wa 9 rfl rfl, wa 641 rfl rfl⟩, ⟨by decide +kernel, by decide +kernel, by decide +kernel⟩⟩
set_option maxRecDepth 100000 in
theorem cal_X9_part : CalV yX9_part cX9_part 3 (some (.int)) 1 := ⟨⟨wa 635 rfl rfl, wa 636 rfl rfl, wa 1 rfl rfl, wa 637 rfl rfl⟩, ⟨by decide +kernel, by decide +kernel, by decide +kernel⟩⟩
set_option maxRecDepth 100000 in
theorem cal_X10_part : CalV yX10_part cX10_part 2 (some (.int)) 1 := ⟨⟨wa 1025 rfl rfl, wa 1026 rfl rfl, wa 12 rfl rfl, wa 1027 rfl rfl⟩, ⟨by decide +kernel, by decide +kernel, by decide +kernel⟩⟩
set_option maxRecDepth 100000 in
theorem cal_X9_convergent : CalV yX9_convergent cX9_convergent 4 (some (.long)) 2 := ⟨⟨wa 643 rfl rfl, wa 644 rfl rfl, wa 1 rfl rfl, wa 645 rfl rfl⟩, ⟨by decide +kernel, by decide +kernel, by decide +kernel⟩⟩
set_option maxRecDepth 100000 in
theorem cal_X10_convergent : CalV yX10_convergent cX10_convergent 3 (some (.long)) 2 := ⟨⟨wa 1047 rfl rfl, wa 1048 rfl rfl, wa 12 rfl rfl, wa 1049 rfl rfl⟩, ⟨by decide +kernel, by decide +kernel, by decide +kernel⟩⟩
set_option maxRecDepth 100000 in
theorem cal_X9_see : CalV yX9_see cX9_see 4 (some (.int)) 3 := ⟨⟨wa 647 rfl rfl, wa 648 rfl rfl, wa 1 rfl rfl, wa 649 rfl rfl⟩, ⟨by decide +kernel, by decide +kernel, by decide +kernel⟩⟩
set_option maxRecDepth 100000 in
theorem cal_X10_see : CalV yX10_see cX10_see 4 (some (.int)) 3 := ⟨⟨wa 1147 rfl rfl, wa 1148 rfl rfl, wa 12 rfl rfl, wa 1149 rfl rfl⟩, ⟨by decide +kernel, by decide +kernel, by decide +kernel⟩⟩
set_option maxRecDepth 100000 in
theorem cal_X9_isAsSeen : CalV yX9_isAsSeen cX9_isAsSeen 3 (some (.boolean)) 1 := ⟨⟨wa 659 rfl rfl, wap (q := (yX9_isAsSeen, 9)) 24 (by decide +kernel) (by decide +kernel), wa 1 rfl rfl, wa 660 rfl rfl⟩, ⟨by decide +kernel, by decide +kernel, by decide +kernel⟩⟩
set_option maxRecDepth 100000 in
theorem cal_X9_fits : CalV yX9_fits cX9_fits 7 (some (.int)) 2 := ⟨⟨wa 653 rfl rfl, wa 654 rfl rfl, wa 1 rfl rfl, wa 655 rfl rfl⟩, ⟨by decide +kernel, by decide +kernel, by decide +kernel⟩⟩
set_option maxRecDepth 100000 in
theorem cal_X10_fits : CalV yX10_fits cX10_fits 10 (some (.int)) 2 := ⟨⟨wa 1151 rfl rfl, wa 1152 rfl rfl, wa 12 rfl rfl, wa 1153 rfl rfl⟩, ⟨by decide +kernel, by decide +kernel, by decide +kernel⟩⟩
set_option maxRecDepth 100000 in
theorem cal_X1_valuesAboveM : CalV yX1_valuesAboveM cX1_valuesAboveM 5 (some (.long)) 0 := ⟨⟨wa 666 rfl rfl, wa 667 rfl rfl, wa 3 rfl rfl, wa 668 rfl rfl⟩, ⟨by decide +kernel, by decide +kernel, by decide +kernel⟩⟩
set_option maxRecDepth 100000 in
theorem cal_X1_twos : CalV yX1_twos cX1_twos 3 (some (.long)) 0 := ⟨⟨wa 670 rfl rfl, wa 671 rfl rfl, wa 3 rfl rfl, wa 672 rfl rfl⟩, ⟨by decide +kernel, by decide +kernel, by decide +kernel⟩⟩
set_option maxRecDepth 100000 in
theorem cal_J9_abs_067f4 : CalS yJ9_abs_067f4 cJ9_abs_067f4 2 (some (.long)) 1 := ⟨⟨wa 678 rfl rfl, wa 6 rfl rfl, wa 679 rfl rfl⟩, ⟨by decide +kernel, by decide +kernel, by decide +kernel⟩⟩
set_option maxRecDepth 100000 in
theorem cal_X9_commonDivisor : CalS yX9_commonDivisor cX9_commonDivisor 11 (some (.long)) 2 := ⟨⟨wa 681 rfl rfl, wa 1 rfl rfl, wa 682 rfl rfl⟩, ⟨by decide +kernel, by decide +kernel, by decide +kernel⟩⟩
set_option maxRecDepth 100000 in
theorem cal_X9_lowest : CalS yX9_lowest cX9_lowest 7 (some (.long)) 3 := ⟨⟨wa 675 rfl rfl, wa 1 rfl rfl, wa 676 rfl rfl⟩, ⟨by decide +kernel, by decide +kernel, by decide +kernel⟩⟩
set_option maxRecDepth 100000 in
theorem cal_X9_odds : CalV yX9_odds cX9_odds 2 (some (.long)) 1 := ⟨⟨wa 662 rfl rfl, wa 663 rfl rfl, wa 1 rfl rfl, wa 664 rfl rfl⟩, ⟨by decide +kernel, by decide +kernel, by decide +kernel⟩⟩
set_option maxRecDepth 100000 in
theorem cal_X10_lowest : CalS yX10_lowest cX10_lowest 11 (some (.long)) 3 := ⟨⟨wa 1159 rfl rfl, wa 12 rfl rfl, wa 1160 rfl rfl⟩, ⟨by decide +kernel, by decide +kernel, by decide +kernel⟩⟩
set_option maxRecDepth 100000 in
theorem cal_X10_odds : CalV yX10_odds cX10_odds 6 (some (.long)) 1 := ⟨⟨wa 1155 rfl rfl, wa 1156 rfl rfl, wa 12 rfl rfl, wa 1157 rfl rfl⟩, ⟨by decide +kernel, by decide +kernel, by decide +kernel⟩⟩
set_option maxRecDepth 100000 in
theorem cal_X1_valuesTogether : CalV yX1_valuesTogether cX1_valuesTogether 5 (some (.long)) 0 := ⟨⟨wa 688 rfl rfl, wa 689 rfl rfl, wa 3 rfl rfl, wa 690 rfl rfl⟩, ⟨by decide +kernel, by decide +kernel, by decide +kernel⟩⟩
set_option maxRecDepth 100000 in
theorem cal_X9_mean : CalV yX9_mean cX9_mean 2 (some (.long)) 1 := ⟨⟨wa 684 rfl rfl, wa 685 rfl rfl, wa 1 rfl rfl, wa 686 rfl rfl⟩, ⟨by decide +kernel, by decide +kernel, by decide +kernel⟩⟩
set_option maxRecDepth 100000 in
theorem cal_X10_mean : CalV yX10_mean cX10_mean 6 (some (.long)) 1 := ⟨⟨wa 1162 rfl rfl, wa 1163 rfl rfl, wa 12 rfl rfl, wa 1164 rfl rfl⟩, ⟨by decide +kernel, by decide +kernel, by decide +kernel⟩⟩
set_option maxRecDepth 100000 in
theorem cal_X9_event : CalV yX9_event cX9_event 3 (some (.int)) 2 := ⟨⟨wa 692 rfl rfl, wa 693 rfl rfl, wa 1 rfl rfl, wa 694 rfl rfl⟩, ⟨by decide +kernel, by decide +kernel, by decide +kernel⟩⟩
set_option maxRecDepth 100000 in
theorem cal_X10_event : CalV yX10_event cX10_event 3 (some (.int)) 2 := ⟨⟨wa 1166 rfl rfl, wa 1167 rfl rfl, wa 12 rfl rfl, wa 1168 rfl rfl⟩, ⟨by decide +kernel, by decide +kernel, by decide +kernel⟩⟩
set_option maxRecDepth 100000 in
theorem cal_J9_min_7cf53 : CalS yJ9_min_7cf53 cJ9_min_7cf53 2 (some (.int)) 2 := ⟨⟨wa 710 rfl rfl, wa 6 rfl rfl, wa 711 rfl rfl⟩, ⟨by decide +kernel, by decide +kernel, by decide +kernel⟩⟩
set_option maxRecDepth 100000 in
theorem cal_X2_raise : CalV yX2_raise cX2_raise 2 none 1 := ⟨⟨wa 705 rfl rfl, wa 706 rfl rfl, wa 4 rfl rfl, wa 707 rfl rfl⟩, ⟨by decide +kernel, by decide +kernel, by decide +kernel⟩⟩
set_option maxRecDepth 100000 in
theorem cal_X1_addToM : CalV yX1_addToM cX1_addToM 2 none 1 := ⟨⟨wa 714 rfl rfl, wa 715 rfl rfl, wa 3 rfl rfl, wa 716 rfl rfl⟩, ⟨by decide +kernel, by decide +kernel, by decide +kernel⟩⟩
set_option maxRecDepth 100000 in
theorem cal_X9_tryEvents : CalV yX9_tryEvents cX9_tryEvents 3 none 0 := ⟨⟨wa 701 rfl rfl, wap (q := (yX9_tryEvents, 9)) 25 (by decide +kernel) (by decide +kernel), wa 1 rfl rfl, wa 702 rfl rfl⟩, ⟨by decide +kernel, by decide +kernel, by decide +kernel⟩⟩
set_option maxRecDepth 100000 in
theorem cal_X1_howManyAnswers : CalV yX1_howManyAnswers cX1_howManyAnswers 4 (some (.int)) 0 := ⟨⟨wa 719 rfl rfl, wa 720 rfl rfl, wa 3 rfl rfl, wa 721 rfl rfl⟩, ⟨by decide +kernel, by decide +kernel, by decide +kernel⟩⟩
set_option maxRecDepth 100000 in
theorem cal_X9_after : CalV yX9_after cX9_after 2 (some (.int)) 1 := ⟨⟨wa 696 rfl rfl, wa 697 rfl rfl, wa 1 rfl rfl, wa 698 rfl rfl⟩, ⟨by decide +kernel, by decide +kernel, by decide +kernel⟩⟩
set_option maxRecDepth 100000 in
theorem cal_J9_min_f86c9 : CalS yJ9_min_f86c9 cJ9_min_f86c9 4 (some (.long)) 2 := ⟨⟨wa 1178 rfl rfl, wa 6 rfl rfl, wa 1179 rfl rfl⟩, ⟨by decide +kernel, by decide +kernel, by decide +kernel⟩⟩
set_option maxRecDepth 100000 in
theorem cal_X10_happens : CalV yX10_happens cX10_happens 4 none 2 := ⟨⟨wa 1175 rfl rfl, wap (q := (yX10_happens, 39)) 55 (by decide +kernel) (by decide +kernel), wa 12 rfl rfl, wa 1176 rfl rfl⟩, ⟨by decide +kernel, by decide +kernel, by decide +kernel⟩⟩
set_option maxRecDepth 100000 in
theorem cal_X10_after : CalV yX10_after cX10_after 6 (some (.int)) 1 := ⟨⟨wa 1170 rfl rfl, wa 1171 rfl rfl, wa 12 rfl rfl, wa 1172 rfl rfl⟩, ⟨by decide +kernel, by decide +kernel, by decide +kernel⟩⟩
set_option maxRecDepth 100000 in
theorem cal_X9_book : CalV yX9_book cX9_book 3 (some (.int)) 2 := ⟨⟨wa 723 rfl rfl, wa 724 rfl rfl, wa 1 rfl rfl, wa 725 rfl rfl⟩, ⟨by decide +kernel, by decide +kernel, by decide +kernel⟩⟩
set_option maxRecDepth 100000 in
theorem cal_X10_book : CalV yX10_book cX10_book 3 (some (.int)) 2 := ⟨⟨wa 1182 rfl rfl, wa 1183 rfl rfl, wa 12 rfl rfl, wa 1184 rfl rfl⟩, ⟨by decide +kernel, by decide +kernel, by decide +kernel⟩⟩
set_option maxRecDepth 100000 in
theorem cal_X9_looked : CalV yX9_looked cX9_looked 4 (some (.int)) 0 := ⟨⟨wa 727 rfl rfl, wa 728 rfl rfl, wa 1 rfl rfl, wa 729 rfl rfl⟩, ⟨by decide +kernel, by decide +kernel, by decide +kernel⟩⟩
set_option maxRecDepth 100000 in
theorem cal_X10_looked : CalV yX10_looked cX10_looked 2 (some (.int)) 0 := ⟨⟨wa 1186 rfl rfl, wa 1187 rfl rfl, wa 12 rfl rfl, wa 1188 rfl rfl⟩, ⟨by decide +kernel, by decide +kernel, by decide +kernel⟩⟩
set_option maxRecDepth 100000 in
theorem cal_X9_tapeAt : CalV yX9_tapeAt cX9_tapeAt 2 (some (.object "TwoLetterForms$Tape")) 1 := ⟨⟨wa 736 rfl rfl, wap (q := (yX9_tapeAt, 9)) 26 (by decide +kernel) (by decide +kernel), wa 1 rfl rfl, wa 737 rfl rfl⟩, ⟨by decide +kernel, by decide +kernel, by decide +kernel⟩⟩
set_option maxRecDepth 100000 in
theorem cal_X7_holdsNothing : CalV yX7_holdsNothing cX7_holdsNothing 1 (some (.boolean)) 0 := ⟨⟨wa 739 rfl rfl, wa 740 rfl rfl, wa 11 rfl rfl, wa 741 rfl rfl⟩, ⟨by decide +kernel, by decide +kernel, by decide +kernel⟩⟩
set_option maxRecDepth 100000 in
theorem cal_X7_has : CalV yX7_has cX7_has 2 (some (.boolean)) 1 := ⟨⟨wa 743 rfl rfl, wa 744 rfl rfl, wa 11 rfl rfl, wa 745 rfl rfl⟩, ⟨by decide +kernel, by decide +kernel, by decide +kernel⟩⟩
set_option maxRecDepth 100000 in
theorem cal_X7_get : CalV yX7_get cX7_get 2 (some (.long)) 1 := ⟨⟨wa 747 rfl rfl, wa 748 rfl rfl, wa 11 rfl rfl, wa 749 rfl rfl⟩, ⟨by decide +kernel, by decide +kernel, by decide +kernel⟩⟩
set_option maxRecDepth 100000 in
theorem cal_X9_judge : CalV yX9_judge cX9_judge 6 (some (.int)) 2 := ⟨⟨wa 731 rfl rfl, wa 732 rfl rfl, wa 1 rfl rfl, wa 733 rfl rfl⟩, ⟨by decide +kernel, by decide +kernel, by decide +kernel⟩⟩
set_option maxRecDepth 100000 in
theorem cal_X10_isTape : CalS yX10_isTape cX10_isTape 1 (some (.boolean)) 1 := ⟨⟨wa 1194 rfl rfl, wa 12 rfl rfl, wa 1195 rfl rfl⟩, ⟨by decide +kernel, by decide +kernel, by decide +kernel⟩⟩
set_option maxRecDepth 100000 in
theorem cal_X10_judge : CalV yX10_judge cX10_judge 4 (some (.int)) 2 := ⟨⟨wa 1190 rfl rfl, wa 1191 rfl rfl, wa 12 rfl rfl, wa 1192 rfl rfl⟩, ⟨by decide +kernel, by decide +kernel, by decide +kernel⟩⟩
set_option maxRecDepth 100000 in
theorem cal_X4_copy : CalV yX4_copy cX4_copy 2 none 1 := ⟨⟨wa 761 rfl rfl, wa 762 rfl rfl, wa 5 rfl rfl, wa 763 rfl rfl⟩, ⟨by decide +kernel, by decide +kernel, by decide +kernel⟩⟩
set_option maxRecDepth 100000 in
theorem cal_X6_copy : CalV yX6_copy cX6_copy 2 none 1 := ⟨⟨wa 756 rfl rfl, wa 757 rfl rfl, wa 2 rfl rfl, wa 758 rfl rfl⟩, ⟨by decide +kernel, by decide +kernel, by decide +kernel⟩⟩
set_option maxRecDepth 100000 in
theorem cal_X9_image : CalV yX9_image cX9_image 1 (some (.int)) 0 := ⟨⟨wa 752 rfl rfl, wa 753 rfl rfl, wa 1 rfl rfl, wa 754 rfl rfl⟩, ⟨by decide +kernel, by decide +kernel, by decide +kernel⟩⟩
set_option maxRecDepth 100000 in
theorem cal_X10_laysRow : CalV yX10_laysRow cX10_laysRow 5 none 3 := ⟨⟨wa 1206 rfl rfl, wap (q := (yX10_laysRow, 39)) 57 (by decide +kernel) (by decide +kernel), wa 12 rfl rfl, wa 1207 rfl rfl⟩, ⟨by decide +kernel, by decide +kernel, by decide +kernel⟩⟩
set_option maxRecDepth 100000 in
theorem cal_X10_lays : CalV yX10_lays cX10_lays 4 none 1 := ⟨⟨wa 1202 rfl rfl, wap (q := (yX10_lays, 39)) 56 (by decide +kernel) (by decide +kernel), wa 12 rfl rfl, wa 1203 rfl rfl⟩, ⟨by decide +kernel, by decide +kernel, by decide +kernel⟩⟩
set_option maxRecDepth 100000 in
theorem cal_X10_image : CalV yX10_image cX10_image 1 (some (.int)) 0 := ⟨⟨wa 1197 rfl rfl, wa 1198 rfl rfl, wa 12 rfl rfl, wa 1199 rfl rfl⟩, ⟨by decide +kernel, by decide +kernel, by decide +kernel⟩⟩
set_option maxRecDepth 100000 in
theorem cal_X9_undo : CalV yX9_undo cX9_undo 1 (some (.int)) 0 := ⟨⟨wa 767 rfl rfl, wa 768 rfl rfl, wa 1 rfl rfl, wa 769 rfl rfl⟩, ⟨by decide +kernel, by decide +kernel, by decide +kernel⟩⟩
set_option maxRecDepth 100000 in
theorem cal_X10_undo : CalV yX10_undo cX10_undo 1 (some (.int)) 0 := ⟨⟨wa 1209 rfl rfl, wa 1210 rfl rfl, wa 12 rfl rfl, wa 1211 rfl rfl⟩, ⟨by decide +kernel, by decide +kernel, by decide +kernel⟩⟩
set_option maxRecDepth 100000 in
theorem cal_X9_count : CalV yX9_count cX9_count 2 (some (.int)) 1 := ⟨⟨wa 771 rfl rfl, wa 772 rfl rfl, wa 1 rfl rfl, wa 773 rfl rfl⟩, ⟨by decide +kernel, by decide +kernel, by decide +kernel⟩⟩
set_option maxRecDepth 100000 in
theorem cal_X10_count : CalV yX10_count cX10_count 2 (some (.int)) 1 := ⟨⟨wa 1213 rfl rfl, wa 1214 rfl rfl, wa 12 rfl rfl, wa 1215 rfl rfl⟩, ⟨by decide +kernel, by decide +kernel, by decide +kernel⟩⟩
set_option maxRecDepth 100000 in
theorem cal_X7_become : CalV yX7_become cX7_become 3 none 2 := ⟨⟨wa 779 rfl rfl, wa 780 rfl rfl, wa 11 rfl rfl, wa 781 rfl rfl⟩, ⟨by decide +kernel, by decide +kernel, by decide +kernel⟩⟩
set_option maxRecDepth 100000 in
theorem cal_X9_tape : CalV yX9_tape cX9_tape 5 (some (.int)) 3 := ⟨⟨wa 775 rfl rfl, wa 776 rfl rfl, wa 1 rfl rfl, wa 777 rfl rfl⟩, ⟨by decide +kernel, by decide +kernel, by decide +kernel⟩⟩
set_option maxRecDepth 100000 in
theorem cal_X10_tape : CalV yX10_tape cX10_tape 5 (some (.int)) 3 := ⟨⟨wa 1217 rfl rfl, wa 1218 rfl rfl, wa 12 rfl rfl, wa 1219 rfl rfl⟩, ⟨by decide +kernel, by decide +kernel, by decide +kernel⟩⟩
set_option maxRecDepth 100000 in
theorem cal_X7_lowestBits : CalV yX7_lowestBits cX7_lowestBits 3 (some (.long)) 1 := ⟨⟨wa 795 rfl rfl, wap (q := (yX7_lowestBits, 3)) 27 (by decide +kernel) (by decide +kernel), wa 11 rfl rfl, wa 796 rfl rfl⟩, ⟨by decide +kernel, by decide +kernel, by decide +kernel⟩⟩
set_option maxRecDepth 100000 in
theorem cal_X7_set : CalV yX7_set cX7_set 4 none 2 := ⟨⟨wa 790 rfl rfl, wa 791 rfl rfl, wa 11 rfl rfl, wa 792 rfl rfl⟩, ⟨by decide +kernel, by decide +kernel, by decide +kernel⟩⟩
set_option maxRecDepth 100000 in
theorem cal_X9_item : CalV yX9_item cX9_item 6 (some (.int)) 3 := ⟨⟨wa 786 rfl rfl, wa 787 rfl rfl, wa 1 rfl rfl, wa 788 rfl rfl⟩, ⟨by decide +kernel, by decide +kernel, by decide +kernel⟩⟩
set_option maxRecDepth 100000 in
theorem cal_X10_held : CalS yX10_held cX10_held 3 (some (.long)) 2 := ⟨⟨wa 1225 rfl rfl, wa 12 rfl rfl, wa 1226 rfl rfl⟩, ⟨by decide +kernel, by decide +kernel, by decide +kernel⟩⟩
set_option maxRecDepth 100000 in
theorem cal_X10_item : CalV yX10_item cX10_item 5 (some (.int)) 3 := ⟨⟨wa 1221 rfl rfl, wa 1222 rfl rfl, wa 12 rfl rfl, wa 1223 rfl rfl⟩, ⟨by decide +kernel, by decide +kernel, by decide +kernel⟩⟩
set_option maxRecDepth 100000 in
theorem cal_X9_peek : CalV yX9_peek cX9_peek 4 (some (.long)) 2 := ⟨⟨wa 798 rfl rfl, wa 799 rfl rfl, wa 1 rfl rfl, wa 800 rfl rfl⟩, ⟨by decide +kernel, by decide +kernel, by decide +kernel⟩⟩
set_option maxRecDepth 100000 in
theorem cal_X10_peek : CalV yX10_peek cX10_peek 3 (some (.long)) 2 := ⟨⟨wa 1228 rfl rfl, wa 1229 rfl rfl, wa 12 rfl rfl, wa 1230 rfl rfl⟩, ⟨by decide +kernel, by decide +kernel, by decide +kernel⟩⟩
set_option maxRecDepth 100000 in
theorem cal_X7_hasAll : CalV yX7_hasAll cX7_hasAll 3 (some (.boolean)) 2 := ⟨⟨wa 806 rfl rfl, wa 807 rfl rfl, wa 11 rfl rfl, wa 808 rfl rfl⟩, ⟨by decide +kernel, by decide +kernel, by decide +kernel⟩⟩
set_option maxRecDepth 100000 in
theorem cal_X9_shift : CalV yX9_shift cX9_shift 8 (some (.int)) 5 := ⟨⟨wa 802 rfl rfl, wa 803 rfl rfl, wa 1 rfl rfl, wa 804 rfl rfl⟩, ⟨by decide +kernel, by decide +kernel, by decide +kernel⟩⟩
set_option maxRecDepth 100000 in
theorem cal_X10_areThere : CalV yX10_areThere cX10_areThere 4 (some (.boolean)) 3 := ⟨⟨wa 1237 rfl rfl, wap (q := (yX10_areThere, 39)) 58 (by decide +kernel) (by decide +kernel), wa 12 rfl rfl, wa 1238 rfl rfl⟩, ⟨by decide +kernel, by decide +kernel, by decide +kernel⟩⟩
set_option maxRecDepth 100000 in
theorem cal_X10_shift : CalV yX10_shift cX10_shift 8 (some (.int)) 5 := ⟨⟨wa 1232 rfl rfl, wa 1233 rfl rfl, wa 12 rfl rfl, wa 1234 rfl rfl⟩, ⟨by decide +kernel, by decide +kernel, by decide +kernel⟩⟩
end
section
def fX2_init (a0 : Nat) (h0 : Mem) : Option (Unit × Mem) :=
 (pI 2 h0 a0 0 3).bind fun h1 =>
 nwA 11 5 5 h1 fun v2 h3 =>
 (pR 2 h3 a0 1 v2).bind fun h4 =>
 nwA 12 5 5 h4 fun v5 h6 =>
 (pR 2 h6 a0 2 v5).bind fun h7 =>
 nwA 12 5 5 h7 fun v8 h9 =>
 (pR 2 h9 a0 3 v8).bind fun h10 =>
 some ((), h10)
def fX1_init (a0 : Nat) (h0 : Mem) : Option (Unit × Mem) :=
 nwO 2 4 h0 fun v1 h2 =>
 (fX2_init v1 h2).bind (fun x => (fun (_u : Unit) (h3 : Mem) =>
  (pR 1 h3 a0 0 v1).bind fun h4 =>
  (pI 1 h4 a0 1 1).bind fun h5 =>
  (pI 1 h5 a0 2 10).bind fun h6 =>
  some ((), h6)) x.1 x.2)
def fJ9_max_7cf53 (a0 : Int32) (a1 : Int32) (h0 : Mem) : Option (Int32 × Mem) :=
 if a0 < a1 then
  some ((a1 : Int32), h0)
 else
  some ((a0 : Int32), h0)
def fX4_init (a0 : Nat) (a1 : Int32) (h0 : Mem) : Option (Unit × Mem) :=
 (pI 4 h0 a0 0 0).bind fun h1 =>
 (fJ9_max_7cf53 0 a1 h1).bind (fun x => (fun (v3 : Int32) (h2 : Mem) =>
  nwA 11 36 (v3 * 3) h2 fun v4 h5 =>
  (pR 4 h5 a0 1 v4).bind fun h6 =>
  some ((), h6)) x.1 x.2)
def fX6_init (a0 : Nat) (h0 : Mem) : Option (Unit × Mem) :=
 nwO 1 3 h0 fun v1 h2 =>
 (fX1_init v1 h2).bind (fun x => (fun (_u : Unit) (h3 : Mem) =>
  (pR 6 h3 a0 0 v1).bind fun h4 =>
  nwO 4 2 h4 fun v5 h6 =>
  (fX4_init v5 4 h6).bind (fun x => (fun (_u : Unit) (h7 : Mem) =>
   (pR 6 h7 a0 1 v5).bind fun h8 =>
   nwO 4 2 h8 fun v9 h10 =>
   (fX4_init v9 8 h10).bind (fun x => (fun (_u : Unit) (h11 : Mem) =>
    (pR 6 h11 a0 2 v9).bind fun h12 =>
    nwO 4 2 h12 fun v13 h14 =>
    (fX4_init v13 8 h14).bind (fun x => (fun (_u : Unit) (h15 : Mem) =>
     (pR 6 h15 a0 3 v13).bind fun h16 =>
     some ((), h16)) x.1 x.2)) x.1 x.2)) x.1 x.2)) x.1 x.2)
def fX0_init (a0 : Nat) (h0 : Mem) : Option (Unit × Mem) :=
 (pI 0 h0 a0 0 0).bind fun h1 =>
 (pI 0 h1 a0 1 0).bind fun h2 =>
 (pI 0 h2 a0 2 0).bind fun h3 =>
 (pI 0 h3 a0 3 0).bind fun h4 =>
 nwO 1 3 h4 fun v5 h6 =>
 (fX1_init v5 h6).bind (fun x => (fun (_u : Unit) (h7 : Mem) =>
  (pR 0 h7 a0 4 v5).bind fun h8 =>
  nwA 11 6561 6561 h8 fun v9 h10 =>
  (pR 0 h10 a0 5 v9).bind fun h11 =>
  some ((), h11)) x.1 x.2)
def fX8_init (a0 : Nat) (h0 : Mem) : Option (Unit × Mem) :=
 (pI 8 h0 a0 0 0).bind fun h1 =>
 nwA 11 416 416 h1 fun v2 h3 =>
 (pR 8 h3 a0 1 v2).bind fun h4 =>
 some ((), h4)
def fX3_init (a0 : Nat) (h0 : Mem) : Option (Unit × Mem) :=
 (pI 3 h0 a0 0 0).bind fun h1 =>
 (pI 3 h1 a0 1 0).bind fun h2 =>
 nwA 12 5 5 h2 fun v3 h4 =>
 (pR 3 h4 a0 2 v3).bind fun h5 =>
 nwA 11 8 8 h5 fun v6 h7 =>
 (pR 3 h7 a0 3 v6).bind fun h8 =>
 nwA 12 8 8 h8 fun v9 h10 =>
 (pR 3 h10 a0 4 v9).bind fun h11 =>
 nwA 12 8 8 h11 fun v12 h13 =>
 (pR 3 h13 a0 5 v12).bind fun h14 =>
 some ((), h14)
def fX5_init (a0 : Nat) (h0 : Mem) : Option (Unit × Mem) :=
 (pI 5 h0 a0 0 0).bind fun h1 =>
 nwO 4 2 h1 fun v2 h3 =>
 (fX4_init v2 12 h3).bind (fun x => (fun (_u : Unit) (h4 : Mem) =>
  (pR 5 h4 a0 1 v2).bind fun h5 =>
  nwA 11 100 100 h5 fun v6 h7 =>
  (pR 5 h7 a0 2 v6).bind fun h8 =>
  (pI 5 h8 a0 3 0).bind fun h9 =>
  (pI 5 h9 a0 4 0).bind fun h10 =>
  (pI 5 h10 a0 5 0).bind fun h11 =>
  some ((), h11)) x.1 x.2)
def fX7_init (a0 : Nat) (h0 : Mem) : Option (Unit × Mem) :=
 (pI 7 h0 a0 0 (-1)).bind fun h1 =>
 nwA 12 60 60 h1 fun v2 h3 =>
 (pR 7 h3 a0 1 v2).bind fun h4 =>
 (pI 7 h4 a0 2 0).bind fun h5 =>
 some ((), h5)
def fX9_init (a0 : Nat) (h0 : Mem) : Option (Unit × Mem) :=
 nwO 6 4 h0 fun v1 h2 =>
 (fX6_init v1 h2).bind (fun x => (fun (_u : Unit) (h3 : Mem) =>
  (pR 9 h3 a0 0 v1).bind fun h4 =>
  nwO 6 4 h4 fun v5 h6 =>
  (fX6_init v5 h6).bind (fun x => (fun (_u : Unit) (h7 : Mem) =>
   (pR 9 h7 a0 1 v5).bind fun h8 =>
   (pI 9 h8 a0 2 0).bind fun h9 =>
   nwO 1 3 h9 fun v10 h11 =>
   (fX1_init v10 h11).bind (fun x => (fun (_u : Unit) (h12 : Mem) =>
    (pR 9 h12 a0 3 v10).bind fun h13 =>
    nwO 0 6 h13 fun v14 h15 =>
    (fX0_init v14 h15).bind (fun x => (fun (_u : Unit) (h16 : Mem) =>
     (pR 9 h16 a0 4 v14).bind fun h17 =>
     nwO 8 2 h17 fun v18 h19 =>
     (fX8_init v18 h19).bind (fun x => (fun (_u : Unit) (h20 : Mem) =>
      (pR 9 h20 a0 5 v18).bind fun h21 =>
      nwO 3 6 h21 fun v22 h23 =>
      (fX3_init v22 h23).bind (fun x => (fun (_u : Unit) (h24 : Mem) =>
       (pR 9 h24 a0 6 v22).bind fun h25 =>
       nwO 5 6 h25 fun v26 h27 =>
       (fX5_init v26 h27).bind (fun x => (fun (_u : Unit) (h28 : Mem) =>
        (pR 9 h28 a0 7 v26).bind fun h29 =>
        nwA 14 6 6 h29 fun v30 h31 =>
        (pR 9 h31 a0 8 v30).bind fun h32 =>
        (gR 9 h32 a0 8).bind fun v33 =>
        (aLn h32 v33).bind fun v34 =>
        if v34 ≤ 0 then
         none
        else
         (gR 9 h32 a0 8).bind fun v35 =>
         nwO 7 3 h32 fun v36 h37 =>
         (fX7_init v36 h37).bind (fun x => (fun (_u : Unit) (h38 : Mem) =>
          (yR h38 v35 0 v36).bind fun h39 =>
          (gR 9 h39 a0 8).bind fun v40 =>
          (aLn h39 v40).bind fun v41 =>
          if v41 ≤ 1 then
           none
          else
           (gR 9 h39 a0 8).bind fun v42 =>
           nwO 7 3 h39 fun v43 h44 =>
           (fX7_init v43 h44).bind (fun x => (fun (_u : Unit) (h45 : Mem) =>
            (yR h45 v42 1 v43).bind fun h46 =>
            (gR 9 h46 a0 8).bind fun v47 =>
            (aLn h46 v47).bind fun v48 =>
            if v48 ≤ 2 then
             none
            else
             (gR 9 h46 a0 8).bind fun v49 =>
             nwO 7 3 h46 fun v50 h51 =>
             (fX7_init v50 h51).bind (fun x => (fun (_u : Unit) (h52 : Mem) =>
              (yR h52 v49 2 v50).bind fun h53 =>
              (gR 9 h53 a0 8).bind fun v54 =>
              (aLn h53 v54).bind fun v55 =>
              if v55 ≤ 3 then
               none
              else
               (gR 9 h53 a0 8).bind fun v56 =>
               nwO 7 3 h53 fun v57 h58 =>
               (fX7_init v57 h58).bind (fun x => (fun (_u : Unit) (h59 : Mem) =>
                (yR h59 v56 3 v57).bind fun h60 =>
                (gR 9 h60 a0 8).bind fun v61 =>
                (aLn h60 v61).bind fun v62 =>
                if v62 ≤ 4 then
                 none
                else
                 (gR 9 h60 a0 8).bind fun v63 =>
                 nwO 7 3 h60 fun v64 h65 =>
                 (fX7_init v64 h65).bind (fun x => (fun (_u : Unit) (h66 : Mem) =>
                  (yR h66 v63 4 v64).bind fun h67 =>
                  (gR 9 h67 a0 8).bind fun v68 =>
                  (aLn h67 v68).bind fun v69 =>
                  if v69 ≤ 5 then
                   none
                  else
                   (gR 9 h67 a0 8).bind fun v70 =>
                   nwO 7 3 h67 fun v71 h72 =>
                   (fX7_init v71 h72).bind (fun x => (fun (_u : Unit) (h73 : Mem) =>
                    (yR h73 v70 5 v71).bind fun h74 =>
                    (gR 9 h74 a0 8).bind fun v75 =>
                    (aLn h74 v75).bind fun v76 =>
                    if v76 ≤ 6 then
                     some ((), h74)
                    else
                     none) x.1 x.2)) x.1 x.2)) x.1 x.2)) x.1 x.2)) x.1 x.2)) x.1 x.2)) x.1 x.2)) x.1 x.2)) x.1 x.2)) x.1 x.2)) x.1 x.2)) x.1 x.2)) x.1 x.2)
def fX9_between (a0 : Int32) (a1 : Int32) (a2 : Int32) (h0 : Mem) : Option (Int32 × Mem) :=
 if a0 < a1 then
  some ((0 : Int32), h0)
 else
  if a2 < a0 then
   some ((0 : Int32), h0)
  else
   some ((1 : Int32), h0)
def fJ7_fill_53178 (a0 : Nat) (a1 : Int32) (h0 : Mem) : Option (Unit × Mem) :=
 (aLn h0 a0).bind fun v1 =>
 lpF (fun k4 ((v2, h3) : Int32 × Mem) =>
  if v1 ≤ v2 then
   some ((), h3)
  else
   (yI 11 h3 a0 v2 a1).bind fun h6 =>
   nm (v2 + 1 : Int32) fun v7 =>
   k4 (v7, h6)) FU (0, h0)
def fX2_clear (a0 : Nat) (a1 : Int32) (h0 : Mem) : Option (Unit × Mem) :=
 (pI 2 h0 a0 0 a1).bind fun h1 =>
 (gR 2 h1 a0 1).bind fun v2 =>
 (fJ7_fill_53178 v2 0 h1).bind (fun x => (fun (_u : Unit) (h3 : Mem) =>
  some ((), h3)) x.1 x.2)
def fX9_degree (a0 : Nat) (a1 : Int32) (h0 : Mem) : Option (Int32 × Mem) :=
 (fX9_between a1 2 4 h0).bind (fun x => (fun (v2 : Int32) (h1 : Mem) =>
  if v2 = 0 then
   some (((-2) : Int32), h1)
  else
   (gR 9 h1 a0 0).bind fun v3 =>
   (gR 6 h1 v3 0).bind fun v4 =>
   (gR 1 h1 v4 0).bind fun v5 =>
   (gI 2 h1 v5 0).bind fun v6 =>
   (gR 9 h1 a0 0).bind fun v7 =>
   (gR 6 h1 v7 0).bind fun v8 =>
   (gR 1 h1 v8 0).bind fun v9 =>
   if mKd h1 v9 = 2 then (fX2_clear v9 a1 h1).bind (fun x => (fun (_u : Unit) (h10 : Mem) =>
    some ((v6 : Int32), h10)) x.1 x.2) else none) x.1 x.2)
def fX2_has (a0 : Nat) (a1 : Int32) (h0 : Mem) : Option (Int32 × Mem) :=
 if a1 < 0 then
  some ((0 : Int32), h0)
 else
  (gI 2 h0 a0 0).bind fun v1 =>
  if v1 < a1 then
   some ((0 : Int32), h0)
  else
   (gR 2 h0 a0 1).bind fun v2 =>
   (aLn h0 v2).bind fun v3 =>
   if v3 ≤ a1 then
    some ((0 : Int32), h0)
   else
    some ((1 : Int32), h0)
def fX2_get (a0 : Nat) (a1 : Int32) (h0 : Mem) : Option (Int32 × Mem) :=
 if mKd h0 a0 = 2 then (fX2_has a0 a1 h0).bind (fun x => (fun (v2 : Int32) (h1 : Mem) =>
  if v2 = 0 then
   some ((0 : Int32), h1)
  else
   (gR 2 h1 a0 1).bind fun v3 =>
   (xI 11 h1 v3 a1).bind fun v4 =>
   some ((v4 : Int32), h1)) x.1 x.2) else none
def fX2_set (a0 : Nat) (a1 : Int32) (a2 : Int32) (h0 : Mem) : Option (Unit × Mem) :=
 if mKd h0 a0 = 2 then (fX2_has a0 a1 h0).bind (fun x => (fun (v2 : Int32) (h1 : Mem) =>
  if v2 = 0 then
   some ((), h1)
  else
   (gR 2 h1 a0 1).bind fun v3 =>
   (yI 11 h1 v3 a1 a2).bind fun h4 =>
   some ((), h4)) x.1 x.2) else none
def fX9_number (a0 : Nat) (a1 : Int32) (a2 : Int32) (h0 : Mem) : Option (Int32 × Mem) :=
 (gR 9 h0 a0 0).bind fun v1 =>
 (gR 6 h0 v1 0).bind fun v2 =>
 (gR 1 h0 v2 0).bind fun v3 =>
 if mKd h0 v3 = 2 then (fX2_has v3 a1 h0).bind (fun x => (fun (v5 : Int32) (h4 : Mem) =>
  if v5 = 0 then
   some (((-1) : Int32), h4)
  else
   (fX9_between a2 (-99) 99 h4).bind (fun x => (fun (v7 : Int32) (h6 : Mem) =>
    if v7 = 0 then
     some (((-2) : Int32), h6)
    else
     if mKd h6 v3 = 2 then (fX2_get v3 a1 h6).bind (fun x => (fun (v9 : Int32) (h8 : Mem) =>
      if mKd h8 v3 = 2 then (fX2_set v3 a1 a2 h8).bind (fun x => (fun (_u : Unit) (h10 : Mem) =>
       some ((v9 + 100 : Int32), h10)) x.1 x.2) else none) x.1 x.2) else none) x.1 x.2)) x.1 x.2) else none
def fX9_equal (a0 : Nat) (a1 : Int32) (h0 : Mem) : Option (Int32 × Mem) :=
 (fX9_between a1 (-9999) 9999 h0).bind (fun x => (fun (v2 : Int32) (h1 : Mem) =>
  if v2 = 0 then
   some (((-2) : Int32), h1)
  else
   (gR 9 h1 a0 0).bind fun v3 =>
   (gR 6 h1 v3 0).bind fun v4 =>
   (gI 1 h1 v4 1).bind fun v5 =>
   (gR 9 h1 a0 0).bind fun v6 =>
   (gR 6 h1 v6 0).bind fun v7 =>
   (pI 1 h1 v7 1 a1).bind fun h8 =>
   some ((v5 + 10000 : Int32), h8)) x.1 x.2)
def fX9_window (a0 : Nat) (a1 : Int32) (h0 : Mem) : Option (Int32 × Mem) :=
 (fX9_between a1 1 40 h0).bind (fun x => (fun (v2 : Int32) (h1 : Mem) =>
  if v2 = 0 then
   some (((-2) : Int32), h1)
  else
   (gR 9 h1 a0 0).bind fun v3 =>
   (gR 6 h1 v3 0).bind fun v4 =>
   (gI 1 h1 v4 2).bind fun v5 =>
   (gR 9 h1 a0 0).bind fun v6 =>
   (gR 6 h1 v6 0).bind fun v7 =>
   (pI 1 h1 v7 2 a1).bind fun h8 =>
   some ((v5 : Int32), h8)) x.1 x.2)
def fX2_isMove (a0 : Int32) (h0 : Mem) : Option (Int32 × Mem) :=
 if a0 < 0 then
  some ((0 : Int32), h0)
 else
  if 5 ≤ a0 then
   some ((0 : Int32), h0)
  else
   some ((1 : Int32), h0)
def fJ7_fill_d0a16 (a0 : Nat) (a1 : Int64) (h0 : Mem) : Option (Unit × Mem) :=
 (aLn h0 a0).bind fun v1 =>
 lpF (fun k4 ((v2, h3) : Int32 × Mem) =>
  if v1 ≤ v2 then
   some ((), h3)
  else
   (yJ h3 a0 v2 a1).bind fun h6 =>
   nm (v2 + 1 : Int32) fun v7 =>
   k4 (v7, h6)) FU (0, h0)
def fX2_multiply (a0 : Nat) (a1 : Int32) (a2 : Int32) (h0 : Mem) : Option (Unit × Mem) :=
 (aLn h0 a0).bind fun v1 =>
 nm (v1 - 1 : Int32) fun v2 =>
 lpF (fun k5 ((v3, h4) : Int32 × Mem) =>
  if v3 ≤ 0 then
   (xJ h4 a0 0).bind fun v11 =>
   (yJ h4 a0 0 (a1.toInt64 * v11)).bind fun h12 =>
   some ((), h12)
  else
   (xJ h4 a0 v3).bind fun v7 =>
   (xJ h4 a0 (v3 - 1)).bind fun v8 =>
   (yJ h4 a0 v3 ((a1.toInt64 * v7) + (a2.toInt64 * v8))).bind fun h9 =>
   nm (v3 + (-1) : Int32) fun v10 =>
   k5 (v10, h9)) FU (v2, h0)
def fX2_findTurned (a0 : Nat) (a1 : Int32) (a2 : Int32) (a3 : Int32) (a4 : Int32) (h0 : Mem) : Option (Unit × Mem) :=
 (gR 2 h0 a0 2).bind fun v1 =>
 (fJ7_fill_d0a16 v1 0 h0).bind (fun x => (fun (_u : Unit) (h2 : Mem) =>
  (gR 2 h2 a0 3).bind fun v3 =>
  (fJ7_fill_d0a16 v3 0 h2).bind (fun x => (fun (_u : Unit) (h4 : Mem) =>
   (gR 2 h4 a0 2).bind fun v5 =>
   (gR 2 h4 a0 1).bind fun v6 =>
   (xI 11 h4 v6 0).bind fun v7 =>
   (yJ h4 v5 0 v7.toInt64).bind fun h8 =>
   (gR 2 h8 a0 3).bind fun v9 =>
   (yJ h8 v9 0 1).bind fun h10 =>
   lpF (fun k13 ((v11, h12) : Int32 × Mem) =>
    (gI 2 h12 a0 0).bind fun v15 =>
    if v15 < v11 then
     some ((), h12)
    else
     (gR 2 h12 a0 1).bind fun v16 =>
     (aLn h12 v16).bind fun v17 =>
     if v17 ≤ v11 then
      some ((), h12)
     else
      (gR 2 h12 a0 3).bind fun v18 =>
      (fX2_multiply v18 a3 a4 h12).bind (fun x => (fun (_u : Unit) (h19 : Mem) =>
       (gR 2 h19 a0 2).bind fun v20 =>
       (fX2_multiply v20 a1 a2 h19).bind (fun x => (fun (_u : Unit) (h21 : Mem) =>
        lpF (fun k24 ((v22, h23) : Int32 × Mem) =>
         (gR 2 h23 a0 2).bind fun v26 =>
         (aLn h23 v26).bind fun v27 =>
         if v27 ≤ v22 then
          nm (v11 + 1 : Int32) fun v40 =>
          k13 (v40, h23)
         else
          (gR 2 h23 a0 3).bind fun v28 =>
          (aLn h23 v28).bind fun v29 =>
          if v29 ≤ v22 then
           nm (v11 + 1 : Int32) fun v38 =>
           k13 (v38, h23)
          else
           (gR 2 h23 a0 2).bind fun v30 =>
           (xJ h23 v30 v22).bind fun v31 =>
           (gR 2 h23 a0 1).bind fun v32 =>
           (xI 11 h23 v32 v11).bind fun v33 =>
           (gR 2 h23 a0 3).bind fun v34 =>
           (xJ h23 v34 v22).bind fun v35 =>
           (yJ h23 v30 v22 (v31 + (v33.toInt64 * v35))).bind fun h36 =>
           nm (v22 + 1 : Int32) fun v37 =>
           k24 (v37, h36)) FU (0, h21)) x.1 x.2)) x.1 x.2)) FU (1, h10)) x.1 x.2)) x.1 x.2)
def fX2_turnBy (a0 : Nat) (a1 : Int32) (a2 : Int32) (a3 : Int32) (a4 : Int32) (h0 : Mem) : Option (Int32 × Mem) :=
 if mKd h0 a0 = 2 then (fX2_findTurned a0 a1 a2 a3 a4 h0).bind (fun x => (fun (_u : Unit) (h1 : Mem) =>
  lpF (fun k3 (v2 : Int32) =>
   (gR 2 h1 a0 2).bind fun v5 =>
   (aLn h1 v5).bind fun v6 =>
   if v6 ≤ v2 then
    lpF (fun k16 ((v14, h15) : Int32 × Mem) =>
     (gR 2 h15 a0 2).bind fun v18 =>
     (aLn h15 v18).bind fun v19 =>
     if v19 ≤ v14 then
      some ((1 : Int32), h15)
     else
      (gR 2 h15 a0 1).bind fun v20 =>
      (aLn h15 v20).bind fun v21 =>
      if v21 ≤ v14 then
       some ((1 : Int32), h15)
      else
       (gR 2 h15 a0 1).bind fun v22 =>
       (gR 2 h15 a0 2).bind fun v23 =>
       (xJ h15 v23 v14).bind fun v24 =>
       (yI 11 h15 v22 v14 v24.toInt32).bind fun h25 =>
       nm (v14 + 1 : Int32) fun v26 =>
       k16 (v26, h25)) FU (0, h1)
   else
    (gR 2 h1 a0 2).bind fun v7 =>
    (xJ h1 v7 v2).bind fun v8 =>
    if 0 < (lg_cmp v8 99) then
     some ((0 : Int32), h1)
    else
     (gR 2 h1 a0 2).bind fun v9 =>
     (xJ h1 v9 v2).bind fun v10 =>
     if 0 ≤ (lg_cmp v10 (-99)) then
      nm (v2 + 1 : Int32) fun v11 =>
      k3 v11
     else
      some ((0 : Int32), h1)) FU 0) x.1 x.2) else none
def fX2_moveBy (a0 : Nat) (a1 : Int32) (h0 : Mem) : Option (Int32 × Mem) :=
 (fX2_isMove a1 h0).bind (fun x => (fun (v2 : Int32) (h1 : Mem) =>
  if v2 = 0 then
   some ((0 : Int32), h1)
  else
   nm (a1 * 4 : Int32) fun v3 =>
   jn (fun (_ : Unit) =>
    lpF (fun k8 ((v6, h7) : Int32 × Mem) =>
     (gR 2 h7 a0 1).bind fun v10 =>
     (aLn h7 v10).bind fun v11 =>
     if v11 ≤ v6 then
      some ((1 : Int32), h7)
     else
      (gR 2 h7 a0 1).bind fun v12 =>
      (gR 2 h7 a0 1).bind fun v13 =>
      (xI 11 h7 v13 v6).bind fun v14 =>
      (yI 11 h7 v12 v6 (-v14)).bind fun h15 =>
      nm (v6 + 1 : Int32) fun v16 =>
      k8 (v16, h15)) FU (0, h1)) (fun k4 =>
    if 4 ≤ a1 then
     k4 ()
    else
     if 16 ≤ (v3 + 3) then
      k4 ()
     else
      (xT tabM 16 v3).bind fun v18 =>
      (xT tabM 16 (v3 + 1)).bind fun v19 =>
      (xT tabM 16 (v3 + 2)).bind fun v20 =>
      (xT tabM 16 (v3 + 3)).bind fun v21 =>
      if mKd h1 a0 = 2 then (fX2_turnBy a0 v18 v19 v20 v21 h1).bind (fun x => (fun (v23 : Int32) (h22 : Mem) =>
       if v23 = 0 ∨ v23 = 1 then some (v23, h22) else none) x.1 x.2) else none)) x.1 x.2)
def fX9_move (a0 : Nat) (a1 : Int32) (h0 : Mem) : Option (Int32 × Mem) :=
 (fX2_isMove a1 h0).bind (fun x => (fun (v2 : Int32) (h1 : Mem) =>
  if v2 = 0 then
   some (((-1) : Int32), h1)
  else
   (gR 9 h1 a0 0).bind fun v3 =>
   (gR 6 h1 v3 0).bind fun v4 =>
   (gR 1 h1 v4 0).bind fun v5 =>
   if mKd h1 v5 = 2 then (fX2_moveBy v5 a1 h1).bind (fun x => (fun (v7 : Int32) (h6 : Mem) =>
    if v7 = 0 then
     some (((-3) : Int32), h6)
    else
     some ((1 : Int32), h6)) x.1 x.2) else none) x.1 x.2)
def fX9_isTurn (a0 : Int32) (h0 : Mem) : Option (Int32 × Mem) :=
 (fX9_between a0 (-9) 9 h0).bind (fun x => (fun (v2 : Int32) (h1 : Mem) =>
  if v2 = 0 ∨ v2 = 1 then some (v2, h1) else none) x.1 x.2)
def fX9_turn (a0 : Nat) (a1 : Int32) (a2 : Int32) (a3 : Int32) (a4 : Int32) (h0 : Mem) : Option (Int32 × Mem) :=
 (fX9_isTurn a1 h0).bind (fun x => (fun (v2 : Int32) (h1 : Mem) =>
  if v2 = 0 then
   some (((-2) : Int32), h1)
  else
   (fX9_isTurn a2 h1).bind (fun x => (fun (v4 : Int32) (h3 : Mem) =>
    if v4 = 0 then
     some (((-2) : Int32), h3)
    else
     (fX9_isTurn a3 h3).bind (fun x => (fun (v6 : Int32) (h5 : Mem) =>
      if v6 = 0 then
       some (((-2) : Int32), h5)
      else
       (fX9_isTurn a4 h5).bind (fun x => (fun (v8 : Int32) (h7 : Mem) =>
        if v8 = 0 then
         some (((-2) : Int32), h7)
        else
         (gR 9 h7 a0 0).bind fun v9 =>
         (gR 6 h7 v9 0).bind fun v10 =>
         (gR 1 h7 v10 0).bind fun v11 =>
         if mKd h7 v11 = 2 then (fX2_turnBy v11 a1 a2 a3 a4 h7).bind (fun x => (fun (v13 : Int32) (h12 : Mem) =>
          if v13 = 0 then
           some (((-3) : Int32), h12)
          else
           some ((1 : Int32), h12)) x.1 x.2) else none) x.1 x.2)) x.1 x.2)) x.1 x.2)) x.1 x.2)
def fX5_add (a0 : Nat) (a1 : Int32) (h0 : Mem) : Option (Int32 × Mem) :=
 (gI 5 h0 a0 0).bind fun v1 =>
 if v1 < 0 then
  some ((0 : Int32), h0)
 else
  (gI 5 h0 a0 0).bind fun v2 =>
  (gR 5 h0 a0 2).bind fun v3 =>
  (aLn h0 v3).bind fun v4 =>
  if v2 < v4 then
   (gR 5 h0 a0 2).bind fun v5 =>
   (gI 5 h0 a0 0).bind fun v6 =>
   (yI 11 h0 v5 v6 a1).bind fun h7 =>
   (gI 5 h7 a0 0).bind fun v8 =>
   (pI 5 h7 a0 0 (v8 + 1)).bind fun h9 =>
   some ((1 : Int32), h9)
  else
   some ((0 : Int32), h0)
def fX9_feed (a0 : Nat) (a1 : Int32) (h0 : Mem) : Option (Int32 × Mem) :=
 (fX9_between a1 0 127 h0).bind (fun x => (fun (v2 : Int32) (h1 : Mem) =>
  if v2 = 0 then
   some (((-2) : Int32), h1)
  else
   (gR 9 h1 a0 7).bind fun v3 =>
   if mKd h1 v3 = 5 then (fX5_add v3 a1 h1).bind (fun x => (fun (v5 : Int32) (h4 : Mem) =>
    if v5 = 0 then
     some (((-4) : Int32), h4)
    else
     (gR 9 h4 a0 7).bind fun v6 =>
     (gI 5 h4 v6 0).bind fun v7 =>
     some ((v7 : Int32), h4)) x.1 x.2) else none) x.1 x.2)
def fX4_empty (a0 : Nat) (h0 : Mem) : Option (Int32 × Mem) :=
 (pI 4 h0 a0 0 0).bind fun h1 =>
 some ((0 : Int32), h1)
def fX5_next (a0 : Nat) (h0 : Mem) : Option (Int32 × Mem) :=
 (gI 5 h0 a0 3).bind fun v1 =>
 if v1 < 0 then
  some (((-1) : Int32), h0)
 else
  (gI 5 h0 a0 3).bind fun v2 =>
  (gI 5 h0 a0 0).bind fun v3 =>
  if v3 ≤ v2 then
   some (((-1) : Int32), h0)
  else
   (gI 5 h0 a0 3).bind fun v4 =>
   (gR 5 h0 a0 2).bind fun v5 =>
   (aLn h0 v5).bind fun v6 =>
   if v6 ≤ v4 then
    some (((-1) : Int32), h0)
   else
    (gR 5 h0 a0 2).bind fun v7 =>
    (gI 5 h0 a0 3).bind fun v8 =>
    (xI 11 h0 v7 v8).bind fun v9 =>
    some ((v9 : Int32), h0)
def fX5_hasDigit (a0 : Int32) (h0 : Mem) : Option (Int32 × Mem) :=
 if a0 = 100 then
  some ((1 : Int32), h0)
 else
  if a0 = 97 then
   some ((1 : Int32), h0)
  else
   if a0 = 116 then
    some ((1 : Int32), h0)
   else
    some ((0 : Int32), h0)
def fX5_hasNumber (a0 : Int32) (h0 : Mem) : Option (Int32 × Mem) :=
 if a0 = 97 then
  some ((1 : Int32), h0)
 else
  if a0 = 61 then
   some ((1 : Int32), h0)
  else
   if a0 = 119 then
    some ((1 : Int32), h0)
   else
    some ((0 : Int32), h0)
def fX5_isKind (a0 : Int32) (h0 : Mem) : Option (Int32 × Mem) :=
 (fX5_hasDigit a0 h0).bind (fun x => (fun (v2 : Int32) (h1 : Mem) =>
  if v2 = 0 then
   (fX5_hasNumber a0 h1).bind (fun x => (fun (v4 : Int32) (h3 : Mem) =>
    if v4 = 0 then
     some ((0 : Int32), h3)
    else
     some ((1 : Int32), h3)) x.1 x.2)
  else
   some ((1 : Int32), h1)) x.1 x.2)
def fX5_isAtDigit (a0 : Nat) (h0 : Mem) : Option (Int32 × Mem) :=
 if mKd h0 a0 = 5 then (fX5_next a0 h0).bind (fun x => (fun (v2 : Int32) (h1 : Mem) =>
  if v2 < 48 then
   some ((0 : Int32), h1)
  else
   if mKd h1 a0 = 5 then (fX5_next a0 h1).bind (fun x => (fun (v4 : Int32) (h3 : Mem) =>
    if 57 < v4 then
     some ((0 : Int32), h3)
    else
     some ((1 : Int32), h3)) x.1 x.2) else none) x.1 x.2) else none
def fX5_takeDigit (a0 : Nat) (h0 : Mem) : Option (Int32 × Mem) :=
 if mKd h0 a0 = 5 then (fX5_isAtDigit a0 h0).bind (fun x => (fun (v2 : Int32) (h1 : Mem) =>
  if v2 = 0 then
   some ((0 : Int32), h1)
  else
   if mKd h1 a0 = 5 then (fX5_next a0 h1).bind (fun x => (fun (v4 : Int32) (h3 : Mem) =>
    (pI 5 h3 a0 4 (v4 - 48)).bind fun h5 =>
    (gI 5 h5 a0 3).bind fun v6 =>
    (pI 5 h5 a0 3 (v6 + 1)).bind fun h7 =>
    some ((1 : Int32), h7)) x.1 x.2) else none) x.1 x.2) else none
def fX5_takeNumber (a0 : Nat) (h0 : Mem) : Option (Int32 × Mem) :=
 if mKd h0 a0 = 5 then (fX5_next a0 h0).bind (fun x => (fun (v2 : Int32) (h1 : Mem) =>
  jn (fun (v3 : Int32) =>
   jn (fun (h6 : Mem) =>
    if mKd h6 a0 = 5 then (fX5_isAtDigit a0 h6).bind (fun x => (fun (v10 : Int32) (h9 : Mem) =>
     if v10 = 0 then
      some ((0 : Int32), h9)
     else
      lpF (fun k13 ((v11, h12) : Int32 × Mem) =>
       if 4 ≤ v11 then
        if v3 = 0 then
         some ((1 : Int32), h12)
        else
         (gI 5 h12 a0 5).bind fun v28 =>
         (pI 5 h12 a0 5 (-v28)).bind fun h29 =>
         some ((1 : Int32), h29)
       else
        if mKd h12 a0 = 5 then (fX5_isAtDigit a0 h12).bind (fun x => (fun (v16 : Int32) (h15 : Mem) =>
         if v16 = 0 then
          if v3 = 0 then
           some ((1 : Int32), h15)
          else
           (gI 5 h15 a0 5).bind fun v24 =>
           (pI 5 h15 a0 5 (-v24)).bind fun h25 =>
           some ((1 : Int32), h25)
         else
          (gI 5 h15 a0 5).bind fun v17 =>
          if mKd h15 a0 = 5 then (fX5_next a0 h15).bind (fun x => (fun (v19 : Int32) (h18 : Mem) =>
           (pI 5 h18 a0 5 (((v17 * 10) + v19) - 48)).bind fun h20 =>
           (gI 5 h20 a0 3).bind fun v21 =>
           (pI 5 h20 a0 3 (v21 + 1)).bind fun h22 =>
           nm (v11 + 1 : Int32) fun v23 =>
           k13 (v23, h22)) x.1 x.2) else none) x.1 x.2) else none) FU (0, h9)) x.1 x.2) else none) (fun k7 =>
    if v3 = 0 then
     k7 h1
    else
     (gI 5 h1 a0 3).bind fun v33 =>
     (pI 5 h1 a0 3 (v33 + 1)).bind fun h34 =>
     k7 h34)) (fun k4 =>
   if v2 = 45 then
    k4 1
   else
    k4 0)) x.1 x.2) else none
def fX4_add (a0 : Nat) (a1 : Int32) (a2 : Int32) (a3 : Int32) (h0 : Mem) : Option (Int32 × Mem) :=
 (gI 4 h0 a0 0).bind fun v1 =>
 nm (v1 * 3 : Int32) fun v2 =>
 if v2 < 0 then
  some (((-4) : Int32), h0)
 else
  (gR 4 h0 a0 1).bind fun v3 =>
  (aLn h0 v3).bind fun v4 =>
  if (v2 + 2) < v4 then
   (gR 4 h0 a0 1).bind fun v5 =>
   (yI 11 h0 v5 v2 a1).bind fun h6 =>
   (gR 4 h6 a0 1).bind fun v7 =>
   (yI 11 h6 v7 (v2 + 1) a2).bind fun h8 =>
   (gR 4 h8 a0 1).bind fun v9 =>
   (yI 11 h8 v9 (v2 + 2) a3).bind fun h10 =>
   (gI 4 h10 a0 0).bind fun v11 =>
   (pI 4 h10 a0 0 (v11 + 1)).bind fun h12 =>
   (gI 4 h12 a0 0).bind fun v13 =>
   some ((v13 : Int32), h12)
  else
   some (((-4) : Int32), h0)
def fX5_takeClause (a0 : Nat) (h0 : Mem) : Option (Int32 × Mem) :=
 if mKd h0 a0 = 5 then (fX5_next a0 h0).bind (fun x => (fun (v2 : Int32) (h1 : Mem) =>
  (pI 5 h1 a0 4 0).bind fun h3 =>
  (pI 5 h3 a0 5 0).bind fun h4 =>
  (fX5_isKind v2 h4).bind (fun x => (fun (v6 : Int32) (h5 : Mem) =>
   if v6 = 0 then
    some ((0 : Int32), h5)
   else
    (gI 5 h5 a0 3).bind fun v7 =>
    (pI 5 h5 a0 3 (v7 + 1)).bind fun h8 =>
    (fX5_hasDigit v2 h8).bind (fun x => (fun (v10 : Int32) (h9 : Mem) =>
     jn (fun (h11 : Mem) =>
      (fX5_hasNumber v2 h11).bind (fun x => (fun (v15 : Int32) (h14 : Mem) =>
       jn (fun (h16 : Mem) =>
        (gR 5 h16 a0 1).bind fun v19 =>
        (gI 5 h16 a0 4).bind fun v20 =>
        (gI 5 h16 a0 5).bind fun v21 =>
        if mKd h16 v19 = 4 then (fX4_add v19 v2 v20 v21 h16).bind (fun x => (fun (v23 : Int32) (h22 : Mem) =>
         some ((1 : Int32), h22)) x.1 x.2) else none) (fun k17 =>
        if v15 = 0 then
         k17 h14
        else
         if mKd h14 a0 = 5 then (fX5_takeNumber a0 h14).bind (fun x => (fun (v25 : Int32) (h24 : Mem) =>
          if v25 = 0 then
           some ((0 : Int32), h24)
          else
           k17 h24) x.1 x.2) else none)) x.1 x.2)) (fun k12 =>
      if v10 = 0 then
       k12 h9
      else
       if mKd h9 a0 = 5 then (fX5_takeDigit a0 h9).bind (fun x => (fun (v29 : Int32) (h28 : Mem) =>
        if v29 = 0 then
         some ((0 : Int32), h28)
        else
         k12 h28) x.1 x.2) else none)) x.1 x.2)) x.1 x.2)) x.1 x.2) else none
def fX5_findFault (a0 : Nat) (h0 : Mem) : Option (Int32 × Mem) :=
 (gR 5 h0 a0 1).bind fun v1 =>
 if mKd h0 v1 = 4 then (fX4_empty v1 h0).bind (fun x => (fun (v3 : Int32) (h2 : Mem) =>
  (pI 5 h2 a0 3 0).bind fun h4 =>
  lpF (fun k7 ((v5, h6) : Int32 × Mem) =>
   if 12 ≤ v5 then
    (gI 5 h6 a0 3).bind fun v25 =>
    some ((v25 : Int32), h6)
   else
    if mKd h6 a0 = 5 then (fX5_takeClause a0 h6).bind (fun x => (fun (v10 : Int32) (h9 : Mem) =>
     if v10 = 0 then
      (gI 5 h9 a0 3).bind fun v11 =>
      some ((v11 : Int32), h9)
     else
      if mKd h9 a0 = 5 then (fX5_next a0 h9).bind (fun x => (fun (v13 : Int32) (h12 : Mem) =>
       if v13 = (-1) then
        some (((-1) : Int32), h12)
       else
        if mKd h12 a0 = 5 then (fX5_next a0 h12).bind (fun x => (fun (v15 : Int32) (h14 : Mem) =>
         if v15 = 59 then
          if v5 = 11 then
           (gI 5 h14 a0 3).bind fun v16 =>
           some ((v16 : Int32), h14)
          else
           (gI 5 h14 a0 3).bind fun v17 =>
           (pI 5 h14 a0 3 (v17 + 1)).bind fun h18 =>
           nm (v5 + 1 : Int32) fun v19 =>
           k7 (v19, h18)
         else
          (gI 5 h14 a0 3).bind fun v21 =>
          some ((v21 : Int32), h14)) x.1 x.2) else none) x.1 x.2) else none) x.1 x.2) else none) FU (0, h4)) x.1 x.2) else none
def fX4_cell (a0 : Nat) (a1 : Int32) (a2 : Int32) (h0 : Mem) : Option (Int32 × Mem) :=
 nm ((a1 * 3) + a2 : Int32) fun v1 =>
 if a1 < 0 then
  some ((0 : Int32), h0)
 else
  (gI 4 h0 a0 0).bind fun v2 =>
  if v2 ≤ a1 then
   some ((0 : Int32), h0)
  else
   (gR 4 h0 a0 1).bind fun v3 =>
   (aLn h0 v3).bind fun v4 =>
   if v4 ≤ v1 then
    some ((0 : Int32), h0)
   else
    (gR 4 h0 a0 1).bind fun v5 =>
    (xI 11 h0 v5 v1).bind fun v6 =>
    some ((v6 : Int32), h0)
def fX4_second (a0 : Nat) (a1 : Int32) (h0 : Mem) : Option (Int32 × Mem) :=
 if mKd h0 a0 = 4 then (fX4_cell a0 a1 1 h0).bind (fun x => (fun (v2 : Int32) (h1 : Mem) =>
  some ((v2 : Int32), h1)) x.1 x.2) else none
def fX4_third (a0 : Nat) (a1 : Int32) (h0 : Mem) : Option (Int32 × Mem) :=
 if mKd h0 a0 = 4 then (fX4_cell a0 a1 2 h0).bind (fun x => (fun (v2 : Int32) (h1 : Mem) =>
  some ((v2 : Int32), h1)) x.1 x.2) else none
def fX4_first (a0 : Nat) (a1 : Int32) (h0 : Mem) : Option (Int32 × Mem) :=
 if mKd h0 a0 = 4 then (fX4_cell a0 a1 0 h0).bind (fun x => (fun (v2 : Int32) (h1 : Mem) =>
  some ((v2 : Int32), h1)) x.1 x.2) else none
def fX9_clauseAnswer (a0 : Nat) (a1 : Int32) (h0 : Mem) : Option (Int32 × Mem) :=
 (gR 9 h0 a0 7).bind fun v1 =>
 (gR 5 h0 v1 1).bind fun v2 =>
 if mKd h0 v2 = 4 then (fX4_second v2 a1 h0).bind (fun x => (fun (v4 : Int32) (h3 : Mem) =>
  (gR 9 h3 a0 7).bind fun v5 =>
  (gR 5 h3 v5 1).bind fun v6 =>
  if mKd h3 v6 = 4 then (fX4_third v6 a1 h3).bind (fun x => (fun (v8 : Int32) (h7 : Mem) =>
   (gR 9 h7 a0 7).bind fun v9 =>
   (gR 5 h7 v9 1).bind fun v10 =>
   if mKd h7 v10 = 4 then (fX4_first v10 a1 h7).bind (fun x => (fun (v12 : Int32) (h11 : Mem) =>
    if v12 = 61 then
     if mKd h11 a0 = 9 then (fX9_equal a0 v8 h11).bind (fun x => (fun (v15 : Int32) (h14 : Mem) =>
      some ((v15 : Int32), h14)) x.1 x.2) else none
    else if v12 = 97 then
     if mKd h11 a0 = 9 then (fX9_number a0 v4 v8 h11).bind (fun x => (fun (v18 : Int32) (h17 : Mem) =>
      some ((v18 : Int32), h17)) x.1 x.2) else none
    else if v12 = 100 then
     if mKd h11 a0 = 9 then (fX9_degree a0 v4 h11).bind (fun x => (fun (v21 : Int32) (h20 : Mem) =>
      some ((v21 : Int32), h20)) x.1 x.2) else none
    else if v12 = 116 then
     if mKd h11 a0 = 9 then (fX9_move a0 v4 h11).bind (fun x => (fun (v24 : Int32) (h23 : Mem) =>
      some ((v24 : Int32), h23)) x.1 x.2) else none
    else if v12 = 119 then
     if mKd h11 a0 = 9 then (fX9_window a0 v8 h11).bind (fun x => (fun (v27 : Int32) (h26 : Mem) =>
      some ((v27 : Int32), h26)) x.1 x.2) else none
    else 
     some (((-1) : Int32), h11)) x.1 x.2) else none) x.1 x.2) else none) x.1 x.2) else none
def fX9_read (a0 : Nat) (h0 : Mem) : Option (Int32 × Mem) :=
 (gR 9 h0 a0 7).bind fun v1 =>
 if mKd h0 v1 = 5 then (fX5_findFault v1 h0).bind (fun x => (fun (v3 : Int32) (h2 : Mem) =>
  (gR 9 h2 a0 7).bind fun v4 =>
  (pI 5 h2 v4 0 0).bind fun h5 =>
  if v3 = (-1) then
   lpF (fun k9 ((v6, v7, h8) : Int32 × Int32 × Mem) =>
    (gR 9 h8 a0 7).bind fun v11 =>
    (gR 5 h8 v11 1).bind fun v12 =>
    (gI 4 h8 v12 0).bind fun v13 =>
    if v13 ≤ v7 then
     some ((v6 : Int32), h8)
    else
     if mKd h8 a0 = 9 then (fX9_clauseAnswer a0 v7 h8).bind (fun x => (fun (v15 : Int32) (h14 : Mem) =>
      if v15 < 0 then
       nm (v7 + 1 : Int32) fun v18 =>
       k9 (v6, v18, h14)
      else
       nm (v6 + 1 : Int32) fun v16 =>
       nm (v7 + 1 : Int32) fun v17 =>
       k9 (v16, v17, h14)) x.1 x.2) else none) FU (0, 0, h5)
  else
   some (((-10) - v3 : Int32), h5)) x.1 x.2) else none
def fX9_of (a0 : Nat) (a1 : Int32) (h0 : Mem) : Option (Int32 × Mem) :=
 (gR 9 h0 a0 0).bind fun v1 =>
 (gR 6 h0 v1 0).bind fun v2 =>
 (gR 1 h0 v2 0).bind fun v3 =>
 if mKd h0 v3 = 2 then (fX2_has v3 a1 h0).bind (fun x => (fun (v5 : Int32) (h4 : Mem) =>
  if v5 = 0 then
   some (((-1) : Int32), h4)
  else
   if mKd h4 v3 = 2 then (fX2_get v3 a1 h4).bind (fun x => (fun (v7 : Int32) (h6 : Mem) =>
    some ((v7 + 100 : Int32), h6)) x.1 x.2) else none) x.1 x.2) else none
def fX2_isLike (a0 : Nat) (a1 : Nat) (h0 : Mem) : Option (Int32 × Mem) :=
 lpF (fun k2 (v1 : Int32) =>
  (gR 2 h0 a0 1).bind fun v4 =>
  (aLn h0 v4).bind fun v5 =>
  if v5 ≤ v1 then
   (gI 2 h0 a0 0).bind fun v12 =>
   (gI 2 h0 a1 0).bind fun v13 =>
   if v12 = v13 then
    some ((1 : Int32), h0)
   else
    some ((0 : Int32), h0)
  else
   (gR 2 h0 a0 1).bind fun v6 =>
   (xI 11 h0 v6 v1).bind fun v7 =>
   (gR 2 h0 a1 1).bind fun v8 =>
   (xI 11 h0 v8 v1).bind fun v9 =>
   if v7 = v9 then
    nm (v1 + 1 : Int32) fun v10 =>
    k2 v10
   else
    some ((0 : Int32), h0)) FU 0
def fX1_isLike (a0 : Nat) (a1 : Nat) (h0 : Mem) : Option (Int32 × Mem) :=
 (gI 1 h0 a0 1).bind fun v1 =>
 (gI 1 h0 a1 1).bind fun v2 =>
 if v1 = v2 then
  (gI 1 h0 a0 2).bind fun v3 =>
  (gI 1 h0 a1 2).bind fun v4 =>
  if v3 = v4 then
   (gR 1 h0 a0 0).bind fun v5 =>
   (gR 1 h0 a1 0).bind fun v6 =>
   if mKd h0 v5 = 2 then (fX2_isLike v5 v6 h0).bind (fun x => (fun (v8 : Int32) (h7 : Mem) =>
    if v8 = 0 then
     some ((0 : Int32), h7)
    else
     some ((1 : Int32), h7)) x.1 x.2) else none
  else
   some ((0 : Int32), h0)
 else
  some ((0 : Int32), h0)
def fX2_copy (a0 : Nat) (a1 : Nat) (h0 : Mem) : Option (Unit × Mem) :=
 (gI 2 h0 a1 0).bind fun v1 =>
 (pI 2 h0 a0 0 v1).bind fun h2 =>
 (gR 2 h2 a1 1).bind fun v3 =>
 (gR 2 h2 a0 1).bind fun v4 =>
 (gR 2 h2 a0 1).bind fun v5 =>
 (aLn h2 v5).bind fun v6 =>
 (cpI h2 v3 0 v4 0 v6).bind fun h7 =>
 some ((), h7)
def fX1_copy (a0 : Nat) (a1 : Nat) (h0 : Mem) : Option (Unit × Mem) :=
 (gR 1 h0 a0 0).bind fun v1 =>
 (gR 1 h0 a1 0).bind fun v2 =>
 if mKd h0 v1 = 2 then (fX2_copy v1 v2 h0).bind (fun x => (fun (_u : Unit) (h3 : Mem) =>
  (gI 1 h3 a1 1).bind fun v4 =>
  (pI 1 h3 a0 1 v4).bind fun h5 =>
  (gI 1 h5 a1 2).bind fun v6 =>
  (pI 1 h5 a0 2 v6).bind fun h7 =>
  some ((), h7)) x.1 x.2) else none
def fX1_hasInWindow (a0 : Nat) (a1 : Int64) (a3 : Int64) (h0 : Mem) : Option (Int32 × Mem) :=
 (gI 1 h0 a0 2).bind fun v1 =>
 if (lg_cmp a1 ((-v1).toInt64)) < 0 then
  some ((0 : Int32), h0)
 else
  (gI 1 h0 a0 2).bind fun v2 =>
  if 0 < (lg_cmp a1 v2.toInt64) then
   some ((0 : Int32), h0)
  else
   (gI 1 h0 a0 2).bind fun v3 =>
   if (lg_cmp a3 ((-v3).toInt64)) < 0 then
    some ((0 : Int32), h0)
   else
    (gI 1 h0 a0 2).bind fun v4 =>
    if 0 < (lg_cmp a3 v4.toInt64) then
     some ((0 : Int32), h0)
    else
     some ((1 : Int32), h0)
def fX2_at (a0 : Nat) (a1 : Int64) (a3 : Int64) (h0 : Mem) : Option (Int64 × Mem) :=
 (gR 2 h0 a0 1).bind fun v1 =>
 (xI 11 h0 v1 0).bind fun v2 =>
 nm (v2.toInt64 : Int64) fun v3 =>
 lpF (fun k7 ((v4, v5, v6) : Int64 × Int64 × Int32) =>
  (gI 2 h0 a0 0).bind fun v9 =>
  if v9 < v6 then
   some ((v4 : Int64), h0)
  else
   (gR 2 h0 a0 1).bind fun v10 =>
   (aLn h0 v10).bind fun v11 =>
   if v11 ≤ v6 then
    some ((v4 : Int64), h0)
   else
    nm (v5 * a3 : Int64) fun v12 =>
    (gR 2 h0 a0 1).bind fun v13 =>
    (xI 11 h0 v13 v6).bind fun v14 =>
    nm ((v4 * a1) + (v14.toInt64 * v12) : Int64) fun v15 =>
    nm (v6 + 1 : Int32) fun v16 =>
    k7 (v15, v12, v16)) FU (v3, 1, 1)
def fX1_isAnswer (a0 : Nat) (a1 : Int64) (a3 : Int64) (h0 : Mem) : Option (Int32 × Mem) :=
 if mKd h0 a0 = 1 then (fX1_hasInWindow a0 a1 a3 h0).bind (fun x => (fun (v2 : Int32) (h1 : Mem) =>
  if v2 = 0 then
   some ((0 : Int32), h1)
  else
   (gR 1 h1 a0 0).bind fun v3 =>
   if mKd h1 v3 = 2 then (fX2_at v3 a1 a3 h1).bind (fun x => (fun (v5 : Int64) (h4 : Mem) =>
    (gI 1 h4 a0 1).bind fun v6 =>
    if (lg_cmp v5 v6.toInt64) = 0 then
     some ((1 : Int32), h4)
    else
     some ((0 : Int32), h4)) x.1 x.2) else none) x.1 x.2) else none
def fX0_cellAt (a0 : Nat) (a1 : Int32) (a2 : Int32) (h0 : Mem) : Option (Int32 × Mem) :=
 (gR 0 h0 a0 4).bind fun v1 =>
 if mKd h0 v1 = 1 then (fX1_hasInWindow v1 a1.toInt64 a2.toInt64 h0).bind (fun x => (fun (v3 : Int32) (h2 : Mem) =>
  if v3 = 0 then
   some (((-1) : Int32), h2)
  else
   some (((((a1 + 40) * 81) + a2) + 40 : Int32), h2)) x.1 x.2) else none
def fX0_setLabel (a0 : Nat) (a1 : Int32) (a2 : Int32) (h0 : Mem) : Option (Unit × Mem) :=
 if a1 < 0 then
  some ((), h0)
 else
  (gR 0 h0 a0 5).bind fun v1 =>
  (aLn h0 v1).bind fun v2 =>
  if v2 ≤ a1 then
   some ((), h0)
  else
   (gR 0 h0 a0 5).bind fun v3 =>
   (yI 11 h0 v3 a1 a2).bind fun h4 =>
   some ((), h4)
def fX0_look (a0 : Nat) (a1 : Nat) (h0 : Mem) : Option (Unit × Mem) :=
 (gI 0 h0 a0 2).bind fun v1 =>
 jn (fun (h2 : Mem) =>
  (pI 0 h2 a0 2 1).bind fun h5 =>
  (gR 0 h5 a0 4).bind fun v6 =>
  if mKd h5 v6 = 1 then (fX1_copy v6 a1 h5).bind (fun x => (fun (_u : Unit) (h7 : Mem) =>
   (pI 0 h7 a0 0 0).bind fun h8 =>
   (pI 0 h8 a0 1 0).bind fun h9 =>
   (pI 0 h9 a0 3 0).bind fun h10 =>
   (gR 0 h10 a0 5).bind fun v11 =>
   (fJ7_fill_53178 v11 (-1) h10).bind (fun x => (fun (_u : Unit) (h12 : Mem) =>
    (gR 0 h12 a0 4).bind fun v13 =>
    (gI 1 h12 v13 2).bind fun v14 =>
    nm (-v14 : Int32) fun v15 =>
    lpF (fun k18 ((v16, h17) : Int32 × Mem) =>
     (gR 0 h17 a0 4).bind fun v20 =>
     (gI 1 h17 v20 2).bind fun v21 =>
     if v21 < v16 then
      some ((), h17)
     else
      (gR 0 h17 a0 4).bind fun v22 =>
      (gI 1 h17 v22 2).bind fun v23 =>
      nm (-v23 : Int32) fun v24 =>
      lpF (fun k27 ((v25, h26) : Int32 × Mem) =>
       (gR 0 h26 a0 4).bind fun v29 =>
       (gI 1 h26 v29 2).bind fun v30 =>
       if v30 < v25 then
        nm (v16 + 1 : Int32) fun v42 =>
        k18 (v42, h26)
       else
        (gR 0 h26 a0 4).bind fun v31 =>
        if mKd h26 v31 = 1 then (fX1_isAnswer v31 v16.toInt64 v25.toInt64 h26).bind (fun x => (fun (v33 : Int32) (h32 : Mem) =>
         if v33 = 0 then
          nm (v25 + 1 : Int32) fun v40 =>
          k27 (v40, h32)
         else
          if mKd h32 a0 = 0 then (fX0_cellAt a0 v16 v25 h32).bind (fun x => (fun (v35 : Int32) (h34 : Mem) =>
           if mKd h34 a0 = 0 then (fX0_setLabel a0 v35 (-2) h34).bind (fun x => (fun (_u : Unit) (h36 : Mem) =>
            (gI 0 h36 a0 0).bind fun v37 =>
            (pI 0 h36 a0 0 (v37 + 1)).bind fun h38 =>
            nm (v25 + 1 : Int32) fun v39 =>
            k27 (v39, h38)) x.1 x.2) else none) x.1 x.2) else none) x.1 x.2) else none) FU (v24, h17)) FU (v15, h12)) x.1 x.2)) x.1 x.2) else none) (fun k3 =>
  if v1 = 0 then
   k3 h0
  else
   (gR 0 h0 a0 4).bind fun v45 =>
   if mKd h0 v45 = 1 then (fX1_isLike v45 a1 h0).bind (fun x => (fun (v47 : Int32) (h46 : Mem) =>
    if v47 = 0 then
     k3 h46
    else
     some ((), h46)) x.1 x.2) else none)
def fX9_answersNow (a0 : Nat) (h0 : Mem) : Option (Nat × Mem) :=
 (gR 9 h0 a0 4).bind fun v1 =>
 (gR 9 h0 a0 0).bind fun v2 =>
 (gR 6 h0 v2 0).bind fun v3 =>
 if mKd h0 v1 = 0 then (fX0_look v1 v3 h0).bind (fun x => (fun (_u : Unit) (h4 : Mem) =>
  (gR 9 h4 a0 4).bind fun v5 =>
  some (v5, h4)) x.1 x.2) else none
def fX2_isLeftBy (a0 : Nat) (a1 : Int32) (a2 : Int32) (a3 : Int32) (a4 : Int32) (h0 : Mem) : Option (Int32 × Mem) :=
 if mKd h0 a0 = 2 then (fX2_findTurned a0 a1 a2 a3 a4 h0).bind (fun x => (fun (_u : Unit) (h1 : Mem) =>
  lpF (fun k3 (v2 : Int32) =>
   (gR 2 h1 a0 2).bind fun v5 =>
   (aLn h1 v5).bind fun v6 =>
   if v6 ≤ v2 then
    some ((1 : Int32), h1)
   else
    (gR 2 h1 a0 1).bind fun v7 =>
    (aLn h1 v7).bind fun v8 =>
    if v8 ≤ v2 then
     some ((1 : Int32), h1)
    else
     (gR 2 h1 a0 2).bind fun v9 =>
     (xJ h1 v9 v2).bind fun v10 =>
     (gR 2 h1 a0 1).bind fun v11 =>
     (xI 11 h1 v11 v2).bind fun v12 =>
     if (lg_cmp v10 v12.toInt64) = 0 then
      nm (v2 + 1 : Int32) fun v13 =>
      k3 v13
     else
      some ((0 : Int32), h1)) FU 0) x.1 x.2) else none
def fX8_add (a0 : Nat) (a1 : Int32) (a2 : Int32) (a3 : Int32) (a4 : Int32) (h0 : Mem) : Option (Unit × Mem) :=
 (gI 8 h0 a0 0).bind fun v1 =>
 nm (v1 * 4 : Int32) fun v2 =>
 if v2 < 0 then
  some ((), h0)
 else
  (gR 8 h0 a0 1).bind fun v3 =>
  (aLn h0 v3).bind fun v4 =>
  if (v2 + 3) < v4 then
   (gR 8 h0 a0 1).bind fun v5 =>
   (yI 11 h0 v5 v2 a1).bind fun h6 =>
   (gR 8 h6 a0 1).bind fun v7 =>
   (yI 11 h6 v7 (v2 + 1) a2).bind fun h8 =>
   (gR 8 h8 a0 1).bind fun v9 =>
   (yI 11 h8 v9 (v2 + 2) a3).bind fun h10 =>
   (gR 8 h10 a0 1).bind fun v11 =>
   (yI 11 h10 v11 (v2 + 3) a4).bind fun h12 =>
   (gI 8 h12 a0 0).bind fun v13 =>
   (pI 8 h12 a0 0 (v13 + 1)).bind fun h14 =>
   some ((), h14)
  else
   some ((), h0)
def fX8_look (a0 : Nat) (a1 : Nat) (h0 : Mem) : Option (Unit × Mem) :=
 (pI 8 h0 a0 0 0).bind fun h1 =>
 lpF (fun k4 ((v2, h3) : Int32 × Mem) =>
  if 2 < v2 then
   some ((), h3)
  else
   lpF (fun k8 ((v6, h7) : Int32 × Mem) =>
    if 2 < v6 then
     nm (v2 + 1 : Int32) fun v34 =>
     k4 (v34, h7)
    else
     lpF (fun k12 ((v10, h11) : Int32 × Mem) =>
      if 2 < v10 then
       nm (v6 + 1 : Int32) fun v32 =>
       k8 (v32, h11)
      else
       lpF (fun k16 ((v14, h15) : Int32 × Mem) =>
        if 2 < v14 then
         nm (v10 + 1 : Int32) fun v30 =>
         k12 (v30, h15)
        else
         nm ((v2 * v14) - (v6 * v10) : Int32) fun v18 =>
         jn (fun (_ : Unit) =>
          if mKd h15 a1 = 2 then (fX2_isLeftBy a1 v2 v6 v10 v14 h15).bind (fun x => (fun (v22 : Int32) (h21 : Mem) =>
           if v22 = 0 then
            nm (v14 + 1 : Int32) fun v25 =>
            k16 (v25, h21)
           else
            if mKd h21 a0 = 8 then (fX8_add a0 v2 v6 v10 v14 h21).bind (fun x => (fun (_u : Unit) (h23 : Mem) =>
             nm (v14 + 1 : Int32) fun v24 =>
             k16 (v24, h23)) x.1 x.2) else none) x.1 x.2) else none) (fun k19 =>
          if v18 = 1 then
           k19 ()
          else
           if v18 = (-1) then
            k19 ()
           else
            nm (v14 + 1 : Int32) fun v27 =>
            k16 (v27, h15))) FU ((-2), h11)) FU ((-2), h7)) FU ((-2), h3)) FU ((-2), h1)
def fX9_unitsNow (a0 : Nat) (h0 : Mem) : Option (Nat × Mem) :=
 (gR 9 h0 a0 5).bind fun v1 =>
 (gR 9 h0 a0 0).bind fun v2 =>
 (gR 6 h0 v2 0).bind fun v3 =>
 (gR 1 h0 v3 0).bind fun v4 =>
 if mKd h0 v1 = 8 then (fX8_look v1 v4 h0).bind (fun x => (fun (_u : Unit) (h5 : Mem) =>
  (gR 9 h5 a0 5).bind fun v6 =>
  some (v6, h5)) x.1 x.2) else none
def fX0_labelAt (a0 : Nat) (a1 : Int32) (h0 : Mem) : Option (Int32 × Mem) :=
 if a1 < 0 then
  some (((-1) : Int32), h0)
 else
  (gR 0 h0 a0 5).bind fun v1 =>
  (aLn h0 v1).bind fun v2 =>
  if v2 ≤ a1 then
   some (((-1) : Int32), h0)
  else
   (gR 0 h0 a0 5).bind fun v3 =>
   (xI 11 h0 v3 a1).bind fun v4 =>
   some ((v4 : Int32), h0)
def fX0_await (a0 : Nat) (a1 : Int32) (a2 : Int32) (h0 : Mem) : Option (Int32 × Mem) :=
 if mKd h0 a0 = 0 then (fX0_labelAt a0 a1 h0).bind (fun x => (fun (v2 : Int32) (h1 : Mem) =>
  if v2 = (-2) then
   if mKd h1 a0 = 0 then (fX0_setLabel a0 a1 ((-4) - a2) h1).bind (fun x => (fun (_u : Unit) (h3 : Mem) =>
    some ((a1 : Int32), h3)) x.1 x.2) else none
  else
   some ((a2 : Int32), h1)) x.1 x.2) else none
def fX0_behind (a0 : Nat) (a1 : Int32) (h0 : Mem) : Option (Int32 × Mem) :=
 if mKd h0 a0 = 0 then (fX0_labelAt a0 a1 h0).bind (fun x => (fun (v2 : Int32) (h1 : Mem) =>
  if (-3) ≤ v2 then
   some (((-1) : Int32), h1)
  else
   some (((-4) - v2 : Int32), h1)) x.1 x.2) else none
def fX8_get (a0 : Nat) (a1 : Int32) (a2 : Int32) (h0 : Mem) : Option (Int32 × Mem) :=
 nm ((a1 * 4) + a2 : Int32) fun v1 =>
 if a1 < 0 then
  some ((0 : Int32), h0)
 else
  (gI 8 h0 a0 0).bind fun v2 =>
  if v2 ≤ a1 then
   some ((0 : Int32), h0)
  else
   if a2 < 0 then
    some ((0 : Int32), h0)
   else
    if 4 ≤ a2 then
     some ((0 : Int32), h0)
    else
     (gR 8 h0 a0 1).bind fun v3 =>
     (aLn h0 v3).bind fun v4 =>
     if v4 ≤ v1 then
      some ((0 : Int32), h0)
     else
      (gR 8 h0 a0 1).bind fun v5 =>
      (xI 11 h0 v5 v1).bind fun v6 =>
      some ((v6 : Int32), h0)
def fX0_xOf (a0 : Int32) (h0 : Mem) : Option (Int32 × Mem) :=
 if (81 : Int32) = 0 then none else
 some (((a0 / 81) - 40 : Int32), h0)
def fX0_yOf (a0 : Int32) (h0 : Mem) : Option (Int32 × Mem) :=
 if (81 : Int32) = 0 then none else
 some (((a0 - a0 / 81 * 81) - 40 : Int32), h0)
def fX0_spread (a0 : Nat) (a1 : Int32) (a2 : Nat) (h0 : Mem) : Option (Unit × Mem) :=
 if mKd h0 a0 = 0 then (fX0_await a0 a1 (-1) h0).bind (fun x => (fun (v2 : Int32) (h1 : Mem) =>
  lpF (fun k6 ((v3, v4, h5) : Int32 × Int32 × Mem) =>
   (gR 0 h5 a0 5).bind fun v8 =>
   (aLn h5 v8).bind fun v9 =>
   if v9 ≤ v4 then
    some ((), h5)
   else
    if v3 = (-1) then
     some ((), h5)
    else
     if mKd h5 a0 = 0 then (fX0_behind a0 v3 h5).bind (fun x => (fun (v11 : Int32) (h10 : Mem) =>
      (gI 0 h10 a0 1).bind fun v12 =>
      if mKd h10 a0 = 0 then (fX0_setLabel a0 v3 v12 h10).bind (fun x => (fun (_u : Unit) (h13 : Mem) =>
       lpF (fun k17 ((v14, v15, h16) : Int32 × Int32 × Mem) =>
        (gI 8 h16 a2 0).bind fun v19 =>
        if v19 ≤ v15 then
         nm (v4 + 1 : Int32) fun v43 =>
         k6 (v14, v43, h16)
        else
         if mKd h16 a2 = 8 then (fX8_get a2 v15 0 h16).bind (fun x => (fun (v21 : Int32) (h20 : Mem) =>
          (fX0_xOf v3 h20).bind (fun x => (fun (v23 : Int32) (h22 : Mem) =>
           if mKd h22 a2 = 8 then (fX8_get a2 v15 1 h22).bind (fun x => (fun (v25 : Int32) (h24 : Mem) =>
            (fX0_yOf v3 h24).bind (fun x => (fun (v27 : Int32) (h26 : Mem) =>
             nm ((v21 * v23) + (v25 * v27) : Int32) fun v28 =>
             if mKd h26 a2 = 8 then (fX8_get a2 v15 2 h26).bind (fun x => (fun (v30 : Int32) (h29 : Mem) =>
              (fX0_xOf v3 h29).bind (fun x => (fun (v32 : Int32) (h31 : Mem) =>
               if mKd h31 a2 = 8 then (fX8_get a2 v15 3 h31).bind (fun x => (fun (v34 : Int32) (h33 : Mem) =>
                (fX0_yOf v3 h33).bind (fun x => (fun (v36 : Int32) (h35 : Mem) =>
                 nm ((v30 * v32) + (v34 * v36) : Int32) fun v37 =>
                 if mKd h35 a0 = 0 then (fX0_cellAt a0 v28 v37 h35).bind (fun x => (fun (v39 : Int32) (h38 : Mem) =>
                  if mKd h38 a0 = 0 then (fX0_await a0 v39 v14 h38).bind (fun x => (fun (v41 : Int32) (h40 : Mem) =>
                   nm (v15 + 1 : Int32) fun v42 =>
                   k17 (v41, v42, h40)) x.1 x.2) else none) x.1 x.2) else none) x.1 x.2)) x.1 x.2) else none) x.1 x.2)) x.1 x.2) else none) x.1 x.2)) x.1 x.2) else none) x.1 x.2)) x.1 x.2) else none) FU (v11, 0, h13)) x.1 x.2) else none) x.1 x.2) else none) FU (v2, 0, h1)) x.1 x.2) else none
def fX0_findFamilies (a0 : Nat) (a1 : Nat) (h0 : Mem) : Option (Unit × Mem) :=
 (gI 0 h0 a0 3).bind fun v1 =>
 if v1 = 0 then
  (pI 0 h0 a0 3 1).bind fun h2 =>
  (gR 0 h2 a0 4).bind fun v3 =>
  (gR 1 h2 v3 0).bind fun v4 =>
  if mKd h2 a1 = 8 then (fX8_look a1 v4 h2).bind (fun x => (fun (_u : Unit) (h5 : Mem) =>
   lpF (fun k8 ((v6, h7) : Int32 × Mem) =>
    (gR 0 h7 a0 5).bind fun v10 =>
    (aLn h7 v10).bind fun v11 =>
    if v11 ≤ v6 then
     some ((), h7)
    else
     (gR 0 h7 a0 5).bind fun v12 =>
     (xI 11 h7 v12 v6).bind fun v13 =>
     if v13 = (-2) then
      if mKd h7 a0 = 0 then (fX0_spread a0 v6 a1 h7).bind (fun x => (fun (_u : Unit) (h14 : Mem) =>
       (gI 0 h14 a0 1).bind fun v15 =>
       (pI 0 h14 a0 1 (v15 + 1)).bind fun h16 =>
       nm (v6 + 1 : Int32) fun v17 =>
       k8 (v17, h16)) x.1 x.2) else none
     else
      nm (v6 + 1 : Int32) fun v18 =>
      k8 (v18, h7)) FU (0, h5)) x.1 x.2) else none
 else
  some ((), h0)
def fX9_answersInFamilies (a0 : Nat) (h0 : Mem) : Option (Nat × Mem) :=
 (gR 9 h0 a0 4).bind fun v1 =>
 (gR 9 h0 a0 0).bind fun v2 =>
 (gR 6 h0 v2 0).bind fun v3 =>
 if mKd h0 v1 = 0 then (fX0_look v1 v3 h0).bind (fun x => (fun (_u : Unit) (h4 : Mem) =>
  (gR 9 h4 a0 4).bind fun v5 =>
  (gR 9 h4 a0 5).bind fun v6 =>
  if mKd h4 v5 = 0 then (fX0_findFamilies v5 v6 h4).bind (fun x => (fun (_u : Unit) (h7 : Mem) =>
   (gR 9 h7 a0 4).bind fun v8 =>
   some (v8, h7)) x.1 x.2) else none) x.1 x.2) else none
def fX3_at (a0 : Nat) (a1 : Int32) (h0 : Mem) : Option (Int64 × Mem) :=
 lpF (fun k3 ((v1, v2) : Int64 × Int32) =>
  (gI 3 h0 a0 1).bind fun v5 =>
  if v5 < v2 then
   some ((v1 : Int64), h0)
  else
   (gR 3 h0 a0 2).bind fun v6 =>
   (aLn h0 v6).bind fun v7 =>
   if v7 ≤ v2 then
    some ((v1 : Int64), h0)
   else
    (gR 3 h0 a0 2).bind fun v8 =>
    (xJ h0 v8 v2).bind fun v9 =>
    nm ((v1 * a1.toInt64) + v9 : Int64) fun v10 =>
    nm (v2 + 1 : Int32) fun v11 =>
    k3 (v10, v11)) FU (0, 0)
def fX3_greatestFrom (a0 : Nat) (a1 : Int32) (h0 : Mem) : Option (Int32 × Mem) :=
 if mKd h0 a0 = 3 then (fX3_at a0 100 h0).bind (fun x => (fun (v2 : Int64) (h1 : Mem) =>
  lpF (fun k6 ((v3, v4, h5) : Int64 × Int32 × Mem) =>
   if v4 < a1 then
    some (((-1) : Int32), h5)
   else
    if mKd h5 a0 = 3 then (fX3_at a0 v4 h5).bind (fun x => (fun (v9 : Int64) (h8 : Mem) =>
     if (lg_cmp v9 0) = 0 then
      some ((v4 : Int32), h8)
     else
      jn (fun (_ : Unit) =>
       if 0 ≤ (lg_cmp v9 0) then
        nm (v4 + (-1) : Int32) fun v14 =>
        k6 (v9, v14, h8)
       else
        if (lg_cmp v3 0) ≤ 0 then
         nm (v4 + (-1) : Int32) fun v12 =>
         k6 (v9, v12, h8)
        else
         some ((v4 : Int32), h8)) (fun k10 =>
       if (lg_cmp v9 0) ≤ 0 then
        k10 ()
       else
        if (lg_cmp v3 0) < 0 then
         some ((v4 : Int32), h8)
        else
         k10 ())) x.1 x.2) else none) FU (v2, 99, h1)) x.1 x.2) else none
def fX3_keep (a0 : Nat) (a1 : Int32) (h0 : Mem) : Option (Unit × Mem) :=
 (gI 3 h0 a0 0).bind fun v1 =>
 if v1 < 0 then
  some ((), h0)
 else
  (gI 3 h0 a0 0).bind fun v2 =>
  if v2 < 8 then
   (gI 3 h0 a0 0).bind fun v3 =>
   jn (fun (v4 : Int64) =>
    (gI 3 h0 a0 0).bind fun v7 =>
    jn (fun (v8 : Int64) =>
     (gI 3 h0 a0 0).bind fun v11 =>
     jn (fun (v12 : Int64) =>
      (gI 3 h0 a0 0).bind fun v15 =>
      jn (fun (v16 : Int64) =>
       (gR 3 h0 a0 3).bind fun v19 =>
       (gI 3 h0 a0 0).bind fun v20 =>
       (yI 11 h0 v19 v20 a1).bind fun h21 =>
       (gR 3 h21 a0 4).bind fun v22 =>
       (gI 3 h21 a0 0).bind fun v23 =>
       (yJ h21 v22 v23 ((a1.toInt64 * v4) + v12)).bind fun h24 =>
       (gR 3 h24 a0 5).bind fun v25 =>
       (gI 3 h24 a0 0).bind fun v26 =>
       (yJ h24 v25 v26 ((a1.toInt64 * v8) + v16)).bind fun h27 =>
       (gI 3 h27 a0 0).bind fun v28 =>
       (pI 3 h27 a0 0 (v28 + 1)).bind fun h29 =>
       some ((), h29)) (fun k17 =>
       if v15 ≤ 1 then
        (gI 3 h0 a0 0).bind fun v33 =>
        k17 ((1 - v33).toInt64)
       else
        (gR 3 h0 a0 5).bind fun v30 =>
        (gI 3 h0 a0 0).bind fun v31 =>
        (xJ h0 v30 (v31 - 2)).bind fun v32 =>
        k17 v32)) (fun k13 =>
      if v11 ≤ 1 then
       (gI 3 h0 a0 0).bind fun v38 =>
       k13 v38.toInt64
      else
       (gR 3 h0 a0 4).bind fun v35 =>
       (gI 3 h0 a0 0).bind fun v36 =>
       (xJ h0 v35 (v36 - 2)).bind fun v37 =>
       k13 v37)) (fun k9 =>
     if v7 ≤ 0 then
      k9 0
     else
      (gR 3 h0 a0 5).bind fun v40 =>
      (gI 3 h0 a0 0).bind fun v41 =>
      (xJ h0 v40 (v41 - 1)).bind fun v42 =>
      k9 v42)) (fun k5 =>
    if v3 ≤ 0 then
     k5 1
    else
     (gR 3 h0 a0 4).bind fun v44 =>
     (gI 3 h0 a0 0).bind fun v45 =>
     (xJ h0 v44 (v45 - 1)).bind fun v46 =>
     k5 v46)
  else
   some ((), h0)
def fX3_goBehind (a0 : Nat) (a1 : Int32) (h0 : Mem) : Option (Unit × Mem) :=
 (gI 3 h0 a0 1).bind fun v1 =>
 lpF (fun k4 ((v2, h3) : Int32 × Mem) =>
  if v2 ≤ 0 then
   (gI 3 h3 a0 1).bind fun v22 =>
   lpF (fun k26 ((v23, v24, h25) : Int32 × Int32 × Mem) =>
    if v24 ≤ v23 then
     some ((), h25)
    else
     (gR 3 h25 a0 2).bind fun v28 =>
     (aLn h25 v28).bind fun v29 =>
     if v29 ≤ v24 then
      some ((), h25)
     else
      (gR 3 h25 a0 2).bind fun v30 =>
      (xJ h25 v30 v23).bind fun v31 =>
      (gR 3 h25 a0 2).bind fun v32 =>
      (gR 3 h25 a0 2).bind fun v33 =>
      (xJ h25 v33 v24).bind fun v34 =>
      (yJ h25 v32 v23 v34).bind fun h35 =>
      (gR 3 h35 a0 2).bind fun v36 =>
      (yJ h35 v36 v24 v31).bind fun h37 =>
      nm (v23 + 1 : Int32) fun v38 =>
      nm (v24 + (-1) : Int32) fun v39 =>
      k26 (v38, v39, h37)) FU (0, v22, h3)
  else
   lpF (fun k8 ((v6, h7) : Int32 × Mem) =>
    if v2 < v6 then
     nm (v2 + (-1) : Int32) fun v20 =>
     k4 (v20, h7)
    else
     (gR 3 h7 a0 2).bind fun v10 =>
     (aLn h7 v10).bind fun v11 =>
     if v11 ≤ v6 then
      nm (v2 + (-1) : Int32) fun v18 =>
      k4 (v18, h7)
     else
      (gR 3 h7 a0 2).bind fun v12 =>
      (xJ h7 v12 v6).bind fun v13 =>
      (gR 3 h7 a0 2).bind fun v14 =>
      (xJ h7 v14 (v6 - 1)).bind fun v15 =>
      (yJ h7 v12 v6 (v13 + (a1.toInt64 * v15))).bind fun h16 =>
      nm (v6 + 1 : Int32) fun v17 =>
      k8 (v17, h16)) FU (1, h3)) FU (v1, h0)
def fX3_isRowBeyond (a0 : Nat) (h0 : Mem) : Option (Int32 × Mem) :=
 lpF (fun k2 (v1 : Int32) =>
  (gR 3 h0 a0 2).bind fun v4 =>
  (aLn h0 v4).bind fun v5 =>
  if v5 ≤ v1 then
   some ((0 : Int32), h0)
  else
   (gR 3 h0 a0 2).bind fun v6 =>
   (xJ h0 v6 v1).bind fun v7 =>
   if 0 < (lg_cmp v7 1000000000) then
    some ((1 : Int32), h0)
   else
    (gR 3 h0 a0 2).bind fun v8 =>
    (xJ h0 v8 v1).bind fun v9 =>
    if 0 ≤ (lg_cmp v9 (-1000000000)) then
     nm (v1 + 1 : Int32) fun v10 =>
     k2 v10
    else
     some ((1 : Int32), h0)) FU 0
def fX3_look (a0 : Nat) (a1 : Nat) (h0 : Mem) : Option (Unit × Mem) :=
 (pI 3 h0 a0 0 0).bind fun h1 =>
 (gI 2 h1 a1 0).bind fun v2 =>
 (pI 3 h1 a0 1 v2).bind fun h3 =>
 lpF (fun k6 ((v4, h5) : Int32 × Mem) =>
  (gR 3 h5 a0 2).bind fun v8 =>
  (aLn h5 v8).bind fun v9 =>
  if v9 ≤ v4 then
   lpF (fun k17 ((v15, h16) : Int32 × Mem) =>
    if 8 ≤ v15 then
     some ((), h16)
    else
     jn (fun (v19 : Int32) =>
      if mKd h16 a0 = 3 then (fX3_greatestFrom a0 v19 h16).bind (fun x => (fun (v23 : Int32) (h22 : Mem) =>
       if 0 ≤ v23 then
        if mKd h22 a0 = 3 then (fX3_keep a0 v23 h22).bind (fun x => (fun (_u : Unit) (h24 : Mem) =>
         if mKd h24 a0 = 3 then (fX3_at a0 v23 h24).bind (fun x => (fun (v26 : Int64) (h25 : Mem) =>
          if (lg_cmp v26 0) = 0 then
           some ((), h25)
          else
           if mKd h25 a0 = 3 then (fX3_goBehind a0 v23 h25).bind (fun x => (fun (_u : Unit) (h27 : Mem) =>
            if mKd h27 a0 = 3 then (fX3_isRowBeyond a0 h27).bind (fun x => (fun (v29 : Int32) (h28 : Mem) =>
             if v29 = 0 then
              nm (v15 + 1 : Int32) fun v30 =>
              k17 (v30, h28)
             else
              some ((), h28)) x.1 x.2) else none) x.1 x.2) else none) x.1 x.2) else none) x.1 x.2) else none
       else
        some ((), h22)) x.1 x.2) else none) (fun k20 =>
      if v15 = 0 then
       k20 0
      else
       k20 1)) FU (0, h5)
  else
   (gR 3 h5 a0 2).bind fun v10 =>
   if mKd h5 a1 = 2 then (fX2_get a1 v4 h5).bind (fun x => (fun (v12 : Int32) (h11 : Mem) =>
    (yJ h11 v10 v4 v12.toInt64).bind fun h13 =>
    nm (v4 + 1 : Int32) fun v14 =>
    k6 (v14, h13)) x.1 x.2) else none) FU (0, h3)
def fX9_partsNow (a0 : Nat) (h0 : Mem) : Option (Nat × Mem) :=
 (gR 9 h0 a0 6).bind fun v1 =>
 (gR 9 h0 a0 0).bind fun v2 =>
 (gR 6 h0 v2 0).bind fun v3 =>
 (gR 1 h0 v3 0).bind fun v4 =>
 if mKd h0 v1 = 3 then (fX3_look v1 v4 h0).bind (fun x => (fun (_u : Unit) (h5 : Mem) =>
  (gR 9 h5 a0 6).bind fun v6 =>
  some (v6, h5)) x.1 x.2) else none
def fX3_above (a0 : Nat) (a1 : Int32) (h0 : Mem) : Option (Int64 × Mem) :=
 if a1 < 0 then
  some ((0 : Int64), h0)
 else
  (gI 3 h0 a0 0).bind fun v1 =>
  if v1 ≤ a1 then
   some ((0 : Int64), h0)
  else
   if 8 ≤ a1 then
    some ((0 : Int64), h0)
   else
    (gR 3 h0 a0 4).bind fun v2 =>
    (xJ h0 v2 a1).bind fun v3 =>
    some ((v3 : Int64), h0)
def fX3_below (a0 : Nat) (a1 : Int32) (h0 : Mem) : Option (Int64 × Mem) :=
 if a1 < 0 then
  some ((0 : Int64), h0)
 else
  (gI 3 h0 a0 0).bind fun v1 =>
  if v1 ≤ a1 then
   some ((0 : Int64), h0)
  else
   if 8 ≤ a1 then
    some ((0 : Int64), h0)
   else
    (gR 3 h0 a0 5).bind fun v2 =>
    (xJ h0 v2 a1).bind fun v3 =>
    some ((v3 : Int64), h0)
def fX9_convergentAnswers (a0 : Nat) (h0 : Mem) : Option (Int32 × Mem) :=
 if mKd h0 a0 = 9 then (fX9_partsNow a0 h0).bind (fun x => if x.1 = 0 then (fun (h3 : Mem) =>
  none) x.2 else (fun (v2 : Nat) (h1 : Mem) =>
  lpF (fun k7 ((v4, v5, h6) : Int32 × Int32 × Mem) =>
   (gI 3 h6 v2 0).bind fun v9 =>
   if v9 ≤ v5 then
    some ((v4 : Int32), h6)
   else
    (gR 9 h6 a0 0).bind fun v10 =>
    (gR 6 h6 v10 0).bind fun v11 =>
    if mKd h6 v2 = 3 then (fX3_above v2 v5 h6).bind (fun x => (fun (v13 : Int64) (h12 : Mem) =>
     if mKd h12 v2 = 3 then (fX3_below v2 v5 h12).bind (fun x => (fun (v15 : Int64) (h14 : Mem) =>
      if mKd h14 v11 = 1 then (fX1_isAnswer v11 v13 v15 h14).bind (fun x => (fun (v17 : Int32) (h16 : Mem) =>
       if v17 = 0 then
        nm (v5 + 1 : Int32) fun v20 =>
        k7 (v4, v20, h16)
       else
        nm (v4 + 1 : Int32) fun v18 =>
        nm (v5 + 1 : Int32) fun v19 =>
        k7 (v18, v19, h16)) x.1 x.2) else none) x.1 x.2) else none) x.1 x.2) else none) FU (0, 0, h1)) x.1 x.2) else none
def fX9_told (a0 : Nat) (a1 : Int32) (h0 : Mem) : Option (Int32 × Mem) :=
 if a1 = 0 then
  (gR 9 h0 a0 0).bind fun v2 =>
  (gR 6 h0 v2 0).bind fun v3 =>
  (gR 1 h0 v3 0).bind fun v4 =>
  (gI 2 h0 v4 0).bind fun v5 =>
  some ((v5 : Int32), h0)
 else if a1 = 1 then
  (gR 9 h0 a0 0).bind fun v7 =>
  (gR 6 h0 v7 0).bind fun v8 =>
  (gI 1 h0 v8 1).bind fun v9 =>
  some ((v9 + 10000 : Int32), h0)
 else if a1 = 2 then
  (gR 9 h0 a0 0).bind fun v11 =>
  (gR 6 h0 v11 0).bind fun v12 =>
  (gI 1 h0 v12 2).bind fun v13 =>
  some ((v13 : Int32), h0)
 else if a1 = 3 then
  if mKd h0 a0 = 9 then (fX9_answersNow a0 h0).bind (fun x => if x.1 = 0 then (fun (h17 : Mem) =>
   none) x.2 else (fun (v16 : Nat) (h15 : Mem) =>
   (gI 0 h15 v16 0).bind fun v18 =>
   some ((v18 : Int32), h15)) x.1 x.2) else none
 else if a1 = 4 then
  if mKd h0 a0 = 9 then (fX9_unitsNow a0 h0).bind (fun x => if x.1 = 0 then (fun (h22 : Mem) =>
   none) x.2 else (fun (v21 : Nat) (h20 : Mem) =>
   (gI 8 h20 v21 0).bind fun v23 =>
   some ((v23 : Int32), h20)) x.1 x.2) else none
 else if a1 = 5 then
  if mKd h0 a0 = 9 then (fX9_answersInFamilies a0 h0).bind (fun x => if x.1 = 0 then (fun (h27 : Mem) =>
   none) x.2 else (fun (v26 : Nat) (h25 : Mem) =>
   (gI 0 h25 v26 1).bind fun v28 =>
   some ((v28 : Int32), h25)) x.1 x.2) else none
 else if a1 = 6 then
  if mKd h0 a0 = 9 then (fX9_partsNow a0 h0).bind (fun x => if x.1 = 0 then (fun (h32 : Mem) =>
   none) x.2 else (fun (v31 : Nat) (h30 : Mem) =>
   (gI 3 h30 v31 0).bind fun v33 =>
   some ((v33 : Int32), h30)) x.1 x.2) else none
 else if a1 = 7 then
  if mKd h0 a0 = 9 then (fX9_convergentAnswers a0 h0).bind (fun x => (fun (v36 : Int32) (h35 : Mem) =>
   some ((v36 : Int32), h35)) x.1 x.2) else none
 else 
  some (((-1) : Int32), h0)
def fX9_value (a0 : Nat) (a1 : Int32) (a2 : Int32) (h0 : Mem) : Option (Int64 × Mem) :=
 (fX9_between a1 (-999) 999 h0).bind (fun x => (fun (v2 : Int32) (h1 : Mem) =>
  if v2 = 0 then
   some (((-9223372036854775808) : Int64), h1)
  else
   (fX9_between a2 (-999) 999 h1).bind (fun x => (fun (v4 : Int32) (h3 : Mem) =>
    if v4 = 0 then
     some (((-9223372036854775808) : Int64), h3)
    else
     (gR 9 h3 a0 0).bind fun v5 =>
     (gR 6 h3 v5 0).bind fun v6 =>
     (gR 1 h3 v6 0).bind fun v7 =>
     if mKd h3 v7 = 2 then (fX2_at v7 a1.toInt64 a2.toInt64 h3).bind (fun x => (fun (v9 : Int64) (h8 : Mem) =>
      some ((v9 : Int64), h8)) x.1 x.2) else none) x.1 x.2)) x.1 x.2)
def fX0_cellOfAnswer (a0 : Nat) (a1 : Int32) (h0 : Mem) : Option (Int32 × Mem) :=
 lpF (fun k3 ((v1, v2) : Int32 × Int32) =>
  (gR 0 h0 a0 5).bind fun v5 =>
  (aLn h0 v5).bind fun v6 =>
  if v6 ≤ v2 then
   some (((-1) : Int32), h0)
  else
   (gR 0 h0 a0 5).bind fun v7 =>
   (xI 11 h0 v7 v2).bind fun v8 =>
   if v8 = (-1) then
    nm (v2 + 1 : Int32) fun v9 =>
    k3 (v1, v9)
   else
    if v1 = a1 then
     some ((v2 : Int32), h0)
    else
     nm (v1 + 1 : Int32) fun v10 =>
     nm (v2 + 1 : Int32) fun v11 =>
     k3 (v10, v11)) FU (0, 0)
def fX9_answer (a0 : Nat) (a1 : Int32) (a2 : Int32) (h0 : Mem) : Option (Int32 × Mem) :=
 if a1 < 0 then
  some (((-1) : Int32), h0)
 else
  (fX9_between a2 0 2 h0).bind (fun x => (fun (v2 : Int32) (h1 : Mem) =>
   if v2 = 0 then
    some (((-1) : Int32), h1)
   else
    jn (fun ((v3, h4) : Nat × Mem) =>
     if mKd h4 v3 = 0 then (fX0_cellOfAnswer v3 a1 h4).bind (fun x => (fun (v8 : Int32) (h7 : Mem) =>
      if 0 ≤ v8 then
       if a2 = 0 then
        (fX0_xOf v8 h7).bind (fun x => (fun (v10 : Int32) (h9 : Mem) =>
         some ((v10 + 100 : Int32), h9)) x.1 x.2)
       else
        if a2 = 1 then
         (fX0_yOf v8 h7).bind (fun x => (fun (v12 : Int32) (h11 : Mem) =>
          some ((v12 + 100 : Int32), h11)) x.1 x.2)
        else
         if mKd h7 v3 = 0 then (fX0_labelAt v3 v8 h7).bind (fun x => (fun (v14 : Int32) (h13 : Mem) =>
          some ((v14 : Int32), h13)) x.1 x.2) else none
      else
       some (((-5) : Int32), h7)) x.1 x.2) else none) (fun k5 =>
     if a2 = 2 then
      if mKd h1 a0 = 9 then (fX9_answersInFamilies a0 h1).bind (fun x => if x.1 = 0 then (fun (h20 : Mem) =>
       none) x.2 else (fun (v19 : Nat) (h18 : Mem) =>
       k5 (v19, h18)) x.1 x.2) else none
     else
      if mKd h1 a0 = 9 then (fX9_answersNow a0 h1).bind (fun x => if x.1 = 0 then (fun (h23 : Mem) =>
       none) x.2 else (fun (v22 : Nat) (h21 : Mem) =>
       k5 (v22, h21)) x.1 x.2) else none)) x.1 x.2)
def fJ9_floorMod_f86c9 (a0 : Int64) (a2 : Int64) (h0 : Mem) : Option (Int64 × Mem) :=
 if a2 = 0 then none else
 nm (a0 - a0 / a2 * a2 : Int64) fun v1 =>
 if 0 ≤ (lg_cmp (a0 ^^^ a2) 0) then
  some ((v1 : Int64), h0)
 else
  if (lg_cmp v1 0) = 0 then
   some ((v1 : Int64), h0)
  else
   some ((v1 + a2 : Int64), h0)
def fJ9_floorMod_1978a (a0 : Int64) (a2 : Int32) (h0 : Mem) : Option (Int32 × Mem) :=
 (fJ9_floorMod_f86c9 a0 a2.toInt64 h0).bind (fun x => (fun (v2 : Int64) (h1 : Mem) =>
  some ((v2.toInt32 : Int32), h1)) x.1 x.2)
def fX2_remaindersBy (a0 : Nat) (a1 : Int32) (h0 : Mem) : Option (Int32 × Mem) :=
 if 2 ≤ a1 then
  lpF (fun k4 ((v1, v2, h3) : Int32 × Int32 × Mem) =>
   if a1 ≤ v2 then
    some ((v1 : Int32), h3)
   else
    lpF (fun k9 ((v6, v7, h8) : Int32 × Int32 × Mem) =>
     if a1 ≤ v7 then
      nm (v2 + 1 : Int32) fun v17 =>
      k4 (v6, v17, h8)
     else
      if mKd h8 a0 = 2 then (fX2_at a0 v2.toInt64 v7.toInt64 h8).bind (fun x => (fun (v12 : Int64) (h11 : Mem) =>
       (fJ9_floorMod_1978a v12 a1 h11).bind (fun x => (fun (v14 : Int32) (h13 : Mem) =>
        nm (v6 ||| (1 <<< (v14 &&& 31)) : Int32) fun v15 =>
        nm (v7 + 1 : Int32) fun v16 =>
        k9 (v15, v16, h13)) x.1 x.2)) x.1 x.2) else none) FU (v1, 0, h3)) FU (0, 0, h0)
 else
  some ((0 : Int32), h0)
def fJ6_bitCount_0f7a4 (a0 : Int32) (h0 : Mem) : Option (Int32 × Mem) :=
 nm (a0 - (((a0.toUInt32 >>> ((1 : Int32).toUInt32 &&& Int32.toUInt32 31)).toInt32) &&& 1431655765) : Int32) fun v1 =>
 nm ((v1 &&& 858993459) + (((v1.toUInt32 >>> ((2 : Int32).toUInt32 &&& Int32.toUInt32 31)).toInt32) &&& 858993459) : Int32) fun v2 =>
 nm ((v2 + ((v2.toUInt32 >>> ((4 : Int32).toUInt32 &&& Int32.toUInt32 31)).toInt32)) &&& 252645135 : Int32) fun v3 =>
 nm (v3 + ((v3.toUInt32 >>> ((8 : Int32).toUInt32 &&& Int32.toUInt32 31)).toInt32) : Int32) fun v4 =>
 nm (v4 + ((v4.toUInt32 >>> ((16 : Int32).toUInt32 &&& Int32.toUInt32 31)).toInt32) : Int32) fun v5 =>
 some ((v5 &&& 63 : Int32), h0)
def fJ9_floorMod_7cf53 (a0 : Int32) (a1 : Int32) (h0 : Mem) : Option (Int32 × Mem) :=
 if a1 = 0 then none else
 nm (a0 - a0 / a1 * a1 : Int32) fun v1 =>
 if 0 ≤ (a0 ^^^ a1) then
  some ((v1 : Int32), h0)
 else
  if v1 = 0 then
   some ((v1 : Int32), h0)
  else
   some ((v1 + a1 : Int32), h0)
def fX1_isBarredBy (a0 : Nat) (a1 : Int32) (h0 : Mem) : Option (Int32 × Mem) :=
 if 2 ≤ a1 then
  (gR 1 h0 a0 0).bind fun v1 =>
  if mKd h0 v1 = 2 then (fX2_remaindersBy v1 a1 h0).bind (fun x => (fun (v3 : Int32) (h2 : Mem) =>
   (gI 1 h2 a0 1).bind fun v4 =>
   (fJ9_floorMod_7cf53 v4 a1 h2).bind (fun x => (fun (v6 : Int32) (h5 : Mem) =>
    if ((v3 >>> (v6 &&& 31)) &&& 1) = 0 then
     some ((1 : Int32), h5)
    else
     some ((0 : Int32), h5)) x.1 x.2)) x.1 x.2) else none
 else
  some ((0 : Int32), h0)
def fX9_prime (a0 : Nat) (a1 : Int32) (a2 : Int32) (h0 : Mem) : Option (Int32 × Mem) :=
 if a1 < 0 then
  some (((-1) : Int32), h0)
 else
  if a1 < 6 then
   (xT tabP 6 a1).bind fun v1 =>
   if a2 = 0 then
    some ((v1 : Int32), h0)
   else if a2 = 1 then
    (gR 9 h0 a0 0).bind fun v4 =>
    (gR 6 h0 v4 0).bind fun v5 =>
    (gR 1 h0 v5 0).bind fun v6 =>
    if mKd h0 v6 = 2 then (fX2_remaindersBy v6 v1 h0).bind (fun x => (fun (v8 : Int32) (h7 : Mem) =>
     (fJ6_bitCount_0f7a4 v8 h7).bind (fun x => (fun (v10 : Int32) (h9 : Mem) =>
      some ((v10 : Int32), h9)) x.1 x.2)) x.1 x.2) else none
   else if a2 = 2 then
    (gR 9 h0 a0 0).bind fun v12 =>
    (gR 6 h0 v12 0).bind fun v13 =>
    if mKd h0 v13 = 1 then (fX1_isBarredBy v13 v1 h0).bind (fun x => (fun (v15 : Int32) (h14 : Mem) =>
     if v15 = 0 then
      some ((0 : Int32), h14)
     else
      some ((1 : Int32), h14)) x.1 x.2) else none
   else 
    some (((-1) : Int32), h0)
  else
   some (((-1) : Int32), h0)
def fX1_firstBar (a0 : Nat) (h0 : Mem) : Option (Int32 × Mem) :=
 lpF (fun k3 ((v1, h2) : Int32 × Mem) =>
  if 6 ≤ v1 then
   some (((-5) : Int32), h2)
  else
   (xT tabP 6 v1).bind fun v5 =>
   if mKd h2 a0 = 1 then (fX1_isBarredBy a0 v5 h2).bind (fun x => (fun (v7 : Int32) (h6 : Mem) =>
    if v7 = 0 then
     nm (v1 + 1 : Int32) fun v9 =>
     k3 (v9, h6)
    else
     (xT tabP 6 v1).bind fun v8 =>
     some ((v8 : Int32), h6)) x.1 x.2) else none) FU (0, h0)
def fX9_reason (a0 : Nat) (a1 : Int32) (h0 : Mem) : Option (Int32 × Mem) :=
 if 0 ≤ a1 then
  if 2 < a1 then
   some (((-5) : Int32), h0)
  else
   if mKd h0 a0 = 9 then (fX9_answersNow a0 h0).bind (fun x => if x.1 = 0 then (fun (h3 : Mem) =>
    none) x.2 else (fun (v2 : Nat) (h1 : Mem) =>
    (gI 0 h1 v2 0).bind fun v4 =>
    if v4 ≤ 0 then
     if a1 = 0 then
      (gR 9 h1 a0 0).bind fun v5 =>
      (gR 6 h1 v5 0).bind fun v6 =>
      (gI 1 h1 v6 2).bind fun v7 =>
      some ((v7 : Int32), h1)
     else
      (gR 9 h1 a0 0).bind fun v8 =>
      (gR 6 h1 v8 0).bind fun v9 =>
      if mKd h1 v9 = 1 then (fX1_firstBar v9 h1).bind (fun x => (fun (v11 : Int32) (h10 : Mem) =>
       if a1 = 1 then
        some ((v11 : Int32), h10)
       else
        if v11 = (-5) then
         some ((v11 : Int32), h10)
        else
         (gR 9 h10 a0 0).bind fun v12 =>
         (gR 6 h10 v12 0).bind fun v13 =>
         (gR 1 h10 v13 0).bind fun v14 =>
         if mKd h10 v14 = 2 then (fX2_remaindersBy v14 v11 h10).bind (fun x => (fun (v16 : Int32) (h15 : Mem) =>
          (fJ6_bitCount_0f7a4 v16 h15).bind (fun x => (fun (v18 : Int32) (h17 : Mem) =>
           some ((v18 : Int32), h17)) x.1 x.2)) x.1 x.2) else none) x.1 x.2) else none
    else
     some (((-5) : Int32), h1)) x.1 x.2) else none
 else
  some (((-1) : Int32), h0)
def fX9_unit (a0 : Nat) (a1 : Int32) (a2 : Int32) (h0 : Mem) : Option (Int32 × Mem) :=
 if a1 < 0 then
  some (((-1) : Int32), h0)
 else
  (fX9_between a2 0 3 h0).bind (fun x => (fun (v2 : Int32) (h1 : Mem) =>
   if v2 = 0 then
    some (((-1) : Int32), h1)
   else
    if mKd h1 a0 = 9 then (fX9_unitsNow a0 h1).bind (fun x => if x.1 = 0 then (fun (h5 : Mem) =>
     none) x.2 else (fun (v4 : Nat) (h3 : Mem) =>
     (gI 8 h3 v4 0).bind fun v6 =>
     if v6 ≤ a1 then
      some (((-5) : Int32), h3)
     else
      if mKd h3 v4 = 8 then (fX8_get v4 a1 a2 h3).bind (fun x => (fun (v8 : Int32) (h7 : Mem) =>
       some ((v8 + 10 : Int32), h7)) x.1 x.2) else none) x.1 x.2) else none) x.1 x.2)
def fX0_sizeOfFamily (a0 : Nat) (a1 : Int32) (h0 : Mem) : Option (Int32 × Mem) :=
 lpF (fun k3 ((v1, v2) : Int32 × Int32) =>
  (gR 0 h0 a0 5).bind fun v5 =>
  (aLn h0 v5).bind fun v6 =>
  if v6 ≤ v2 then
   some ((v1 : Int32), h0)
  else
   (gR 0 h0 a0 5).bind fun v7 =>
   (xI 11 h0 v7 v2).bind fun v8 =>
   if v8 = a1 then
    nm (v1 + 1 : Int32) fun v9 =>
    nm (v2 + 1 : Int32) fun v10 =>
    k3 (v9, v10)
   else
    nm (v2 + 1 : Int32) fun v11 =>
    k3 (v1, v11)) FU (0, 0)
def fX9_family (a0 : Nat) (a1 : Int32) (h0 : Mem) : Option (Int32 × Mem) :=
 if 0 ≤ a1 then
  if mKd h0 a0 = 9 then (fX9_answersInFamilies a0 h0).bind (fun x => if x.1 = 0 then (fun (h3 : Mem) =>
   none) x.2 else (fun (v2 : Nat) (h1 : Mem) =>
   (gI 0 h1 v2 1).bind fun v4 =>
   if v4 ≤ a1 then
    some (((-5) : Int32), h1)
   else
    if mKd h1 v2 = 0 then (fX0_sizeOfFamily v2 a1 h1).bind (fun x => (fun (v6 : Int32) (h5 : Mem) =>
     some ((v6 : Int32), h5)) x.1 x.2) else none) x.1 x.2) else none
 else
  some (((-1) : Int32), h0)
def fX3_get (a0 : Nat) (a1 : Int32) (h0 : Mem) : Option (Int32 × Mem) :=
 if a1 < 0 then
  some ((0 : Int32), h0)
 else
  (gI 3 h0 a0 0).bind fun v1 =>
  if v1 ≤ a1 then
   some ((0 : Int32), h0)
  else
   if 8 ≤ a1 then
    some ((0 : Int32), h0)
   else
    (gR 3 h0 a0 3).bind fun v2 =>
    (xI 11 h0 v2 a1).bind fun v3 =>
    some ((v3 : Int32), h0)
def fX9_part (a0 : Nat) (a1 : Int32) (h0 : Mem) : Option (Int32 × Mem) :=
 if 0 ≤ a1 then
  if mKd h0 a0 = 9 then (fX9_partsNow a0 h0).bind (fun x => if x.1 = 0 then (fun (h3 : Mem) =>
   none) x.2 else (fun (v2 : Nat) (h1 : Mem) =>
   (gI 3 h1 v2 0).bind fun v4 =>
   if v4 ≤ a1 then
    some (((-5) : Int32), h1)
   else
    if mKd h1 v2 = 3 then (fX3_get v2 a1 h1).bind (fun x => (fun (v6 : Int32) (h5 : Mem) =>
     some ((v6 : Int32), h5)) x.1 x.2) else none) x.1 x.2) else none
 else
  some (((-1) : Int32), h0)
def fX9_convergent (a0 : Nat) (a1 : Int32) (a2 : Int32) (h0 : Mem) : Option (Int64 × Mem) :=
 if a1 < 0 then
  some (((-9223372036854775808) : Int64), h0)
 else
  (fX9_between a2 0 1 h0).bind (fun x => (fun (v2 : Int32) (h1 : Mem) =>
   if v2 = 0 then
    some (((-9223372036854775808) : Int64), h1)
   else
    if mKd h1 a0 = 9 then (fX9_partsNow a0 h1).bind (fun x => if x.1 = 0 then (fun (h5 : Mem) =>
     none) x.2 else (fun (v4 : Nat) (h3 : Mem) =>
     (gI 3 h3 v4 0).bind fun v6 =>
     if a1 < v6 then
      if a2 = 0 then
       if mKd h3 v4 = 3 then (fX3_above v4 a1 h3).bind (fun x => (fun (v8 : Int64) (h7 : Mem) =>
        some ((v8 : Int64), h7)) x.1 x.2) else none
      else
       if mKd h3 v4 = 3 then (fX3_below v4 a1 h3).bind (fun x => (fun (v10 : Int64) (h9 : Mem) =>
        some ((v10 : Int64), h9)) x.1 x.2) else none
     else
      some (((-9223372036854775808) : Int64), h3)) x.1 x.2) else none) x.1 x.2)
def fX9_see (a0 : Nat) (a1 : Int32) (a2 : Int32) (a3 : Int32) (h0 : Mem) : Option (Int32 × Mem) :=
 if a1 = (-100) then
  (gR 9 h0 a0 0).bind fun v1 =>
  (gR 6 h0 v1 1).bind fun v2 =>
  if mKd h0 v2 = 4 then (fX4_empty v2 h0).bind (fun x => (fun (v4 : Int32) (h3 : Mem) =>
   some ((v4 : Int32), h3)) x.1 x.2) else none
 else
  (fX9_between a1 (-9) 9 h0).bind (fun x => (fun (v6 : Int32) (h5 : Mem) =>
   if v6 = 0 then
    some (((-2) : Int32), h5)
   else
    (fX9_between a2 (-9) 9 h5).bind (fun x => (fun (v8 : Int32) (h7 : Mem) =>
     if v8 = 0 then
      some (((-2) : Int32), h7)
     else
      (fX9_between a3 (-9999) 9999 h7).bind (fun x => (fun (v10 : Int32) (h9 : Mem) =>
       if v10 = 0 then
        some (((-2) : Int32), h9)
       else
        (gR 9 h9 a0 0).bind fun v11 =>
        (gR 6 h9 v11 1).bind fun v12 =>
        if mKd h9 v12 = 4 then (fX4_add v12 a1 a2 a3 h9).bind (fun x => (fun (v14 : Int32) (h13 : Mem) =>
         some ((v14 : Int32), h13)) x.1 x.2) else none) x.1 x.2)) x.1 x.2)) x.1 x.2)
def fX9_isAsSeen (a0 : Nat) (a1 : Nat) (h0 : Mem) : Option (Int32 × Mem) :=
 lpF (fun k3 ((v1, h2) : Int32 × Mem) =>
  (gR 9 h2 a0 0).bind fun v5 =>
  (gR 6 h2 v5 1).bind fun v6 =>
  (gI 4 h2 v6 0).bind fun v7 =>
  if v7 ≤ v1 then
   some ((1 : Int32), h2)
  else
   (gR 9 h2 a0 0).bind fun v8 =>
   (gR 6 h2 v8 1).bind fun v9 =>
   if mKd h2 v9 = 4 then (fX4_first v9 v1 h2).bind (fun x => (fun (v11 : Int32) (h10 : Mem) =>
    (gR 9 h10 a0 0).bind fun v12 =>
    (gR 6 h10 v12 1).bind fun v13 =>
    if mKd h10 v13 = 4 then (fX4_second v13 v1 h10).bind (fun x => (fun (v15 : Int32) (h14 : Mem) =>
     if mKd h14 a1 = 2 then (fX2_at a1 v11.toInt64 v15.toInt64 h14).bind (fun x => (fun (v17 : Int64) (h16 : Mem) =>
      (gR 9 h16 a0 0).bind fun v18 =>
      (gR 6 h16 v18 1).bind fun v19 =>
      if mKd h16 v19 = 4 then (fX4_third v19 v1 h16).bind (fun x => (fun (v21 : Int32) (h20 : Mem) =>
       if (lg_cmp v17 v21.toInt64) = 0 then
        nm (v1 + 1 : Int32) fun v22 =>
        k3 (v22, h20)
       else
        some ((0 : Int32), h20)) x.1 x.2) else none) x.1 x.2) else none) x.1 x.2) else none) x.1 x.2) else none) FU (0, h0)
def fX9_fits (a0 : Nat) (a1 : Int32) (a2 : Int32) (h0 : Mem) : Option (Int32 × Mem) :=
 (gR 9 h0 a0 0).bind fun v1 =>
 (gR 6 h0 v1 0).bind fun v2 =>
 (gR 1 h0 v2 0).bind fun v3 =>
 if mKd h0 v3 = 2 then (fX2_has v3 a1 h0).bind (fun x => (fun (v5 : Int32) (h4 : Mem) =>
  if v5 = 0 then
   some (((-1) : Int32), h4)
  else
   (fX9_between a2 0 1 h4).bind (fun x => (fun (v7 : Int32) (h6 : Mem) =>
    if v7 = 0 then
     some (((-1) : Int32), h6)
    else
     (gR 9 h6 a0 3).bind fun v8 =>
     (gR 1 h6 v8 0).bind fun v9 =>
     (gR 9 h6 a0 0).bind fun v10 =>
     (gR 6 h6 v10 0).bind fun v11 =>
     (gR 1 h6 v11 0).bind fun v12 =>
     if mKd h6 v9 = 2 then (fX2_copy v9 v12 h6).bind (fun x => (fun (_u : Unit) (h13 : Mem) =>
      lpF (fun k18 ((v14, v15, v16, h17) : Int32 × Int32 × Int32 × Mem) =>
       if v16 < (-99) then
        if a2 = 0 then
         some ((v14 : Int32), h17)
        else
         some ((v15 : Int32), h17)
       else
        if mKd h17 v9 = 2 then (fX2_set v9 a1 v16 h17).bind (fun x => (fun (_u : Unit) (h20 : Mem) =>
         if mKd h20 a0 = 9 then (fX9_isAsSeen a0 v9 h20).bind (fun x => (fun (v22 : Int32) (h21 : Mem) =>
          if v22 = 0 then
           nm (v16 + (-1) : Int32) fun v26 =>
           k18 (v14, v15, v26, h21)
          else
           nm (v14 + 1 : Int32) fun v23 =>
           nm (v16 + 100 : Int32) fun v24 =>
           nm (v16 + (-1) : Int32) fun v25 =>
           k18 (v23, v24, v25, h21)) x.1 x.2) else none) x.1 x.2) else none) FU (0, 0, 99, h13)) x.1 x.2) else none) x.1 x.2)) x.1 x.2) else none
def fX1_valuesAboveM (a0 : Nat) (h0 : Mem) : Option (Int64 × Mem) :=
 (gI 1 h0 a0 2).bind fun v1 =>
 nm (-v1 : Int32) fun v2 =>
 lpF (fun k6 ((v3, v4, h5) : Int64 × Int32 × Mem) =>
  (gI 1 h5 a0 2).bind fun v8 =>
  if v8 < v4 then
   some ((v3 : Int64), h5)
  else
   (gI 1 h5 a0 2).bind fun v9 =>
   nm (-v9 : Int32) fun v10 =>
   lpF (fun k14 ((v11, v12, h13) : Int64 × Int32 × Mem) =>
    (gI 1 h13 a0 2).bind fun v16 =>
    if v16 < v12 then
     nm (v4 + 1 : Int32) fun v25 =>
     k6 (v11, v25, h13)
    else
     (gR 1 h13 a0 0).bind fun v17 =>
     if mKd h13 v17 = 2 then (fX2_at v17 v4.toInt64 v12.toInt64 h13).bind (fun x => (fun (v19 : Int64) (h18 : Mem) =>
      (gI 1 h18 a0 1).bind fun v20 =>
      if (lg_cmp v19 v20.toInt64) ≤ 0 then
       nm (v12 + 1 : Int32) fun v23 =>
       k14 (v11, v23, h18)
      else
       nm (v11 + 1 : Int64) fun v21 =>
       nm (v12 + 1 : Int32) fun v22 =>
       k14 (v21, v22, h18)) x.1 x.2) else none) FU (v3, v10, h5)) FU (0, v2, h0)
def fX1_twos (a0 : Nat) (h0 : Mem) : Option (Int64 × Mem) :=
 (gI 1 h0 a0 2).bind fun v1 =>
 nm ((2 * v1.toInt64) + 1 : Int64) fun v2 =>
 some ((v2 * v2 : Int64), h0)
def fJ9_abs_067f4 (a0 : Int64) (h0 : Mem) : Option (Int64 × Mem) :=
 if 0 ≤ (lg_cmp a0 0) then
  some ((a0 : Int64), h0)
 else
  some ((-a0 : Int64), h0)
def fX9_commonDivisor (a0 : Int64) (a2 : Int64) (h0 : Mem) : Option (Int64 × Mem) :=
 lpF (fun k4 ((v1, v2, v3) : Int64 × Int64 × Int32) =>
  if 128 ≤ v3 then
   some ((v1 : Int64), h0)
  else
   if (lg_cmp v2 0) = 0 then
    some ((v1 : Int64), h0)
   else
    if v2 = 0 then none else
    nm (v1 - v1 / v2 * v2 : Int64) fun v6 =>
    nm (v3 + 1 : Int32) fun v7 =>
    k4 (v2, v6, v7)) FU (a0, a2, 0)
def fX9_lowest (a0 : Int64) (a2 : Int64) (a4 : Int32) (h0 : Mem) : Option (Int64 × Mem) :=
 (fJ9_abs_067f4 a0 h0).bind (fun x => (fun (v2 : Int64) (h1 : Mem) =>
  (fX9_commonDivisor v2 a2 h1).bind (fun x => (fun (v4 : Int64) (h3 : Mem) =>
   if 0 ≤ (lg_cmp v4 1) then
    if a4 = 0 then
     if v4 = 0 then none else
     some ((a0 / v4 : Int64), h3)
    else
     if v4 = 0 then none else
     some ((a2 / v4 : Int64), h3)
   else
    some (((-9223372036854775808) : Int64), h3)) x.1 x.2)) x.1 x.2)
def fX9_odds (a0 : Nat) (a1 : Int32) (h0 : Mem) : Option (Int64 × Mem) :=
 (fX9_between a1 0 1 h0).bind (fun x => (fun (v2 : Int32) (h1 : Mem) =>
  if v2 = 0 then
   some (((-9223372036854775808) : Int64), h1)
  else
   (gR 9 h1 a0 0).bind fun v3 =>
   (gR 6 h1 v3 0).bind fun v4 =>
   if mKd h1 v4 = 1 then (fX1_valuesAboveM v4 h1).bind (fun x => (fun (v6 : Int64) (h5 : Mem) =>
    (gR 9 h5 a0 0).bind fun v7 =>
    (gR 6 h5 v7 0).bind fun v8 =>
    if mKd h5 v8 = 1 then (fX1_twos v8 h5).bind (fun x => (fun (v10 : Int64) (h9 : Mem) =>
     (fX9_lowest v6 v10 a1 h9).bind (fun x => (fun (v12 : Int64) (h11 : Mem) =>
      some ((v12 : Int64), h11)) x.1 x.2)) x.1 x.2) else none) x.1 x.2) else none) x.1 x.2)
def fX1_valuesTogether (a0 : Nat) (h0 : Mem) : Option (Int64 × Mem) :=
 (gI 1 h0 a0 2).bind fun v1 =>
 nm (-v1 : Int32) fun v2 =>
 lpF (fun k6 ((v3, v4, h5) : Int64 × Int32 × Mem) =>
  (gI 1 h5 a0 2).bind fun v8 =>
  if v8 < v4 then
   some ((v3 : Int64), h5)
  else
   (gI 1 h5 a0 2).bind fun v9 =>
   nm (-v9 : Int32) fun v10 =>
   lpF (fun k14 ((v11, v12, h13) : Int64 × Int32 × Mem) =>
    (gI 1 h13 a0 2).bind fun v16 =>
    if v16 < v12 then
     nm (v4 + 1 : Int32) fun v22 =>
     k6 (v11, v22, h13)
    else
     (gR 1 h13 a0 0).bind fun v17 =>
     if mKd h13 v17 = 2 then (fX2_at v17 v4.toInt64 v12.toInt64 h13).bind (fun x => (fun (v19 : Int64) (h18 : Mem) =>
      nm (v11 + v19 : Int64) fun v20 =>
      nm (v12 + 1 : Int32) fun v21 =>
      k14 (v20, v21, h18)) x.1 x.2) else none) FU (v3, v10, h5)) FU (0, v2, h0)
def fX9_mean (a0 : Nat) (a1 : Int32) (h0 : Mem) : Option (Int64 × Mem) :=
 (fX9_between a1 0 1 h0).bind (fun x => (fun (v2 : Int32) (h1 : Mem) =>
  if v2 = 0 then
   some (((-9223372036854775808) : Int64), h1)
  else
   (gR 9 h1 a0 0).bind fun v3 =>
   (gR 6 h1 v3 0).bind fun v4 =>
   if mKd h1 v4 = 1 then (fX1_valuesTogether v4 h1).bind (fun x => (fun (v6 : Int64) (h5 : Mem) =>
    (gR 9 h5 a0 0).bind fun v7 =>
    (gR 6 h5 v7 0).bind fun v8 =>
    if mKd h5 v8 = 1 then (fX1_twos v8 h5).bind (fun x => (fun (v10 : Int64) (h9 : Mem) =>
     (fX9_lowest v6 v10 a1 h9).bind (fun x => (fun (v12 : Int64) (h11 : Mem) =>
      some ((v12 : Int64), h11)) x.1 x.2)) x.1 x.2) else none) x.1 x.2) else none) x.1 x.2)
def fX9_event (a0 : Nat) (a1 : Int32) (a2 : Int32) (h0 : Mem) : Option (Int32 × Mem) :=
 if a1 = (-1) then
  (gR 9 h0 a0 0).bind fun v1 =>
  (gR 6 h0 v1 2).bind fun v2 =>
  if mKd h0 v2 = 4 then (fX4_empty v2 h0).bind (fun x => (fun (v4 : Int32) (h3 : Mem) =>
   some ((v4 : Int32), h3)) x.1 x.2) else none
 else
  (fX9_between a1 0 2 h0).bind (fun x => (fun (v6 : Int32) (h5 : Mem) =>
   if v6 = 0 then
    some (((-1) : Int32), h5)
   else
    jn (fun (h7 : Mem) =>
     jn (fun (h10 : Mem) =>
      jn (fun (h13 : Mem) =>
       (gR 9 h13 a0 0).bind fun v16 =>
       (gR 6 h13 v16 2).bind fun v17 =>
       if mKd h13 v17 = 4 then (fX4_add v17 a1 a2 0 h13).bind (fun x => (fun (v19 : Int32) (h18 : Mem) =>
        some ((v19 : Int32), h18)) x.1 x.2) else none) (fun k14 =>
       if a1 = 2 then
        (fX9_between a2 (-99) 99 h10).bind (fun x => (fun (v21 : Int32) (h20 : Mem) =>
         if v21 = 0 then
          some (((-2) : Int32), h20)
         else
          k14 h20) x.1 x.2)
       else
        k14 h10)) (fun k11 =>
      if a1 = 1 then
       (fX2_isMove a2 h7).bind (fun x => (fun (v25 : Int32) (h24 : Mem) =>
        if v25 = 0 then
         some (((-1) : Int32), h24)
        else
         k11 h24) x.1 x.2)
      else
       k11 h7)) (fun k8 =>
     if a1 = 0 then
      (gR 9 h5 a0 0).bind fun v28 =>
      (gR 6 h5 v28 0).bind fun v29 =>
      (gR 1 h5 v29 0).bind fun v30 =>
      if mKd h5 v30 = 2 then (fX2_has v30 a2 h5).bind (fun x => (fun (v32 : Int32) (h31 : Mem) =>
       if v32 = 0 then
        some (((-1) : Int32), h31)
       else
        k8 h31) x.1 x.2) else none
     else
      k8 h5)) x.1 x.2)
def fJ9_min_7cf53 (a0 : Int32) (a1 : Int32) (h0 : Mem) : Option (Int32 × Mem) :=
 if a1 < a0 then
  some ((a1 : Int32), h0)
 else
  some ((a0 : Int32), h0)
def fX2_raise (a0 : Nat) (a1 : Int32) (h0 : Mem) : Option (Unit × Mem) :=
 if mKd h0 a0 = 2 then (fX2_get a0 a1 h0).bind (fun x => (fun (v2 : Int32) (h1 : Mem) =>
  (fJ9_min_7cf53 99 (v2 + 1) h1).bind (fun x => (fun (v4 : Int32) (h3 : Mem) =>
   if mKd h3 a0 = 2 then (fX2_set a0 a1 v4 h3).bind (fun x => (fun (_u : Unit) (h5 : Mem) =>
    some ((), h5)) x.1 x.2) else none) x.1 x.2)) x.1 x.2) else none
def fX1_addToM (a0 : Nat) (a1 : Int32) (h0 : Mem) : Option (Unit × Mem) :=
 (gI 1 h0 a0 1).bind fun v1 =>
 (fX9_between (v1 + a1) (-9999) 9999 h0).bind (fun x => (fun (v3 : Int32) (h2 : Mem) =>
  if v3 = 0 then
   some ((), h2)
  else
   (gI 1 h2 a0 1).bind fun v4 =>
   (pI 1 h2 a0 1 (v4 + a1)).bind fun h5 =>
   some ((), h5)) x.1 x.2)
def fX9_tryEvents (a0 : Nat) (h0 : Mem) : Option (Unit × Mem) :=
 (gR 9 h0 a0 3).bind fun v1 =>
 (gR 9 h0 a0 0).bind fun v2 =>
 (gR 6 h0 v2 0).bind fun v3 =>
 if mKd h0 v1 = 1 then (fX1_copy v1 v3 h0).bind (fun x => (fun (_u : Unit) (h4 : Mem) =>
  lpF (fun k7 ((v5, h6) : Int32 × Mem) =>
   (gR 9 h6 a0 0).bind fun v9 =>
   (gR 6 h6 v9 2).bind fun v10 =>
   (gI 4 h6 v10 0).bind fun v11 =>
   if v11 ≤ v5 then
    some ((), h6)
   else
    (gR 9 h6 a0 0).bind fun v12 =>
    (gR 6 h6 v12 2).bind fun v13 =>
    if mKd h6 v13 = 4 then (fX4_second v13 v5 h6).bind (fun x => (fun (v15 : Int32) (h14 : Mem) =>
     (gR 9 h14 a0 0).bind fun v16 =>
     (gR 6 h14 v16 2).bind fun v17 =>
     if mKd h14 v17 = 4 then (fX4_first v17 v5 h14).bind (fun x => (fun (v19 : Int32) (h18 : Mem) =>
      if v19 = 0 then
       (gR 9 h18 a0 3).bind fun v21 =>
       (gR 1 h18 v21 0).bind fun v22 =>
       if mKd h18 v22 = 2 then (fX2_raise v22 v15 h18).bind (fun x => (fun (_u : Unit) (h23 : Mem) =>
        nm (v5 + 1 : Int32) fun v24 =>
        k7 (v24, h23)) x.1 x.2) else none
      else if v19 = 1 then
       (gR 9 h18 a0 3).bind fun v26 =>
       (gR 1 h18 v26 0).bind fun v27 =>
       if mKd h18 v27 = 2 then (fX2_moveBy v27 v15 h18).bind (fun x => (fun (v29 : Int32) (h28 : Mem) =>
        nm (v5 + 1 : Int32) fun v30 =>
        k7 (v30, h28)) x.1 x.2) else none
      else 
       (gR 9 h18 a0 3).bind fun v31 =>
       if mKd h18 v31 = 1 then (fX1_addToM v31 v15 h18).bind (fun x => (fun (_u : Unit) (h32 : Mem) =>
        nm (v5 + 1 : Int32) fun v33 =>
        k7 (v33, h32)) x.1 x.2) else none) x.1 x.2) else none) x.1 x.2) else none) FU (0, h4)) x.1 x.2) else none
def fX1_howManyAnswers (a0 : Nat) (h0 : Mem) : Option (Int32 × Mem) :=
 (gI 1 h0 a0 2).bind fun v1 =>
 nm (-v1 : Int32) fun v2 =>
 lpF (fun k6 ((v3, v4, h5) : Int32 × Int32 × Mem) =>
  (gI 1 h5 a0 2).bind fun v8 =>
  if v8 < v4 then
   some ((v3 : Int32), h5)
  else
   (gI 1 h5 a0 2).bind fun v9 =>
   nm (-v9 : Int32) fun v10 =>
   lpF (fun k14 ((v11, v12, h13) : Int32 × Int32 × Mem) =>
    (gI 1 h13 a0 2).bind fun v16 =>
    if v16 < v12 then
     nm (v4 + 1 : Int32) fun v25 =>
     k6 (v11, v25, h13)
    else
     (gR 1 h13 a0 0).bind fun v17 =>
     if mKd h13 v17 = 2 then (fX2_at v17 v4.toInt64 v12.toInt64 h13).bind (fun x => (fun (v19 : Int64) (h18 : Mem) =>
      (gI 1 h18 a0 1).bind fun v20 =>
      if (lg_cmp v19 v20.toInt64) = 0 then
       nm (v11 + 1 : Int32) fun v21 =>
       nm (v12 + 1 : Int32) fun v22 =>
       k14 (v21, v22, h18)
      else
       nm (v12 + 1 : Int32) fun v23 =>
       k14 (v11, v23, h18)) x.1 x.2) else none) FU (v3, v10, h5)) FU (0, v2, h0)
def fX9_after (a0 : Nat) (a1 : Int32) (h0 : Mem) : Option (Int32 × Mem) :=
 (fX9_between a1 0 2 h0).bind (fun x => (fun (v2 : Int32) (h1 : Mem) =>
  if v2 = 0 then
   some (((-1) : Int32), h1)
  else
   if mKd h1 a0 = 9 then (fX9_tryEvents a0 h1).bind (fun x => (fun (_u : Unit) (h3 : Mem) =>
    if a1 = 0 then
     (gR 9 h3 a0 3).bind fun v4 =>
     if mKd h3 v4 = 1 then (fX1_howManyAnswers v4 h3).bind (fun x => (fun (v6 : Int32) (h5 : Mem) =>
      some ((v6 : Int32), h5)) x.1 x.2) else none
    else
     if a1 = 1 then
      (gR 9 h3 a0 3).bind fun v7 =>
      if mKd h3 v7 = 1 then (fX1_firstBar v7 h3).bind (fun x => (fun (v9 : Int32) (h8 : Mem) =>
       some ((v9 : Int32), h8)) x.1 x.2) else none
     else
      (gR 9 h3 a0 5).bind fun v10 =>
      (gR 9 h3 a0 3).bind fun v11 =>
      (gR 1 h3 v11 0).bind fun v12 =>
      if mKd h3 v10 = 8 then (fX8_look v10 v12 h3).bind (fun x => (fun (_u : Unit) (h13 : Mem) =>
       (gR 9 h13 a0 5).bind fun v14 =>
       (gI 8 h13 v14 0).bind fun v15 =>
       some ((v15 : Int32), h13)) x.1 x.2) else none) x.1 x.2) else none) x.1 x.2)
def fJ9_min_f86c9 (a0 : Int64) (a2 : Int64) (h0 : Mem) : Option (Int64 × Mem) :=
 if 0 < (lg_cmp a0 a2) then
  some ((a2 : Int64), h0)
 else
  some ((a0 : Int64), h0)
def fX9_book (a0 : Nat) (a1 : Int32) (a2 : Int32) (h0 : Mem) : Option (Int32 × Mem) :=
 if a1 = (-1) then
  (gR 9 h0 a0 0).bind fun v1 =>
  (gR 6 h0 v1 3).bind fun v2 =>
  if mKd h0 v2 = 4 then (fX4_empty v2 h0).bind (fun x => (fun (v4 : Int32) (h3 : Mem) =>
   some ((v4 : Int32), h3)) x.1 x.2) else none
 else
  (gR 9 h0 a0 0).bind fun v5 =>
  (gR 6 h0 v5 0).bind fun v6 =>
  (gR 1 h0 v6 0).bind fun v7 =>
  if mKd h0 v7 = 2 then (fX2_has v7 a1 h0).bind (fun x => (fun (v9 : Int32) (h8 : Mem) =>
   if v9 = 0 then
    some (((-1) : Int32), h8)
   else
    (fX9_between a2 (-99) 99 h8).bind (fun x => (fun (v11 : Int32) (h10 : Mem) =>
     if v11 = 0 then
      some (((-2) : Int32), h10)
     else
      (gR 9 h10 a0 0).bind fun v12 =>
      (gR 6 h10 v12 3).bind fun v13 =>
      if mKd h10 v13 = 4 then (fX4_add v13 a1 a2 0 h10).bind (fun x => (fun (v15 : Int32) (h14 : Mem) =>
       some ((v15 : Int32), h14)) x.1 x.2) else none) x.1 x.2)) x.1 x.2) else none
def fX9_looked (a0 : Nat) (h0 : Mem) : Option (Int32 × Mem) :=
 (gR 9 h0 a0 0).bind fun v1 =>
 (gR 6 h0 v1 0).bind fun v2 =>
 (gR 1 h0 v2 0).bind fun v3 =>
 lpF (fun k6 ((v4, h5) : Int32 × Mem) =>
  (gR 9 h5 a0 0).bind fun v8 =>
  (gR 6 h5 v8 3).bind fun v9 =>
  (gI 4 h5 v9 0).bind fun v10 =>
  if v10 ≤ v4 then
   some (((-5) : Int32), h5)
  else
   (gR 9 h5 a0 0).bind fun v11 =>
   (gR 6 h5 v11 3).bind fun v12 =>
   if mKd h5 v12 = 4 then (fX4_first v12 v4 h5).bind (fun x => (fun (v14 : Int32) (h13 : Mem) =>
    if mKd h13 v3 = 2 then (fX2_has v3 v14 h13).bind (fun x => (fun (v16 : Int32) (h15 : Mem) =>
     if v16 = 0 then
      some ((v4 : Int32), h15)
     else
      if mKd h15 v3 = 2 then (fX2_get v3 v14 h15).bind (fun x => (fun (v18 : Int32) (h17 : Mem) =>
       (gR 9 h17 a0 0).bind fun v19 =>
       (gR 6 h17 v19 3).bind fun v20 =>
       if mKd h17 v20 = 4 then (fX4_second v20 v4 h17).bind (fun x => (fun (v22 : Int32) (h21 : Mem) =>
        if v18 = v22 then
         nm (v4 + 1 : Int32) fun v23 =>
         k6 (v23, h21)
        else
         some ((v4 : Int32), h21)) x.1 x.2) else none) x.1 x.2) else none) x.1 x.2) else none) x.1 x.2) else none) FU (0, h0)
def fX9_tapeAt (a0 : Nat) (a1 : Int32) (h0 : Mem) : Option (Nat × Mem) :=
 if a1 < 0 then
  some ((0 : Nat), h0)
 else
  (gR 9 h0 a0 8).bind fun v1 =>
  (aLn h0 v1).bind fun v2 =>
  if v2 ≤ a1 then
   some ((0 : Nat), h0)
  else
   (gR 9 h0 a0 8).bind fun v3 =>
   (xR h0 v3 a1).bind fun v4 =>
   some (v4, h0)
def fX7_holdsNothing (a0 : Nat) (h0 : Mem) : Option (Int32 × Mem) :=
 (gI 7 h0 a0 0).bind fun v1 =>
 if v1 = (-1) then
  some ((1 : Int32), h0)
 else
  some ((0 : Int32), h0)
def fX7_has (a0 : Nat) (a1 : Int32) (h0 : Mem) : Option (Int32 × Mem) :=
 if a1 < 0 then
  some ((0 : Int32), h0)
 else
  (gI 7 h0 a0 2).bind fun v1 =>
  if v1 ≤ a1 then
   some ((0 : Int32), h0)
  else
   (gR 7 h0 a0 1).bind fun v2 =>
   (aLn h0 v2).bind fun v3 =>
   if v3 ≤ a1 then
    some ((0 : Int32), h0)
   else
    some ((1 : Int32), h0)
def fX7_get (a0 : Nat) (a1 : Int32) (h0 : Mem) : Option (Int64 × Mem) :=
 if mKd h0 a0 = 7 then (fX7_has a0 a1 h0).bind (fun x => (fun (v2 : Int32) (h1 : Mem) =>
  if v2 = 0 then
   some ((0 : Int64), h1)
  else
   (gR 7 h1 a0 1).bind fun v3 =>
   (xJ h1 v3 a1).bind fun v4 =>
   some ((v4 : Int64), h1)) x.1 x.2) else none
def fX9_judge (a0 : Nat) (a1 : Int32) (a2 : Int32) (h0 : Mem) : Option (Int32 × Mem) :=
 if mKd h0 a0 = 9 then (fX9_tapeAt a0 a1 h0).bind (fun x => if x.1 = 0 then (fun (h3 : Mem) =>
  some (((-1) : Int32), h3)) x.2 else (fun (v2 : Nat) (h1 : Mem) =>
  if mKd h1 v2 = 7 then (fX7_holdsNothing v2 h1).bind (fun x => (fun (v5 : Int32) (h4 : Mem) =>
   jn (fun (_ : Unit) =>
    if mKd h4 v2 = 7 then (fX7_has v2 a2 h4).bind (fun x => (fun (v9 : Int32) (h8 : Mem) =>
     if v9 = 0 then
      some ((100 : Int32), h8)
     else
      (gR 9 h8 a0 0).bind fun v10 =>
      (gR 6 h8 v10 0).bind fun v11 =>
      (gR 1 h8 v11 0).bind fun v12 =>
      lpF (fun k15 ((v13, h14) : Int32 × Mem) =>
       (gI 2 h14 v12 0).bind fun v17 =>
       if v17 < v13 then
        some (((-5) : Int32), h14)
       else
        if mKd h14 v2 = 7 then (fX7_has v2 (a2 + v13) h14).bind (fun x => (fun (v19 : Int32) (h18 : Mem) =>
         if v19 = 0 then
          some ((100 + v13 : Int32), h18)
         else
          if mKd h18 v2 = 7 then (fX7_get v2 (a2 + v13) h18).bind (fun x => (fun (v21 : Int64) (h20 : Mem) =>
           if mKd h20 v12 = 2 then (fX2_get v12 v13 h20).bind (fun x => (fun (v23 : Int32) (h22 : Mem) =>
            if (lg_cmp v21 v23.toInt64) = 0 then
             nm (v13 + 1 : Int32) fun v24 =>
             k15 (v24, h22)
            else
             some ((v13 : Int32), h22)) x.1 x.2) else none) x.1 x.2) else none) x.1 x.2) else none) FU (0, h8)) x.1 x.2) else none) (fun k6 =>
    if v5 = 0 then
     (gI 7 h4 v2 0).bind fun v29 =>
     if v29 = 1 then
      k6 ()
     else
      some (((-12) : Int32), h4)
    else
     k6 ())) x.1 x.2) else none) x.1 x.2) else none
def fX4_copy (a0 : Nat) (a1 : Nat) (h0 : Mem) : Option (Unit × Mem) :=
 (gI 4 h0 a1 0).bind fun v1 =>
 (pI 4 h0 a0 0 v1).bind fun h2 =>
 (gR 4 h2 a1 1).bind fun v3 =>
 (gR 4 h2 a0 1).bind fun v4 =>
 (gR 4 h2 a0 1).bind fun v5 =>
 (aLn h2 v5).bind fun v6 =>
 (gR 4 h2 a1 1).bind fun v7 =>
 (aLn h2 v7).bind fun v8 =>
 (fJ9_min_7cf53 v6 v8 h2).bind (fun x => (fun (v10 : Int32) (h9 : Mem) =>
  (cpI h9 v3 0 v4 0 v10).bind fun h11 =>
  some ((), h11)) x.1 x.2)
def fX6_copy (a0 : Nat) (a1 : Nat) (h0 : Mem) : Option (Unit × Mem) :=
 (gR 6 h0 a0 0).bind fun v1 =>
 (gR 6 h0 a1 0).bind fun v2 =>
 if mKd h0 v1 = 1 then (fX1_copy v1 v2 h0).bind (fun x => (fun (_u : Unit) (h3 : Mem) =>
  (gR 6 h3 a0 1).bind fun v4 =>
  (gR 6 h3 a1 1).bind fun v5 =>
  if mKd h3 v4 = 4 then (fX4_copy v4 v5 h3).bind (fun x => (fun (_u : Unit) (h6 : Mem) =>
   (gR 6 h6 a0 2).bind fun v7 =>
   (gR 6 h6 a1 2).bind fun v8 =>
   if mKd h6 v7 = 4 then (fX4_copy v7 v8 h6).bind (fun x => (fun (_u : Unit) (h9 : Mem) =>
    (gR 6 h9 a0 3).bind fun v10 =>
    (gR 6 h9 a1 3).bind fun v11 =>
    if mKd h9 v10 = 4 then (fX4_copy v10 v11 h9).bind (fun x => (fun (_u : Unit) (h12 : Mem) =>
     some ((), h12)) x.1 x.2) else none) x.1 x.2) else none) x.1 x.2) else none) x.1 x.2) else none
def fX9_image (a0 : Nat) (h0 : Mem) : Option (Int32 × Mem) :=
 (gR 9 h0 a0 1).bind fun v1 =>
 (gR 9 h0 a0 0).bind fun v2 =>
 if mKd h0 v1 = 6 then (fX6_copy v1 v2 h0).bind (fun x => (fun (_u : Unit) (h3 : Mem) =>
  (pI 9 h3 a0 2 1).bind fun h4 =>
  (gR 9 h4 a0 0).bind fun v5 =>
  (gR 6 h4 v5 0).bind fun v6 =>
  (gR 1 h4 v6 0).bind fun v7 =>
  (gI 2 h4 v7 0).bind fun v8 =>
  some ((v8 : Int32), h4)) x.1 x.2) else none
def fX9_undo (a0 : Nat) (h0 : Mem) : Option (Int32 × Mem) :=
 (gI 9 h0 a0 2).bind fun v1 =>
 if v1 = 0 then
  some (((-3) : Int32), h0)
 else
  (gR 9 h0 a0 0).bind fun v2 =>
  (gR 9 h0 a0 1).bind fun v3 =>
  if mKd h0 v2 = 6 then (fX6_copy v2 v3 h0).bind (fun x => (fun (_u : Unit) (h4 : Mem) =>
   (gR 9 h4 a0 0).bind fun v5 =>
   (gR 6 h4 v5 0).bind fun v6 =>
   (gR 1 h4 v6 0).bind fun v7 =>
   (gI 2 h4 v7 0).bind fun v8 =>
   some ((v8 : Int32), h4)) x.1 x.2) else none
def fX9_count (a0 : Nat) (a1 : Int32) (h0 : Mem) : Option (Int32 × Mem) :=
 if a1 = 0 then
  (gR 9 h0 a0 0).bind fun v2 =>
  (gR 6 h0 v2 1).bind fun v3 =>
  (gI 4 h0 v3 0).bind fun v4 =>
  some ((v4 : Int32), h0)
 else if a1 = 1 then
  (gR 9 h0 a0 0).bind fun v6 =>
  (gR 6 h0 v6 2).bind fun v7 =>
  (gI 4 h0 v7 0).bind fun v8 =>
  some ((v8 : Int32), h0)
 else if a1 = 2 then
  (gR 9 h0 a0 0).bind fun v10 =>
  (gR 6 h0 v10 3).bind fun v11 =>
  (gI 4 h0 v11 0).bind fun v12 =>
  some ((v12 : Int32), h0)
 else if a1 = 3 then
  (gR 9 h0 a0 7).bind fun v14 =>
  (gI 5 h0 v14 0).bind fun v15 =>
  some ((v15 : Int32), h0)
 else 
  some (((-2) : Int32), h0)
def fX7_become (a0 : Nat) (a1 : Int32) (a2 : Int32) (h0 : Mem) : Option (Unit × Mem) :=
 (pI 7 h0 a0 0 a1).bind fun h1 =>
 (gR 7 h1 a0 1).bind fun v2 =>
 (aLn h1 v2).bind fun v3 =>
 (fJ9_min_7cf53 a2 v3 h1).bind (fun x => (fun (v5 : Int32) (h4 : Mem) =>
  (fJ9_max_7cf53 0 v5 h4).bind (fun x => (fun (v7 : Int32) (h6 : Mem) =>
   (pI 7 h6 a0 2 v7).bind fun h8 =>
   (gR 7 h8 a0 1).bind fun v9 =>
   (fJ7_fill_d0a16 v9 0 h8).bind (fun x => (fun (_u : Unit) (h10 : Mem) =>
    some ((), h10)) x.1 x.2)) x.1 x.2)) x.1 x.2)
def fX9_tape (a0 : Nat) (a1 : Int32) (a2 : Int32) (a3 : Int32) (h0 : Mem) : Option (Int32 × Mem) :=
 if mKd h0 a0 = 9 then (fX9_tapeAt a0 a1 h0).bind (fun x => if x.1 = 0 then (fun (h3 : Mem) =>
  some (((-1) : Int32), h3)) x.2 else (fun (v2 : Nat) (h1 : Mem) =>
  if a2 = (-1) then
   if mKd h1 v2 = 7 then (fX7_become v2 (-1) 0 h1).bind (fun x => (fun (_u : Unit) (h4 : Mem) =>
    some ((1 : Int32), h4)) x.1 x.2) else none
  else
   (fX9_between a2 0 4 h1).bind (fun x => (fun (v6 : Int32) (h5 : Mem) =>
    if v6 = 0 then
     some (((-2) : Int32), h5)
    else
     if a3 ≤ 60 then
      if 0 ≤ a3 then
       if mKd h5 v2 = 7 then (fX7_become v2 a2 a3 h5).bind (fun x => (fun (_u : Unit) (h7 : Mem) =>
        some ((1 : Int32), h7)) x.1 x.2) else none
      else
       some (((-14) : Int32), h5)
     else
      some (((-2) : Int32), h5)) x.1 x.2)) x.1 x.2) else none
def fX7_lowestBits (a0 : Nat) (a1 : Int64) (h0 : Mem) : Option (Int64 × Mem) :=
 (gI 7 h0 a0 0).bind fun v1 =>
 if v1 = 0 then
  some ((a1.toInt32.toInt8.toInt32.toInt64 : Int64), h0)
 else if v1 = 1 then
  some ((a1.toInt32.toInt16.toInt32.toInt64 : Int64), h0)
 else if v1 = 2 then
  some ((a1.toInt32.toInt64 : Int64), h0)
 else if v1 = 3 then
  some ((a1 : Int64), h0)
 else if v1 = 4 then
  if (lg_cmp a1 0) = 0 then
   some ((0 : Int64), h0)
  else
   some ((1 : Int64), h0)
 else 
  some ((a1 : Int64), h0)
def fX7_set (a0 : Nat) (a1 : Int32) (a2 : Int64) (h0 : Mem) : Option (Unit × Mem) :=
 if mKd h0 a0 = 7 then (fX7_has a0 a1 h0).bind (fun x => (fun (v2 : Int32) (h1 : Mem) =>
  if v2 = 0 then
   some ((), h1)
  else
   (gR 7 h1 a0 1).bind fun v3 =>
   if mKd h1 a0 = 7 then (fX7_lowestBits a0 a2 h1).bind (fun x => (fun (v5 : Int64) (h4 : Mem) =>
    (yJ h4 v3 a1 v5).bind fun h6 =>
    some ((), h6)) x.1 x.2) else none) x.1 x.2) else none
def fX9_item (a0 : Nat) (a1 : Int32) (a2 : Int32) (a3 : Int64) (h0 : Mem) : Option (Int32 × Mem) :=
 if mKd h0 a0 = 9 then (fX9_tapeAt a0 a1 h0).bind (fun x => if x.1 = 0 then (fun (h3 : Mem) =>
  some (((-1) : Int32), h3)) x.2 else (fun (v2 : Nat) (h1 : Mem) =>
  if mKd h1 v2 = 7 then (fX7_holdsNothing v2 h1).bind (fun x => (fun (v5 : Int32) (h4 : Mem) =>
   if v5 = 0 then
    if mKd h4 v2 = 7 then (fX7_has v2 a2 h4).bind (fun x => (fun (v7 : Int32) (h6 : Mem) =>
     if v7 = 0 then
      some (((-13) : Int32), h6)
     else
      if mKd h6 v2 = 7 then (fX7_set v2 a2 a3 h6).bind (fun x => (fun (_u : Unit) (h8 : Mem) =>
       some ((1 : Int32), h8)) x.1 x.2) else none) x.1 x.2) else none
   else
    some (((-11) : Int32), h4)) x.1 x.2) else none) x.1 x.2) else none
def fX9_peek (a0 : Nat) (a1 : Int32) (a2 : Int32) (h0 : Mem) : Option (Int64 × Mem) :=
 if mKd h0 a0 = 9 then (fX9_tapeAt a0 a1 h0).bind (fun x => if x.1 = 0 then (fun (h3 : Mem) =>
  some (((-9223372036854775808) : Int64), h3)) x.2 else (fun (v2 : Nat) (h1 : Mem) =>
  if mKd h1 v2 = 7 then (fX7_has v2 a2 h1).bind (fun x => (fun (v5 : Int32) (h4 : Mem) =>
   if v5 = 0 then
    some (((-9223372036854775808) : Int64), h4)
   else
    if mKd h4 v2 = 7 then (fX7_get v2 a2 h4).bind (fun x => (fun (v7 : Int64) (h6 : Mem) =>
     some ((v7 : Int64), h6)) x.1 x.2) else none) x.1 x.2) else none) x.1 x.2) else none
def fX7_hasAll (a0 : Nat) (a1 : Int32) (a2 : Int32) (h0 : Mem) : Option (Int32 × Mem) :=
 if a1 < 0 then
  some ((0 : Int32), h0)
 else
  if a2 < 0 then
   some ((0 : Int32), h0)
  else
   (gI 7 h0 a0 2).bind fun v1 =>
   if (v1 - a2) < a1 then
    some ((0 : Int32), h0)
   else
    some ((1 : Int32), h0)
def fX9_shift (a0 : Nat) (a1 : Int32) (a2 : Int32) (a3 : Int32) (a4 : Int32) (a5 : Int32) (h0 : Mem) : Option (Int32 × Mem) :=
 if mKd h0 a0 = 9 then (fX9_tapeAt a0 a1 h0).bind (fun x => if x.1 = 0 then (fun (h3 : Mem) =>
  if mKd h3 a0 = 9 then (fX9_tapeAt a0 a3 h3).bind (fun x => if x.1 = 0 then (fun (h6 : Mem) =>
   some (((-1) : Int32), h6)) x.2 else (fun (v5 : Nat) (h4 : Mem) =>
   some (((-1) : Int32), h4)) x.1 x.2) else none) x.2 else (fun (v2 : Nat) (h1 : Mem) =>
  if mKd h1 a0 = 9 then (fX9_tapeAt a0 a3 h1).bind (fun x => if x.1 = 0 then (fun (h9 : Mem) =>
   some (((-1) : Int32), h9)) x.2 else (fun (v8 : Nat) (h7 : Mem) =>
   if mKd h7 v2 = 7 then (fX7_holdsNothing v2 h7).bind (fun x => (fun (v11 : Int32) (h10 : Mem) =>
    if v11 = 0 then
     if mKd h10 v8 = 7 then (fX7_holdsNothing v8 h10).bind (fun x => (fun (v13 : Int32) (h12 : Mem) =>
      if v13 = 0 then
       (gI 7 h12 v2 0).bind fun v14 =>
       (gI 7 h12 v8 0).bind fun v15 =>
       if v14 = v15 then
        if mKd h12 v2 = 7 then (fX7_hasAll v2 a2 a5 h12).bind (fun x => (fun (v17 : Int32) (h16 : Mem) =>
         if v17 = 0 then
          some (((-13) : Int32), h16)
         else
          if mKd h16 v8 = 7 then (fX7_hasAll v8 a4 a5 h16).bind (fun x => (fun (v19 : Int32) (h18 : Mem) =>
           if v19 = 0 then
            some (((-13) : Int32), h18)
           else
            (gR 7 h18 v2 1).bind fun v20 =>
            (gR 7 h18 v8 1).bind fun v21 =>
            (cpJ h18 v20 a2 v21 a4 a5).bind fun h22 =>
            some ((a5 : Int32), h22)) x.1 x.2) else none) x.1 x.2) else none
       else
        some (((-12) : Int32), h12)
      else
       some (((-11) : Int32), h12)) x.1 x.2) else none
    else
     some (((-11) : Int32), h10)) x.1 x.2) else none) x.1 x.2) else none) x.1 x.2) else none
end
section
def fX10_init (a0 : Nat) (h0 : Mem) : Option (Unit × Mem) :=
 (pI 10 h0 a0 0 3).bind fun h1 =>
 nwA 12 5 5 h1 fun v2 h3 =>
 (pR 10 h3 a0 1 v2).bind fun h4 =>
 (pI 10 h4 a0 2 1).bind fun h5 =>
 (pI 10 h5 a0 3 10).bind fun h6 =>
 nwA 11 12 12 h6 fun v7 h8 =>
 (pR 10 h8 a0 4 v7).bind fun h9 =>
 nwA 11 16 16 h9 fun v10 h11 =>
 (pR 10 h11 a0 6 v10).bind fun h12 =>
 nwA 11 16 16 h12 fun v13 h14 =>
 (pR 10 h14 a0 8 v13).bind fun h15 =>
 nwA 12 5 5 h15 fun v16 h17 =>
 (pR 10 h17 a0 10 v16).bind fun h18 =>
 nwA 12 5 5 h18 fun v19 h20 =>
 (pR 10 h20 a0 11 v19).bind fun h21 =>
 nwA 11 13122 13122 h21 fun v22 h23 =>
 (pR 10 h23 a0 12 v22).bind fun h24 =>
 nwA 11 2500 2500 h24 fun v25 h26 =>
 (pR 10 h26 a0 14 v25).bind fun h27 =>
 nwA 11 6561 6561 h27 fun v28 h29 =>
 (pR 10 h29 a0 16 v28).bind fun h30 =>
 nwA 11 6561 6561 h30 fun v31 h32 =>
 (pR 10 h32 a0 17 v31).bind fun h33 =>
 nwA 11 6561 6561 h33 fun v34 h35 =>
 (pR 10 h35 a0 18 v34).bind fun h36 =>
 nwA 11 6 6 h36 fun v37 h38 =>
 (yI 11 h38 v37 0 2).bind fun h39 =>
 (yI 11 h39 v37 1 3).bind fun h40 =>
 (yI 11 h40 v37 2 5).bind fun h41 =>
 (yI 11 h41 v37 3 7).bind fun h42 =>
 (yI 11 h42 v37 4 11).bind fun h43 =>
 (yI 11 h43 v37 5 13).bind fun h44 =>
 (pR 10 h44 a0 20 v37).bind fun h45 =>
 nwA 13 13 13 h45 fun v46 h47 =>
 (pR 10 h47 a0 21 v46).bind fun h48 =>
 nwA 12 5 5 h48 fun v49 h50 =>
 (pR 10 h50 a0 22 v49).bind fun h51 =>
 nwA 12 5 5 h51 fun v52 h53 =>
 (pR 10 h53 a0 23 v52).bind fun h54 =>
 nwA 11 8 8 h54 fun v55 h56 =>
 (pR 10 h56 a0 24 v55).bind fun h57 =>
 nwA 11 100 100 h57 fun v58 h59 =>
 (pR 10 h59 a0 28 v58).bind fun h60 =>
 nwA 11 36 36 h60 fun v61 h62 =>
 (pR 10 h62 a0 31 v61).bind fun h63 =>
 nwA 12 5 5 h63 fun v64 h65 =>
 (pR 10 h65 a0 32 v64).bind fun h66 =>
 nwA 11 6 6 h66 fun v67 h68 =>
 (yI 11 h68 v67 0 (-1)).bind fun h69 =>
 (yI 11 h69 v67 1 (-1)).bind fun h70 =>
 (yI 11 h70 v67 2 (-1)).bind fun h71 =>
 (yI 11 h71 v67 3 (-1)).bind fun h72 =>
 (yI 11 h72 v67 4 (-1)).bind fun h73 =>
 (yI 11 h73 v67 5 (-1)).bind fun h74 =>
 (pR 10 h74 a0 33 v67).bind fun h75 =>
 nwA 11 6 6 h75 fun v76 h77 =>
 (pR 10 h77 a0 34 v76).bind fun h78 =>
 nwA 12 360 360 h78 fun v79 h80 =>
 (pR 10 h80 a0 35 v79).bind fun h81 =>
 nwA 12 5 5 h81 fun v82 h83 =>
 (pR 10 h83 a0 37 v82).bind fun h84 =>
 nwA 11 50 50 h84 fun v85 h86 =>
 (pR 10 h86 a0 38 v85).bind fun h87 =>
 some ((), h87)
def fX10_in (a0 : Int64) (a2 : Int64) (a4 : Int64) (h0 : Mem) : Option (Int32 × Mem) :=
 if (lg_cmp a0 a2) < 0 then
  some ((0 : Int32), h0)
 else
  if 0 < (lg_cmp a0 a4) then
   some ((0 : Int32), h0)
  else
   some ((1 : Int32), h0)
def fX10_degree (a0 : Nat) (a1 : Int32) (h0 : Mem) : Option (Int32 × Mem) :=
 (fX10_in a1.toInt64 2 4 h0).bind (fun x => (fun (v2 : Int32) (h1 : Mem) =>
  if v2 = 0 then
   some (((-2) : Int32), h1)
  else
   (gI 10 h1 a0 0).bind fun v3 =>
   (pI 10 h1 a0 0 a1).bind fun h4 =>
   lpF (fun k7 ((v5, h6) : Int32 × Mem) =>
    if 5 ≤ v5 then
     some ((v3 : Int32), h6)
    else
     (gR 10 h6 a0 1).bind fun v9 =>
     (yJ h6 v9 v5 0).bind fun h10 =>
     nm (v5 + 1 : Int32) fun v11 =>
     k7 (v11, h10)) FU (0, h4)) x.1 x.2)
def fX10_isNumber (a0 : Nat) (a1 : Int32) (h0 : Mem) : Option (Int32 × Mem) :=
 (gI 10 h0 a0 0).bind fun v1 =>
 (fX10_in a1.toInt64 0 v1.toInt64 h0).bind (fun x => (fun (v3 : Int32) (h2 : Mem) =>
  if v3 = 0 ∨ v3 = 1 then some (v3, h2) else none) x.1 x.2)
def fX10_number (a0 : Nat) (a1 : Int32) (a2 : Int32) (h0 : Mem) : Option (Int32 × Mem) :=
 if mKd h0 a0 = 10 then (fX10_isNumber a0 a1 h0).bind (fun x => (fun (v2 : Int32) (h1 : Mem) =>
  if v2 = 0 then
   some (((-1) : Int32), h1)
  else
   (fX10_in a2.toInt64 (-99) 99 h1).bind (fun x => (fun (v4 : Int32) (h3 : Mem) =>
    if v4 = 0 then
     some (((-2) : Int32), h3)
    else
     (gR 10 h3 a0 1).bind fun v5 =>
     (xJ h3 v5 a1).bind fun v6 =>
     nm (v6.toInt32 : Int32) fun v7 =>
     (gR 10 h3 a0 1).bind fun v8 =>
     (yJ h3 v8 a1 a2.toInt64).bind fun h9 =>
     some ((v7 + 100 : Int32), h9)) x.1 x.2)) x.1 x.2) else none
def fX10_equal (a0 : Nat) (a1 : Int32) (h0 : Mem) : Option (Int32 × Mem) :=
 (fX10_in a1.toInt64 (-9999) 9999 h0).bind (fun x => (fun (v2 : Int32) (h1 : Mem) =>
  if v2 = 0 then
   some (((-2) : Int32), h1)
  else
   (gI 10 h1 a0 2).bind fun v3 =>
   (pI 10 h1 a0 2 a1).bind fun h4 =>
   some ((v3 + 10000 : Int32), h4)) x.1 x.2)
def fX10_window (a0 : Nat) (a1 : Int32) (h0 : Mem) : Option (Int32 × Mem) :=
 (fX10_in a1.toInt64 1 40 h0).bind (fun x => (fun (v2 : Int32) (h1 : Mem) =>
  if v2 = 0 then
   some (((-2) : Int32), h1)
  else
   (gI 10 h1 a0 3).bind fun v3 =>
   (pI 10 h1 a0 3 a1).bind fun h4 =>
   some ((v3 : Int32), h4)) x.1 x.2)
def fX10_multiplies (a0 : Nat) (a1 : Int64) (a3 : Int64) (h0 : Mem) : Option (Unit × Mem) :=
 lpF (fun k3 ((v1, h2) : Int32 × Mem) =>
  if v1 < 0 then
   some ((), h2)
  else
   (gR 10 h2 a0 11).bind fun v5 =>
   (gR 10 h2 a0 11).bind fun v6 =>
   (xJ h2 v6 v1).bind fun v7 =>
   if v1 ≤ 0 then
    (yJ h2 v5 v1 ((a1 * v7) + 0)).bind fun h12 =>
    nm (v1 + (-1) : Int32) fun v13 =>
    k3 (v13, h12)
   else
    (gR 10 h2 a0 11).bind fun v8 =>
    (xJ h2 v8 (v1 - 1)).bind fun v9 =>
    (yJ h2 v5 v1 ((a1 * v7) + (a3 * v9))).bind fun h10 =>
    nm (v1 + (-1) : Int32) fun v11 =>
    k3 (v11, h10)) FU (4, h0)
def fX10_turns (a0 : Nat) (a1 : Int64) (a3 : Int64) (a5 : Int64) (a7 : Int64) (h0 : Mem) : Option (Unit × Mem) :=
 lpF (fun k3 ((v1, h2) : Int32 × Mem) =>
  if 5 ≤ v1 then
   lpF (fun k10 ((v8, h9) : Int32 × Mem) =>
    (gI 10 h9 a0 0).bind fun v12 =>
    if v12 < v8 then
     some ((), h9)
    else
     lpF (fun k15 ((v13, h14) : Int32 × Mem) =>
      if 5 ≤ v13 then
       lpF (fun k27 ((v25, h26) : Int32 × Mem) =>
        (gI 10 h26 a0 0).bind fun v29 =>
        if v29 ≤ v25 then
         lpF (fun k43 ((v41, h42) : Int32 × Mem) =>
          (gI 10 h42 a0 0).bind fun v45 =>
          if v45 < v41 then
           nm (v8 + 1 : Int32) fun v52 =>
           k10 (v52, h42)
          else
           (gR 10 h42 a0 10).bind fun v46 =>
           (xJ h42 v46 v41).bind fun v47 =>
           (gR 10 h42 a0 11).bind fun v48 =>
           (xJ h42 v48 v41).bind fun v49 =>
           (yJ h42 v46 v41 (v47 + v49)).bind fun h50 =>
           nm (v41 + 1 : Int32) fun v51 =>
           k43 (v51, h50)) FU (0, h26)
        else
         (gI 10 h26 a0 0).bind fun v30 =>
         jn (fun (v31 : Int64) =>
          (gI 10 h26 a0 0).bind fun v34 =>
          if (v34 - v8) ≤ v25 then
           if mKd h26 a0 = 10 then (fX10_multiplies a0 v31 a7 h26).bind (fun x => (fun (_u : Unit) (h37 : Mem) =>
            nm (v25 + 1 : Int32) fun v38 =>
            k27 (v38, h37)) x.1 x.2) else none
          else
           if mKd h26 a0 = 10 then (fX10_multiplies a0 v31 a3 h26).bind (fun x => (fun (_u : Unit) (h35 : Mem) =>
            nm (v25 + 1 : Int32) fun v36 =>
            k27 (v36, h35)) x.1 x.2) else none) (fun k32 =>
          if (v30 - v8) ≤ v25 then
           k32 a5
          else
           k32 a1)) FU (0, h14)
      else
       (gR 10 h14 a0 11).bind fun v17 =>
       if v13 = 0 then
        (gR 10 h14 a0 1).bind fun v18 =>
        (xJ h14 v18 v8).bind fun v19 =>
        (yJ h14 v17 v13 v19).bind fun h20 =>
        nm (v13 + 1 : Int32) fun v21 =>
        k15 (v21, h20)
       else
        (yJ h14 v17 v13 0).bind fun h22 =>
        nm (v13 + 1 : Int32) fun v23 =>
        k15 (v23, h22)) FU (0, h9)) FU (0, h2)
  else
   (gR 10 h2 a0 10).bind fun v5 =>
   (yJ h2 v5 v1 0).bind fun h6 =>
   nm (v1 + 1 : Int32) fun v7 =>
   k3 (v7, h6)) FU (0, h0)
def fX10_becomesTurned (a0 : Nat) (h0 : Mem) : Option (Int32 × Mem) :=
 lpF (fun k3 ((v1, h2) : Int32 × Mem) =>
  (gI 10 h2 a0 0).bind fun v5 =>
  if v5 < v1 then
   lpF (fun k14 ((v12, h13) : Int32 × Mem) =>
    (gI 10 h13 a0 0).bind fun v16 =>
    if v16 < v12 then
     some ((1 : Int32), h13)
    else
     (gR 10 h13 a0 1).bind fun v17 =>
     (gR 10 h13 a0 10).bind fun v18 =>
     (xJ h13 v18 v12).bind fun v19 =>
     (yJ h13 v17 v12 v19).bind fun h20 =>
     nm (v12 + 1 : Int32) fun v21 =>
     k14 (v21, h20)) FU (0, h2)
  else
   (gR 10 h2 a0 10).bind fun v6 =>
   (xJ h2 v6 v1).bind fun v7 =>
   (fX10_in v7 (-99) 99 h2).bind (fun x => (fun (v9 : Int32) (h8 : Mem) =>
    if v9 = 0 then
     some ((0 : Int32), h8)
    else
     nm (v1 + 1 : Int32) fun v10 =>
     k3 (v10, h8)) x.1 x.2)) FU (0, h0)
def fX10_moves (a0 : Nat) (a1 : Int32) (h0 : Mem) : Option (Int32 × Mem) :=
 if a1 = 0 then
  if mKd h0 a0 = 10 then (fX10_turns a0 1 1 0 1 h0).bind (fun x => (fun (_u : Unit) (h2 : Mem) =>
   if mKd h2 a0 = 10 then (fX10_becomesTurned a0 h2).bind (fun x => (fun (v4 : Int32) (h3 : Mem) =>
    if v4 = 0 ∨ v4 = 1 then some (v4, h3) else none) x.1 x.2) else none) x.1 x.2) else none
 else if a1 = 1 then
  if mKd h0 a0 = 10 then (fX10_turns a0 1 (-1) 0 1 h0).bind (fun x => (fun (_u : Unit) (h6 : Mem) =>
   if mKd h6 a0 = 10 then (fX10_becomesTurned a0 h6).bind (fun x => (fun (v8 : Int32) (h7 : Mem) =>
    if v8 = 0 ∨ v8 = 1 then some (v8, h7) else none) x.1 x.2) else none) x.1 x.2) else none
 else if a1 = 2 then
  if mKd h0 a0 = 10 then (fX10_turns a0 0 1 1 0 h0).bind (fun x => (fun (_u : Unit) (h10 : Mem) =>
   if mKd h10 a0 = 10 then (fX10_becomesTurned a0 h10).bind (fun x => (fun (v12 : Int32) (h11 : Mem) =>
    if v12 = 0 ∨ v12 = 1 then some (v12, h11) else none) x.1 x.2) else none) x.1 x.2) else none
 else if a1 = 3 then
  if mKd h0 a0 = 10 then (fX10_turns a0 (-1) 0 0 1 h0).bind (fun x => (fun (_u : Unit) (h14 : Mem) =>
   if mKd h14 a0 = 10 then (fX10_becomesTurned a0 h14).bind (fun x => (fun (v16 : Int32) (h15 : Mem) =>
    if v16 = 0 ∨ v16 = 1 then some (v16, h15) else none) x.1 x.2) else none) x.1 x.2) else none
 else 
  lpF (fun k19 ((v17, h18) : Int32 × Mem) =>
   (gI 10 h18 a0 0).bind fun v21 =>
   if v21 < v17 then
    if mKd h18 a0 = 10 then (fX10_becomesTurned a0 h18).bind (fun x => (fun (v28 : Int32) (h27 : Mem) =>
     if v28 = 0 ∨ v28 = 1 then some (v28, h27) else none) x.1 x.2) else none
   else
    (gR 10 h18 a0 10).bind fun v22 =>
    (gR 10 h18 a0 1).bind fun v23 =>
    (xJ h18 v23 v17).bind fun v24 =>
    (yJ h18 v22 v17 (-v24)).bind fun h25 =>
    nm (v17 + 1 : Int32) fun v26 =>
    k19 (v26, h25)) FU (0, h0)
def fX10_move (a0 : Nat) (a1 : Int32) (h0 : Mem) : Option (Int32 × Mem) :=
 (fX10_in a1.toInt64 0 4 h0).bind (fun x => (fun (v2 : Int32) (h1 : Mem) =>
  if v2 = 0 then
   some (((-1) : Int32), h1)
  else
   if mKd h1 a0 = 10 then (fX10_moves a0 a1 h1).bind (fun x => (fun (v4 : Int32) (h3 : Mem) =>
    if v4 = 0 then
     some (((-3) : Int32), h3)
    else
     some ((1 : Int32), h3)) x.1 x.2) else none) x.1 x.2)
def fX10_turn (a0 : Nat) (a1 : Int32) (a2 : Int32) (a3 : Int32) (a4 : Int32) (h0 : Mem) : Option (Int32 × Mem) :=
 (fX10_in a1.toInt64 (-9) 9 h0).bind (fun x => (fun (v2 : Int32) (h1 : Mem) =>
  if v2 = 0 then
   some (((-2) : Int32), h1)
  else
   (fX10_in a2.toInt64 (-9) 9 h1).bind (fun x => (fun (v4 : Int32) (h3 : Mem) =>
    if v4 = 0 then
     some (((-2) : Int32), h3)
    else
     (fX10_in a3.toInt64 (-9) 9 h3).bind (fun x => (fun (v6 : Int32) (h5 : Mem) =>
      if v6 = 0 then
       some (((-2) : Int32), h5)
      else
       (fX10_in a4.toInt64 (-9) 9 h5).bind (fun x => (fun (v8 : Int32) (h7 : Mem) =>
        if v8 = 0 then
         some (((-2) : Int32), h7)
        else
         if mKd h7 a0 = 10 then (fX10_turns a0 a1.toInt64 a2.toInt64 a3.toInt64 a4.toInt64 h7).bind (fun x => (fun (_u : Unit) (h9 : Mem) =>
          if mKd h9 a0 = 10 then (fX10_becomesTurned a0 h9).bind (fun x => (fun (v11 : Int32) (h10 : Mem) =>
           if v11 = 0 then
            some (((-3) : Int32), h10)
           else
            some ((1 : Int32), h10)) x.1 x.2) else none) x.1 x.2) else none) x.1 x.2)) x.1 x.2)) x.1 x.2)) x.1 x.2)
def fX10_feed (a0 : Nat) (a1 : Int32) (h0 : Mem) : Option (Int32 × Mem) :=
 (fX10_in a1.toInt64 0 127 h0).bind (fun x => (fun (v2 : Int32) (h1 : Mem) =>
  if v2 = 0 then
   some (((-2) : Int32), h1)
  else
   (gI 10 h1 a0 29).bind fun v3 =>
   if v3 = 100 then
    some (((-4) : Int32), h1)
   else
    (gR 10 h1 a0 28).bind fun v4 =>
    (gI 10 h1 a0 29).bind fun v5 =>
    (yI 11 h1 v4 v5 a1).bind fun h6 =>
    (gI 10 h6 a0 29).bind fun v7 =>
    (pI 10 h6 a0 29 (v7 + 1)).bind fun h8 =>
    (gI 10 h8 a0 29).bind fun v9 =>
    some ((v9 : Int32), h8)) x.1 x.2)
def fX10_here (a0 : Nat) (h0 : Mem) : Option (Int32 × Mem) :=
 (gI 10 h0 a0 30).bind fun v1 =>
 (gI 10 h0 a0 29).bind fun v2 =>
 if v2 ≤ v1 then
  some (((-1) : Int32), h0)
 else
  (gR 10 h0 a0 28).bind fun v3 =>
  (gI 10 h0 a0 30).bind fun v4 =>
  (xI 11 h0 v3 v4).bind fun v5 =>
  some ((v5 : Int32), h0)
def fX10_isDigit (a0 : Nat) (h0 : Mem) : Option (Int32 × Mem) :=
 if mKd h0 a0 = 10 then (fX10_here a0 h0).bind (fun x => (fun (v2 : Int32) (h1 : Mem) =>
  (fX10_in v2.toInt64 48 57 h1).bind (fun x => (fun (v4 : Int32) (h3 : Mem) =>
   if v4 = 0 ∨ v4 = 1 then some (v4, h3) else none) x.1 x.2)) x.1 x.2) else none
def fX10_readsDigit (a0 : Nat) (a1 : Int32) (h0 : Mem) : Option (Int32 × Mem) :=
 if mKd h0 a0 = 10 then (fX10_isDigit a0 h0).bind (fun x => (fun (v2 : Int32) (h1 : Mem) =>
  if v2 = 0 then
   some ((0 : Int32), h1)
  else
   (gR 10 h1 a0 31).bind fun v3 =>
   if mKd h1 a0 = 10 then (fX10_here a0 h1).bind (fun x => (fun (v5 : Int32) (h4 : Mem) =>
    (yI 11 h4 v3 a1 (v5 - 48)).bind fun h6 =>
    (gI 10 h6 a0 30).bind fun v7 =>
    (pI 10 h6 a0 30 (v7 + 1)).bind fun h8 =>
    some ((1 : Int32), h8)) x.1 x.2) else none) x.1 x.2) else none
def fX10_readsNumber (a0 : Nat) (a1 : Int32) (h0 : Mem) : Option (Int32 × Mem) :=
 if mKd h0 a0 = 10 then (fX10_here a0 h0).bind (fun x => (fun (v2 : Int32) (h1 : Mem) =>
  jn (fun (v3 : Int32) =>
   (gI 10 h1 a0 30).bind fun v6 =>
   jn (fun (v7 : Int32) =>
    (pI 10 h1 a0 30 (v6 + v7)).bind fun h10 =>
    if mKd h10 a0 = 10 then (fX10_isDigit a0 h10).bind (fun x => (fun (v12 : Int32) (h11 : Mem) =>
     if v12 = 0 then
      some ((0 : Int32), h11)
     else
      lpF (fun k16 ((v13, v14, h15) : Int32 × Int32 × Mem) =>
       jn (fun (h18 : Mem) =>
        (gR 10 h18 a0 31).bind fun v21 =>
        if v3 = 0 then
         (yI 11 h18 v21 a1 v13).bind fun h23 =>
         some ((1 : Int32), h23)
        else
         (yI 11 h18 v21 a1 (-v13)).bind fun h22 =>
         some ((1 : Int32), h22)) (fun k19 =>
        if 4 ≤ v14 then
         k19 h15
        else
         if mKd h15 a0 = 10 then (fX10_isDigit a0 h15).bind (fun x => (fun (v26 : Int32) (h25 : Mem) =>
          if v26 = 0 then
           k19 h25
          else
           if mKd h25 a0 = 10 then (fX10_here a0 h25).bind (fun x => (fun (v28 : Int32) (h27 : Mem) =>
            nm (((10 * v13) + v28) - 48 : Int32) fun v29 =>
            (gI 10 h27 a0 30).bind fun v30 =>
            (pI 10 h27 a0 30 (v30 + 1)).bind fun h31 =>
            nm (v14 + 1 : Int32) fun v32 =>
            k16 (v29, v32, h31)) x.1 x.2) else none) x.1 x.2) else none)) FU (0, 0, h11)) x.1 x.2) else none) (fun k8 =>
    if v3 = 0 then
     k8 0
    else
     k8 1)) (fun k4 =>
   if v2 = 45 then
    k4 1
   else
    k4 0)) x.1 x.2) else none
def fX10_readsClause (a0 : Nat) (a1 : Int32) (h0 : Mem) : Option (Int32 × Mem) :=
 if mKd h0 a0 = 10 then (fX10_here a0 h0).bind (fun x => (fun (v2 : Int32) (h1 : Mem) =>
  jn (fun (_ : Unit) =>
   (gR 10 h1 a0 31).bind fun v5 =>
   (yI 11 h1 v5 (3 * a1) v2).bind fun h6 =>
   (gI 10 h6 a0 30).bind fun v7 =>
   (pI 10 h6 a0 30 (v7 + 1)).bind fun h8 =>
   jn (fun (h9 : Mem) =>
    if v2 = 100 then
     some ((1 : Int32), h9)
    else
     if v2 = 116 then
      some ((1 : Int32), h9)
     else
      if mKd h9 a0 = 10 then (fX10_readsNumber a0 ((3 * a1) + 2) h9).bind (fun x => (fun (v13 : Int32) (h12 : Mem) =>
       if v13 = 0 then
        some ((0 : Int32), h12)
       else
        some ((1 : Int32), h12)) x.1 x.2) else none) (fun k10 =>
    if v2 = 61 then
     k10 h8
    else
     if v2 = 119 then
      k10 h8
     else
      if mKd h8 a0 = 10 then (fX10_readsDigit a0 ((3 * a1) + 1) h8).bind (fun x => (fun (v18 : Int32) (h17 : Mem) =>
       if v18 = 0 then
        some ((0 : Int32), h17)
       else
        k10 h17) x.1 x.2) else none)) (fun k3 =>
   if v2 = 100 then
    k3 ()
   else
    if v2 = 97 then
     k3 ()
    else
     if v2 = 61 then
      k3 ()
     else
      if v2 = 119 then
       k3 ()
      else
       if v2 = 116 then
        k3 ()
       else
        some ((0 : Int32), h1))) x.1 x.2) else none
def fX10_does (a0 : Nat) (a1 : Int32) (h0 : Mem) : Option (Int32 × Mem) :=
 (gR 10 h0 a0 31).bind fun v1 =>
 (xI 11 h0 v1 ((3 * a1) + 1)).bind fun v2 =>
 (gR 10 h0 a0 31).bind fun v3 =>
 (xI 11 h0 v3 ((3 * a1) + 2)).bind fun v4 =>
 (gR 10 h0 a0 31).bind fun v5 =>
 (xI 11 h0 v5 (3 * a1)).bind fun v6 =>
 if v6 = 61 then
  if mKd h0 a0 = 10 then (fX10_equal a0 v4 h0).bind (fun x => (fun (v9 : Int32) (h8 : Mem) =>
   some ((v9 : Int32), h8)) x.1 x.2) else none
 else if v6 = 97 then
  if mKd h0 a0 = 10 then (fX10_number a0 v2 v4 h0).bind (fun x => (fun (v12 : Int32) (h11 : Mem) =>
   some ((v12 : Int32), h11)) x.1 x.2) else none
 else if v6 = 100 then
  if mKd h0 a0 = 10 then (fX10_degree a0 v2 h0).bind (fun x => (fun (v15 : Int32) (h14 : Mem) =>
   some ((v15 : Int32), h14)) x.1 x.2) else none
 else if v6 = 119 then
  if mKd h0 a0 = 10 then (fX10_window a0 v4 h0).bind (fun x => (fun (v18 : Int32) (h17 : Mem) =>
   some ((v18 : Int32), h17)) x.1 x.2) else none
 else 
  if mKd h0 a0 = 10 then (fX10_move a0 v2 h0).bind (fun x => (fun (v20 : Int32) (h19 : Mem) =>
   some ((v20 : Int32), h19)) x.1 x.2) else none
def fX10_read (a0 : Nat) (h0 : Mem) : Option (Int32 × Mem) :=
 (pI 10 h0 a0 30 0).bind fun h1 =>
 if mKd h1 a0 = 10 then (fX10_readsClause a0 0 h1).bind (fun x => (fun (v3 : Int32) (h2 : Mem) =>
  lpF (fun k7 ((v4, v5, h6) : Int32 × Int32 × Mem) =>
   jn (fun (h9 : Mem) =>
    (gI 10 h9 a0 30).bind fun v12 =>
    (gI 10 h9 a0 29).bind fun v13 =>
    jn (fun (v14 : Int32) =>
     nm (v5 &&& v14 : Int32) fun v17 =>
     (pI 10 h9 a0 29 0).bind fun h18 =>
     if v17 = 0 then
      (gI 10 h18 a0 30).bind fun v19 =>
      some (((-10) - v19 : Int32), h18)
     else
      lpF (fun k23 ((v20, v21, h22) : Int32 × Int32 × Mem) =>
       if v4 < v21 then
        some ((v20 : Int32), h22)
       else
        if mKd h22 a0 = 10 then (fX10_does a0 v21 h22).bind (fun x => (fun (v26 : Int32) (h25 : Mem) =>
         if v26 < 0 then
          nm (v20 + 0 : Int32) fun v29 =>
          nm (v21 + 1 : Int32) fun v30 =>
          k23 (v29, v30, h25)
         else
          nm (v20 + 1 : Int32) fun v27 =>
          nm (v21 + 1 : Int32) fun v28 =>
          k23 (v27, v28, h25)) x.1 x.2) else none) FU (0, 0, h18)) (fun k15 =>
     if v12 = v13 then
      k15 1
     else
      k15 0)) (fun k10 =>
    if v5 = 0 then
     k10 h6
    else
     if mKd h6 a0 = 10 then (fX10_here a0 h6).bind (fun x => (fun (v36 : Int32) (h35 : Mem) =>
      if v36 = 59 then
       if 12 ≤ (v4 + 1) then
        k10 h35
       else
        (gI 10 h35 a0 30).bind fun v37 =>
        (pI 10 h35 a0 30 (v37 + 1)).bind fun h38 =>
        nm (v4 + 1 : Int32) fun v39 =>
        if mKd h38 a0 = 10 then (fX10_readsClause a0 v39 h38).bind (fun x => (fun (v41 : Int32) (h40 : Mem) =>
         k7 (v39, v41, h40)) x.1 x.2) else none
      else
       k10 h35) x.1 x.2) else none)) FU (0, v3, h2)) x.1 x.2) else none
def fX10_of (a0 : Nat) (a1 : Int32) (h0 : Mem) : Option (Int32 × Mem) :=
 if mKd h0 a0 = 10 then (fX10_isNumber a0 a1 h0).bind (fun x => (fun (v2 : Int32) (h1 : Mem) =>
  if v2 = 0 then
   some (((-1) : Int32), h1)
  else
   (gR 10 h1 a0 1).bind fun v3 =>
   (xJ h1 v3 a1).bind fun v4 =>
   some ((v4.toInt32 + 100 : Int32), h1)) x.1 x.2) else none
def fX10_power (a0 : Int64) (a2 : Int32) (h0 : Mem) : Option (Int64 × Mem) :=
 lpF (fun k3 ((v1, v2) : Int64 × Int32) =>
  if a2 ≤ v2 then
   some ((v1 : Int64), h0)
  else
   nm (v1 * a0 : Int64) fun v5 =>
   nm (v2 + 1 : Int32) fun v6 =>
   k3 (v5, v6)) FU (1, 0)
def fX10_valueAt (a0 : Nat) (a1 : Int64) (a3 : Int64) (h0 : Mem) : Option (Int64 × Mem) :=
 lpF (fun k4 ((v1, v2, h3) : Int64 × Int32 × Mem) =>
  (gI 10 h3 a0 0).bind fun v6 =>
  if v6 < v2 then
   some ((v1 : Int64), h3)
  else
   (gR 10 h3 a0 1).bind fun v7 =>
   (xJ h3 v7 v2).bind fun v8 =>
   (gI 10 h3 a0 0).bind fun v9 =>
   (fX10_power a1 (v9 - v2) h3).bind (fun x => (fun (v11 : Int64) (h10 : Mem) =>
    (fX10_power a3 v2 h10).bind (fun x => (fun (v13 : Int64) (h12 : Mem) =>
     nm (v1 + ((v8 * v11) * v13) : Int64) fun v14 =>
     nm (v2 + 1 : Int32) fun v15 =>
     k4 (v14, v15, h12)) x.1 x.2)) x.1 x.2)) FU (0, 0, h0)
def fX10_tellsAnswers (a0 : Nat) (h0 : Mem) : Option (Unit × Mem) :=
 (pI 10 h0 a0 13 0).bind fun h1 =>
 (gI 10 h1 a0 3).bind fun v2 =>
 nm (-v2 : Int32) fun v3 =>
 lpF (fun k6 ((v4, h5) : Int32 × Mem) =>
  (gI 10 h5 a0 3).bind fun v8 =>
  if v8 < v4 then
   some ((), h5)
  else
   (gI 10 h5 a0 3).bind fun v9 =>
   nm (-v9 : Int32) fun v10 =>
   lpF (fun k13 ((v11, h12) : Int32 × Mem) =>
    (gI 10 h12 a0 3).bind fun v15 =>
    if v15 < v11 then
     nm (v4 + 1 : Int32) fun v30 =>
     k6 (v30, h12)
    else
     if mKd h12 a0 = 10 then (fX10_valueAt a0 v4.toInt64 v11.toInt64 h12).bind (fun x => (fun (v17 : Int64) (h16 : Mem) =>
      (gI 10 h16 a0 2).bind fun v18 =>
      if (lg_cmp v17 v18.toInt64) = 0 then
       (gR 10 h16 a0 12).bind fun v19 =>
       (gI 10 h16 a0 13).bind fun v20 =>
       (yI 11 h16 v19 (2 * v20) v4).bind fun h21 =>
       (gR 10 h21 a0 12).bind fun v22 =>
       (gI 10 h21 a0 13).bind fun v23 =>
       (yI 11 h21 v22 ((2 * v23) + 1) v11).bind fun h24 =>
       (gI 10 h24 a0 13).bind fun v25 =>
       (pI 10 h24 a0 13 (v25 + 1)).bind fun h26 =>
       nm (v11 + 1 : Int32) fun v27 =>
       k13 (v27, h26)
      else
       nm (v11 + 1 : Int32) fun v28 =>
       k13 (v28, h16)) x.1 x.2) else none) FU (v10, h5)) FU (v3, h1)
def fX10_tellsUnits (a0 : Nat) (h0 : Mem) : Option (Unit × Mem) :=
 (pI 10 h0 a0 15 0).bind fun h1 =>
 lpF (fun k4 ((v2, h3) : Int32 × Mem) =>
  if 625 ≤ v2 then
   some ((), h3)
  else
   if (125 : Int32) = 0 then none else
   nm ((v2 / 125) - 2 : Int32) fun v6 =>
   if (25 : Int32) = 0 then none else
   if (5 : Int32) = 0 then none else
   nm (((v2 / 25) - (v2 / 25) / 5 * 5) - 2 : Int32) fun v7 =>
   if (5 : Int32) = 0 then none else
   if (5 : Int32) = 0 then none else
   nm (((v2 / 5) - (v2 / 5) / 5 * 5) - 2 : Int32) fun v8 =>
   if (5 : Int32) = 0 then none else
   nm ((v2 - v2 / 5 * 5) - 2 : Int32) fun v9 =>
   jn (fun (_ : Unit) =>
    if mKd h3 a0 = 10 then (fX10_turns a0 v6.toInt64 v7.toInt64 v8.toInt64 v9.toInt64 h3).bind (fun x => (fun (_u : Unit) (h12 : Mem) =>
     lpF (fun k15 ((v13, v14) : Int32 × Int32) =>
      (gI 10 h12 a0 0).bind fun v17 =>
      if v17 < v14 then
       if v13 = 0 then
        nm (v2 + 1 : Int32) fun v42 =>
        k4 (v42, h12)
       else
        (gR 10 h12 a0 14).bind fun v27 =>
        (gI 10 h12 a0 15).bind fun v28 =>
        (yI 11 h12 v27 (4 * v28) v6).bind fun h29 =>
        (gR 10 h29 a0 14).bind fun v30 =>
        (gI 10 h29 a0 15).bind fun v31 =>
        (yI 11 h29 v30 ((4 * v31) + 1) v7).bind fun h32 =>
        (gR 10 h32 a0 14).bind fun v33 =>
        (gI 10 h32 a0 15).bind fun v34 =>
        (yI 11 h32 v33 ((4 * v34) + 2) v8).bind fun h35 =>
        (gR 10 h35 a0 14).bind fun v36 =>
        (gI 10 h35 a0 15).bind fun v37 =>
        (yI 11 h35 v36 ((4 * v37) + 3) v9).bind fun h38 =>
        (gI 10 h38 a0 15).bind fun v39 =>
        (pI 10 h38 a0 15 (v39 + 1)).bind fun h40 =>
        nm (v2 + 1 : Int32) fun v41 =>
        k4 (v41, h40)
      else
       (gR 10 h12 a0 10).bind fun v18 =>
       (xJ h12 v18 v14).bind fun v19 =>
       (gR 10 h12 a0 1).bind fun v20 =>
       (xJ h12 v20 v14).bind fun v21 =>
       if (lg_cmp v19 v21) = 0 then
        nm (v13 &&& 1 : Int32) fun v22 =>
        nm (v14 + 1 : Int32) fun v23 =>
        k15 (v22, v23)
       else
        nm (v13 &&& 0 : Int32) fun v24 =>
        nm (v14 + 1 : Int32) fun v25 =>
        k15 (v24, v25)) FU (1, 0)) x.1 x.2) else none) (fun k10 =>
    if ((v6 * v9) - (v7 * v8)) = 1 then
     k10 ()
    else
     if ((v6 * v9) - (v7 * v8)) = (-1) then
      k10 ()
     else
      nm (v2 + 1 : Int32) fun v45 =>
      k4 (v45, h3))) FU (0, h1)
def fX10_cell (a0 : Nat) (a1 : Int32) (a2 : Int32) (h0 : Mem) : Option (Int32 × Mem) :=
 (gI 10 h0 a0 3).bind fun v1 =>
 (gI 10 h0 a0 3).bind fun v2 =>
 (gI 10 h0 a0 3).bind fun v3 =>
 some (((((a1 + v1) * ((2 * v2) + 1)) + a2) + v3 : Int32), h0)
def fX10_leastOf (a0 : Nat) (a1 : Int32) (h0 : Mem) : Option (Int32 × Mem) :=
 lpF (fun k2 (v1 : Int32) =>
  (gR 10 h0 a0 17).bind fun v4 =>
  (xI 11 h0 v4 v1).bind fun v5 =>
  if v5 = v1 then
   some ((v1 : Int32), h0)
  else
   (gR 10 h0 a0 17).bind fun v6 =>
   (xI 11 h0 v6 v1).bind fun v7 =>
   k2 v7) FU a1
def fX10_links (a0 : Nat) (a1 : Int32) (a2 : Int32) (h0 : Mem) : Option (Unit × Mem) :=
 if mKd h0 a0 = 10 then (fX10_leastOf a0 a1 h0).bind (fun x => (fun (v2 : Int32) (h1 : Mem) =>
  if mKd h1 a0 = 10 then (fX10_leastOf a0 a2 h1).bind (fun x => (fun (v4 : Int32) (h3 : Mem) =>
   (gR 10 h3 a0 17).bind fun v5 =>
   if v2 ≤ v4 then
    if v2 ≤ v4 then
     (yI 11 h3 v5 v4 v2).bind fun h10 =>
     some ((), h10)
    else
     (yI 11 h3 v5 v4 v4).bind fun h9 =>
     some ((), h9)
   else
    if v2 ≤ v4 then
     (yI 11 h3 v5 v2 v2).bind fun h7 =>
     some ((), h7)
    else
     (yI 11 h3 v5 v2 v4).bind fun h6 =>
     some ((), h6)) x.1 x.2) else none) x.1 x.2) else none
def fX10_tellsFamilies (a0 : Nat) (h0 : Mem) : Option (Unit × Mem) :=
 if mKd h0 a0 = 10 then (fX10_tellsAnswers a0 h0).bind (fun x => (fun (_u : Unit) (h1 : Mem) =>
  if mKd h1 a0 = 10 then (fX10_tellsUnits a0 h1).bind (fun x => (fun (_u : Unit) (h2 : Mem) =>
   lpF (fun k5 ((v3, h4) : Int32 × Mem) =>
    if 6561 ≤ v3 then
     lpF (fun k12 ((v10, h11) : Int32 × Mem) =>
      (gI 10 h11 a0 13).bind fun v14 =>
      if v14 ≤ v10 then
       lpF (fun k28 ((v26, h27) : Int32 × Mem) =>
        (gI 10 h27 a0 13).bind fun v30 =>
        if v30 ≤ v26 then
         (pI 10 h27 a0 19 0).bind fun h74 =>
         lpF (fun k77 ((v75, h76) : Int32 × Mem) =>
          (gI 10 h76 a0 13).bind fun v79 =>
          if v79 ≤ v75 then
           some ((), h76)
          else
           (gR 10 h76 a0 17).bind fun v80 =>
           (xI 11 h76 v80 v75).bind fun v81 =>
           if v81 = v75 then
            (gR 10 h76 a0 18).bind fun v82 =>
            (gI 10 h76 a0 19).bind fun v83 =>
            (yI 11 h76 v82 v75 v83).bind fun h84 =>
            (gI 10 h84 a0 19).bind fun v85 =>
            (pI 10 h84 a0 19 (v85 + 1)).bind fun h86 =>
            nm (v75 + 1 : Int32) fun v87 =>
            k77 (v87, h86)
           else
            (gR 10 h76 a0 18).bind fun v88 =>
            (gR 10 h76 a0 18).bind fun v89 =>
            if mKd h76 a0 = 10 then (fX10_leastOf a0 v75 h76).bind (fun x => (fun (v91 : Int32) (h90 : Mem) =>
             (xI 11 h90 v89 v91).bind fun v92 =>
             (yI 11 h90 v88 v75 v92).bind fun h93 =>
             nm (v75 + 1 : Int32) fun v94 =>
             k77 (v94, h93)) x.1 x.2) else none) FU (0, h74)
        else
         lpF (fun k33 ((v31, h32) : Int32 × Mem) =>
          (gI 10 h32 a0 15).bind fun v35 =>
          if v35 ≤ v31 then
           nm (v26 + 1 : Int32) fun v72 =>
           k28 (v72, h32)
          else
           (gR 10 h32 a0 14).bind fun v36 =>
           (xI 11 h32 v36 (4 * v31)).bind fun v37 =>
           (gR 10 h32 a0 12).bind fun v38 =>
           (xI 11 h32 v38 (2 * v26)).bind fun v39 =>
           (gR 10 h32 a0 14).bind fun v40 =>
           (xI 11 h32 v40 ((4 * v31) + 1)).bind fun v41 =>
           (gR 10 h32 a0 12).bind fun v42 =>
           (xI 11 h32 v42 ((2 * v26) + 1)).bind fun v43 =>
           nm ((v37 * v39) + (v41 * v43) : Int32) fun v44 =>
           (gR 10 h32 a0 14).bind fun v45 =>
           (xI 11 h32 v45 ((4 * v31) + 2)).bind fun v46 =>
           (gR 10 h32 a0 12).bind fun v47 =>
           (xI 11 h32 v47 (2 * v26)).bind fun v48 =>
           (gR 10 h32 a0 14).bind fun v49 =>
           (xI 11 h32 v49 ((4 * v31) + 3)).bind fun v50 =>
           (gR 10 h32 a0 12).bind fun v51 =>
           (xI 11 h32 v51 ((2 * v26) + 1)).bind fun v52 =>
           nm ((v46 * v48) + (v50 * v52) : Int32) fun v53 =>
           (gI 10 h32 a0 3).bind fun v54 =>
           (gI 10 h32 a0 3).bind fun v55 =>
           (fX10_in v44.toInt64 ((-v54).toInt64) v55.toInt64 h32).bind (fun x => (fun (v57 : Int32) (h56 : Mem) =>
            if v57 = 0 then
             nm (v31 + 1 : Int32) fun v70 =>
             k33 (v70, h56)
            else
             (gI 10 h56 a0 3).bind fun v58 =>
             (gI 10 h56 a0 3).bind fun v59 =>
             (fX10_in v53.toInt64 ((-v58).toInt64) v59.toInt64 h56).bind (fun x => (fun (v61 : Int32) (h60 : Mem) =>
              if v61 = 0 then
               nm (v31 + 1 : Int32) fun v68 =>
               k33 (v68, h60)
              else
               (gR 10 h60 a0 16).bind fun v62 =>
               if mKd h60 a0 = 10 then (fX10_cell a0 v44 v53 h60).bind (fun x => (fun (v64 : Int32) (h63 : Mem) =>
                (xI 11 h63 v62 v64).bind fun v65 =>
                if mKd h63 a0 = 10 then (fX10_links a0 v26 v65 h63).bind (fun x => (fun (_u : Unit) (h66 : Mem) =>
                 nm (v31 + 1 : Int32) fun v67 =>
                 k33 (v67, h66)) x.1 x.2) else none) x.1 x.2) else none) x.1 x.2)) x.1 x.2)) FU (0, h27)) FU (0, h11)
      else
       (gR 10 h11 a0 16).bind fun v15 =>
       (gR 10 h11 a0 12).bind fun v16 =>
       (xI 11 h11 v16 (2 * v10)).bind fun v17 =>
       (gR 10 h11 a0 12).bind fun v18 =>
       (xI 11 h11 v18 ((2 * v10) + 1)).bind fun v19 =>
       if mKd h11 a0 = 10 then (fX10_cell a0 v17 v19 h11).bind (fun x => (fun (v21 : Int32) (h20 : Mem) =>
        (yI 11 h20 v15 v21 v10).bind fun h22 =>
        (gR 10 h22 a0 17).bind fun v23 =>
        (yI 11 h22 v23 v10 v10).bind fun h24 =>
        nm (v10 + 1 : Int32) fun v25 =>
        k12 (v25, h24)) x.1 x.2) else none) FU (0, h4)
    else
     (gR 10 h4 a0 16).bind fun v7 =>
     (yI 11 h4 v7 v3 (-1)).bind fun h8 =>
     nm (v3 + 1 : Int32) fun v9 =>
     k5 (v9, h8)) FU (0, h2)) x.1 x.2) else none) x.1 x.2) else none
def fX10_rowAt (a0 : Nat) (a1 : Int64) (h0 : Mem) : Option (Int64 × Mem) :=
 lpF (fun k3 ((v1, v2) : Int64 × Int32) =>
  (gI 10 h0 a0 0).bind fun v5 =>
  if v5 < v2 then
   some ((v1 : Int64), h0)
  else
   (gR 10 h0 a0 22).bind fun v6 =>
   (xJ h0 v6 v2).bind fun v7 =>
   nm ((v1 * a1) + v7 : Int64) fun v8 =>
   nm (v2 + 1 : Int32) fun v9 =>
   k3 (v8, v9)) FU (0, 0)
def fX10_greatest (a0 : Nat) (a1 : Int32) (h0 : Mem) : Option (Int32 × Mem) :=
 lpF (fun k3 ((v1, h2) : Int32 × Mem) =>
  if v1 < a1 then
   some (((-1) : Int32), h2)
  else
   if mKd h2 a0 = 10 then (fX10_rowAt a0 v1.toInt64 h2).bind (fun x => (fun (v6 : Int64) (h5 : Mem) =>
    if mKd h5 a0 = 10 then (fX10_rowAt a0 ((v1 + 1).toInt64) h5).bind (fun x => (fun (v8 : Int64) (h7 : Mem) =>
     if (lg_cmp v6 0) = 0 then
      some ((v1 : Int32), h7)
     else
      jn (fun (_ : Unit) =>
       if 0 ≤ (lg_cmp v6 0) then
        nm (v1 + (-1) : Int32) fun v13 =>
        k3 (v13, h7)
       else
        if (lg_cmp v8 0) ≤ 0 then
         nm (v1 + (-1) : Int32) fun v11 =>
         k3 (v11, h7)
        else
         some ((v1 : Int32), h7)) (fun k9 =>
       if (lg_cmp v6 0) ≤ 0 then
        k9 ()
       else
        if (lg_cmp v8 0) < 0 then
         some ((v1 : Int32), h7)
        else
         k9 ())) x.1 x.2) else none) x.1 x.2) else none) FU (99, h0)
def fX10_goesOn (a0 : Nat) (a1 : Int32) (h0 : Mem) : Option (Int32 × Mem) :=
 lpF (fun k3 ((v1, h2) : Int32 × Mem) =>
  (gI 10 h2 a0 0).bind fun v5 =>
  if v5 < v1 then
   lpF (fun k11 ((v9, h10) : Int32 × Mem) =>
    (gI 10 h10 a0 0).bind fun v13 =>
    if v13 < v9 then
     lpF (fun k36 ((v33, v34, h35) : Int32 × Int32 × Mem) =>
      (gI 10 h35 a0 0).bind fun v38 =>
      if v38 < v34 then
       if v33 = 0 ∨ v33 = 1 then some (v33, h35) else none
      else
       (gR 10 h35 a0 22).bind fun v39 =>
       (gR 10 h35 a0 23).bind fun v40 =>
       (xJ h35 v40 v34).bind fun v41 =>
       (yJ h35 v39 v34 v41).bind fun h42 =>
       (gR 10 h42 a0 22).bind fun v43 =>
       (xJ h42 v43 v34).bind fun v44 =>
       (fX10_in v44 (-1000000000) 1000000000 h42).bind (fun x => (fun (v46 : Int32) (h45 : Mem) =>
        nm (v33 &&& v46 : Int32) fun v47 =>
        nm (v34 + 1 : Int32) fun v48 =>
        k36 (v47, v48, h45)) x.1 x.2)) FU (1, 0, h10)
    else
     (gI 10 h10 a0 0).bind fun v14 =>
     lpF (fun k17 ((v15, h16) : Int32 × Mem) =>
      if v15 < 0 then
       nm (v9 + 1 : Int32) fun v31 =>
       k11 (v31, h16)
      else
       (gR 10 h16 a0 23).bind fun v19 =>
       (gR 10 h16 a0 23).bind fun v20 =>
       (xJ h16 v20 v15).bind fun v21 =>
       if v15 ≤ 0 then
        (gR 10 h16 a0 22).bind fun v26 =>
        (xJ h16 v26 v9).bind fun v27 =>
        (yJ h16 v19 v15 ((a1.toInt64 * v21) + v27)).bind fun h28 =>
        nm (v15 + (-1) : Int32) fun v29 =>
        k17 (v29, h28)
       else
        (gR 10 h16 a0 23).bind fun v22 =>
        (xJ h16 v22 (v15 - 1)).bind fun v23 =>
        (yJ h16 v19 v15 ((a1.toInt64 * v21) + v23)).bind fun h24 =>
        nm (v15 + (-1) : Int32) fun v25 =>
        k17 (v25, h24)) FU (v14, h10)) FU (0, h2)
  else
   (gR 10 h2 a0 23).bind fun v6 =>
   (yJ h2 v6 v1 0).bind fun h7 =>
   nm (v1 + 1 : Int32) fun v8 =>
   k3 (v8, h7)) FU (0, h0)
def fX10_tellsParts (a0 : Nat) (h0 : Mem) : Option (Unit × Mem) :=
 lpF (fun k3 ((v1, h2) : Int32 × Mem) =>
  (gI 10 h2 a0 0).bind fun v5 =>
  if v5 < v1 then
   (pI 10 h2 a0 25 0).bind fun h11 =>
   lpF (fun k14 ((v12, h13) : Int32 × Mem) =>
    if v12 = 0 then
     some ((), h13)
    else
     (gI 10 h13 a0 25).bind fun v16 =>
     if 8 ≤ v16 then
      some ((), h13)
     else
      (gI 10 h13 a0 25).bind fun v17 =>
      jn (fun (v18 : Int32) =>
       if mKd h13 a0 = 10 then (fX10_greatest a0 v18 h13).bind (fun x => (fun (v22 : Int32) (h21 : Mem) =>
        jn (fun (v23 : Int32) =>
         if v23 = 0 then
          k14 (v23, h21)
         else
          (gR 10 h21 a0 24).bind fun v26 =>
          (gI 10 h21 a0 25).bind fun v27 =>
          (yI 11 h21 v26 v27 v22).bind fun h28 =>
          (gI 10 h28 a0 25).bind fun v29 =>
          (pI 10 h28 a0 25 (v29 + 1)).bind fun h30 =>
          if mKd h30 a0 = 10 then (fX10_rowAt a0 v22.toInt64 h30).bind (fun x => (fun (v32 : Int64) (h31 : Mem) =>
           if (lg_cmp v32 0) = 0 then
            k14 (0, h31)
           else
            if mKd h31 a0 = 10 then (fX10_goesOn a0 v22 h31).bind (fun x => (fun (v34 : Int32) (h33 : Mem) =>
             if v34 = 0 then
              k14 (0, h33)
             else
              k14 (1, h33)) x.1 x.2) else none) x.1 x.2) else none) (fun k24 =>
         if v22 < 0 then
          k24 0
         else
          k24 1)) x.1 x.2) else none) (fun k19 =>
       if v17 = 0 then
        k19 0
       else
        k19 1)) FU (1, h11)
  else
   (gR 10 h2 a0 22).bind fun v6 =>
   (gR 10 h2 a0 1).bind fun v7 =>
   (xJ h2 v7 v1).bind fun v8 =>
   (yJ h2 v6 v1 v8).bind fun h9 =>
   nm (v1 + 1 : Int32) fun v10 =>
   k3 (v10, h9)) FU (0, h0)
def fX10_tellsConvergent (a0 : Nat) (a1 : Int32) (h0 : Mem) : Option (Unit × Mem) :=
 (pJ 10 h0 a0 26 1).bind fun h1 =>
 (pJ 10 h1 a0 27 0).bind fun h2 =>
 lpF (fun k7 ((v3, v4, v5, h6) : Int64 × Int64 × Int32 × Mem) =>
  if a1 < v5 then
   some ((), h6)
  else
   (gR 10 h6 a0 24).bind fun v9 =>
   (xI 11 h6 v9 v5).bind fun v10 =>
   (gJ 10 h6 a0 26).bind fun v11 =>
   nm ((v10.toInt64 * v11) + v3 : Int64) fun v12 =>
   (gR 10 h6 a0 24).bind fun v13 =>
   (xI 11 h6 v13 v5).bind fun v14 =>
   (gJ 10 h6 a0 27).bind fun v15 =>
   nm ((v14.toInt64 * v15) + v4 : Int64) fun v16 =>
   (gJ 10 h6 a0 26).bind fun v17 =>
   (gJ 10 h6 a0 27).bind fun v18 =>
   (pJ 10 h6 a0 26 v12).bind fun h19 =>
   (pJ 10 h19 a0 27 v16).bind fun h20 =>
   nm (v5 + 1 : Int32) fun v21 =>
   k7 (v17, v18, v21, h20)) FU (0, 1, 0, h2)
def fX10_answering (a0 : Nat) (h0 : Mem) : Option (Int32 × Mem) :=
 if mKd h0 a0 = 10 then (fX10_tellsParts a0 h0).bind (fun x => (fun (_u : Unit) (h1 : Mem) =>
  lpF (fun k5 ((v2, v3, h4) : Int32 × Int32 × Mem) =>
   (gI 10 h4 a0 25).bind fun v7 =>
   if v7 ≤ v3 then
    some ((v2 : Int32), h4)
   else
    if mKd h4 a0 = 10 then (fX10_tellsConvergent a0 v3 h4).bind (fun x => (fun (_u : Unit) (h8 : Mem) =>
     (gJ 10 h8 a0 26).bind fun v9 =>
     (gI 10 h8 a0 3).bind fun v10 =>
     (gI 10 h8 a0 3).bind fun v11 =>
     (fX10_in v9 ((-v10).toInt64) v11.toInt64 h8).bind (fun x => (fun (v13 : Int32) (h12 : Mem) =>
      if v13 = 0 then
       nm (v2 + 0 : Int32) fun v32 =>
       nm (v3 + 1 : Int32) fun v33 =>
       k5 (v32, v33, h12)
      else
       (gJ 10 h12 a0 27).bind fun v14 =>
       (gI 10 h12 a0 3).bind fun v15 =>
       (gI 10 h12 a0 3).bind fun v16 =>
       (fX10_in v14 ((-v15).toInt64) v16.toInt64 h12).bind (fun x => (fun (v18 : Int32) (h17 : Mem) =>
        if v18 = 0 then
         nm (v2 + 0 : Int32) fun v29 =>
         nm (v3 + 1 : Int32) fun v30 =>
         k5 (v29, v30, h17)
        else
         (gJ 10 h17 a0 26).bind fun v19 =>
         (gJ 10 h17 a0 27).bind fun v20 =>
         if mKd h17 a0 = 10 then (fX10_valueAt a0 v19 v20 h17).bind (fun x => (fun (v22 : Int64) (h21 : Mem) =>
          (gI 10 h21 a0 2).bind fun v23 =>
          if (lg_cmp v22 v23.toInt64) = 0 then
           nm (v2 + 1 : Int32) fun v24 =>
           nm (v3 + 1 : Int32) fun v25 =>
           k5 (v24, v25, h21)
          else
           nm (v2 + 0 : Int32) fun v26 =>
           nm (v3 + 1 : Int32) fun v27 =>
           k5 (v26, v27, h21)) x.1 x.2) else none) x.1 x.2)) x.1 x.2)) x.1 x.2) else none) FU (0, 0, h1)) x.1 x.2) else none
def fX10_told (a0 : Nat) (a1 : Int32) (h0 : Mem) : Option (Int32 × Mem) :=
 if a1 = 0 then
  (gI 10 h0 a0 0).bind fun v2 =>
  some ((v2 : Int32), h0)
 else if a1 = 1 then
  (gI 10 h0 a0 2).bind fun v4 =>
  some ((v4 + 10000 : Int32), h0)
 else if a1 = 2 then
  (gI 10 h0 a0 3).bind fun v6 =>
  some ((v6 : Int32), h0)
 else if a1 = 3 then
  if mKd h0 a0 = 10 then (fX10_tellsAnswers a0 h0).bind (fun x => (fun (_u : Unit) (h8 : Mem) =>
   (gI 10 h8 a0 13).bind fun v9 =>
   some ((v9 : Int32), h8)) x.1 x.2) else none
 else if a1 = 4 then
  if mKd h0 a0 = 10 then (fX10_tellsUnits a0 h0).bind (fun x => (fun (_u : Unit) (h11 : Mem) =>
   (gI 10 h11 a0 15).bind fun v12 =>
   some ((v12 : Int32), h11)) x.1 x.2) else none
 else if a1 = 5 then
  if mKd h0 a0 = 10 then (fX10_tellsFamilies a0 h0).bind (fun x => (fun (_u : Unit) (h14 : Mem) =>
   (gI 10 h14 a0 19).bind fun v15 =>
   some ((v15 : Int32), h14)) x.1 x.2) else none
 else if a1 = 6 then
  if mKd h0 a0 = 10 then (fX10_tellsParts a0 h0).bind (fun x => (fun (_u : Unit) (h17 : Mem) =>
   (gI 10 h17 a0 25).bind fun v18 =>
   some ((v18 : Int32), h17)) x.1 x.2) else none
 else if a1 = 7 then
  if mKd h0 a0 = 10 then (fX10_answering a0 h0).bind (fun x => (fun (v21 : Int32) (h20 : Mem) =>
   some ((v21 : Int32), h20)) x.1 x.2) else none
 else 
  some (((-1) : Int32), h0)
def fX10_value (a0 : Nat) (a1 : Int32) (a2 : Int32) (h0 : Mem) : Option (Int64 × Mem) :=
 (fX10_in a1.toInt64 (-999) 999 h0).bind (fun x => (fun (v2 : Int32) (h1 : Mem) =>
  if v2 = 0 then
   some (((-9223372036854775808) : Int64), h1)
  else
   (fX10_in a2.toInt64 (-999) 999 h1).bind (fun x => (fun (v4 : Int32) (h3 : Mem) =>
    if v4 = 0 then
     some (((-9223372036854775808) : Int64), h3)
    else
     if mKd h3 a0 = 10 then (fX10_valueAt a0 a1.toInt64 a2.toInt64 h3).bind (fun x => (fun (v6 : Int64) (h5 : Mem) =>
      some ((v6 : Int64), h5)) x.1 x.2) else none) x.1 x.2)) x.1 x.2)
def fX10_answer (a0 : Nat) (a1 : Int32) (a2 : Int32) (h0 : Mem) : Option (Int32 × Mem) :=
 if a1 < 0 then
  some (((-1) : Int32), h0)
 else
  (fX10_in a2.toInt64 0 2 h0).bind (fun x => (fun (v2 : Int32) (h1 : Mem) =>
   if v2 = 0 then
    some (((-1) : Int32), h1)
   else
    if mKd h1 a0 = 10 then (fX10_tellsFamilies a0 h1).bind (fun x => (fun (_u : Unit) (h3 : Mem) =>
     (gI 10 h3 a0 13).bind fun v4 =>
     if a1 < v4 then
      if a2 = 2 then
       (gR 10 h3 a0 18).bind fun v5 =>
       (xI 11 h3 v5 a1).bind fun v6 =>
       some ((v6 : Int32), h3)
      else
       (gR 10 h3 a0 12).bind fun v7 =>
       (xI 11 h3 v7 ((2 * a1) + a2)).bind fun v8 =>
       some ((v8 + 100 : Int32), h3)
     else
      some (((-5) : Int32), h3)) x.1 x.2) else none) x.1 x.2)
def fX10_remainders (a0 : Nat) (a1 : Int32) (h0 : Mem) : Option (Int32 × Mem) :=
 lpF (fun k3 ((v1, h2) : Int32 × Mem) =>
  if 13 ≤ v1 then
   lpF (fun k10 ((v8, h9) : Int32 × Mem) =>
    if a1 ≤ v8 then
     lpF (fun k25 ((v23, v24) : Int32 × Int32) =>
      if 13 ≤ v24 then
       some ((v23 : Int32), h9)
      else
       (gR 10 h9 a0 21).bind fun v27 =>
       (xI 13 h9 v27 v24).bind fun v28 =>
       if v28 = 0 then
        nm (v23 + 0 : Int32) fun v31 =>
        nm (v24 + 1 : Int32) fun v32 =>
        k25 (v31, v32)
       else
        nm (v23 + 1 : Int32) fun v29 =>
        nm (v24 + 1 : Int32) fun v30 =>
        k25 (v29, v30)) FU (0, 0)
    else
     lpF (fun k14 ((v12, h13) : Int32 × Mem) =>
      if a1 ≤ v12 then
       nm (v8 + 1 : Int32) fun v21 =>
       k10 (v21, h13)
      else
       (gR 10 h13 a0 21).bind fun v16 =>
       if mKd h13 a0 = 10 then (fX10_valueAt a0 v8.toInt64 v12.toInt64 h13).bind (fun x => (fun (v18 : Int64) (h17 : Mem) =>
        if a1.toInt64 = 0 then none else
        if a1.toInt64 = 0 then none else
        (yI 13 h17 v16 ((((v18 - v18 / a1.toInt64 * a1.toInt64) + a1.toInt64) - ((v18 - v18 / a1.toInt64 * a1.toInt64) + a1.toInt64) / a1.toInt64 * a1.toInt64).toInt32) 1).bind fun h19 =>
        nm (v12 + 1 : Int32) fun v20 =>
        k14 (v20, h19)) x.1 x.2) else none) FU (0, h9)) FU (0, h2)
  else
   (gR 10 h2 a0 21).bind fun v5 =>
   (yI 13 h2 v5 v1 0).bind fun h6 =>
   nm (v1 + 1 : Int32) fun v7 =>
   k3 (v7, h6)) FU (0, h0)
def fX10_bars (a0 : Nat) (a1 : Int32) (h0 : Mem) : Option (Int32 × Mem) :=
 if mKd h0 a0 = 10 then (fX10_remainders a0 a1 h0).bind (fun x => (fun (v2 : Int32) (h1 : Mem) =>
  (gR 10 h1 a0 21).bind fun v3 =>
  (gI 10 h1 a0 2).bind fun v4 =>
  if a1 = 0 then none else
  if a1 = 0 then none else
  (xI 13 h1 v3 (((v4 - v4 / a1 * a1) + a1) - ((v4 - v4 / a1 * a1) + a1) / a1 * a1)).bind fun v5 =>
  if v5 = 0 then
   some ((1 : Int32), h1)
  else
   some ((0 : Int32), h1)) x.1 x.2) else none
def fX10_prime (a0 : Nat) (a1 : Int32) (a2 : Int32) (h0 : Mem) : Option (Int32 × Mem) :=
 (fX10_in a1.toInt64 0 5 h0).bind (fun x => (fun (v2 : Int32) (h1 : Mem) =>
  if v2 = 0 then
   some (((-1) : Int32), h1)
  else
   (fX10_in a2.toInt64 0 2 h1).bind (fun x => (fun (v4 : Int32) (h3 : Mem) =>
    if v4 = 0 then
     some (((-1) : Int32), h3)
    else
     (gR 10 h3 a0 20).bind fun v5 =>
     (xI 11 h3 v5 a1).bind fun v6 =>
     if a2 = 0 then
      some ((v6 : Int32), h3)
     else
      if a2 = 1 then
       if mKd h3 a0 = 10 then (fX10_remainders a0 v6 h3).bind (fun x => (fun (v8 : Int32) (h7 : Mem) =>
        some ((v8 : Int32), h7)) x.1 x.2) else none
      else
       if mKd h3 a0 = 10 then (fX10_bars a0 v6 h3).bind (fun x => (fun (v10 : Int32) (h9 : Mem) =>
        if v10 = 0 then
         some ((0 : Int32), h9)
        else
         some ((1 : Int32), h9)) x.1 x.2) else none) x.1 x.2)) x.1 x.2)
def fX10_firstBar (a0 : Nat) (h0 : Mem) : Option (Int32 × Mem) :=
 lpF (fun k3 ((v1, h2) : Int32 × Mem) =>
  if 6 ≤ v1 then
   some (((-5) : Int32), h2)
  else
   (gR 10 h2 a0 20).bind fun v5 =>
   (xI 11 h2 v5 v1).bind fun v6 =>
   if mKd h2 a0 = 10 then (fX10_bars a0 v6 h2).bind (fun x => (fun (v8 : Int32) (h7 : Mem) =>
    if v8 = 0 then
     nm (v1 + 1 : Int32) fun v11 =>
     k3 (v11, h7)
    else
     (gR 10 h7 a0 20).bind fun v9 =>
     (xI 11 h7 v9 v1).bind fun v10 =>
     some ((v10 : Int32), h7)) x.1 x.2) else none) FU (0, h0)
def fX10_reason (a0 : Nat) (a1 : Int32) (h0 : Mem) : Option (Int32 × Mem) :=
 if 0 ≤ a1 then
  if mKd h0 a0 = 10 then (fX10_tellsAnswers a0 h0).bind (fun x => (fun (_u : Unit) (h1 : Mem) =>
   if mKd h1 a0 = 10 then (fX10_firstBar a0 h1).bind (fun x => (fun (v3 : Int32) (h2 : Mem) =>
    (gI 10 h2 a0 13).bind fun v4 =>
    if 0 < v4 then
     some (((-5) : Int32), h2)
    else
     if 2 < a1 then
      some (((-5) : Int32), h2)
     else
      jn (fun (_ : Unit) =>
       if a1 = 0 then
        (gI 10 h2 a0 3).bind fun v7 =>
        some ((v7 : Int32), h2)
       else
        if a1 = 1 then
         some ((v3 : Int32), h2)
        else
         if mKd h2 a0 = 10 then (fX10_remainders a0 v3 h2).bind (fun x => (fun (v9 : Int32) (h8 : Mem) =>
          some ((v9 : Int32), h8)) x.1 x.2) else none) (fun k5 =>
       if a1 ≤ 0 then
        k5 ()
       else
        if v3 = (-5) then
         some (((-5) : Int32), h2)
        else
         k5 ())) x.1 x.2) else none) x.1 x.2) else none
 else
  some (((-1) : Int32), h0)
def fX10_unit (a0 : Nat) (a1 : Int32) (a2 : Int32) (h0 : Mem) : Option (Int32 × Mem) :=
 if a1 < 0 then
  some (((-1) : Int32), h0)
 else
  (fX10_in a2.toInt64 0 3 h0).bind (fun x => (fun (v2 : Int32) (h1 : Mem) =>
   if v2 = 0 then
    some (((-1) : Int32), h1)
   else
    if mKd h1 a0 = 10 then (fX10_tellsUnits a0 h1).bind (fun x => (fun (_u : Unit) (h3 : Mem) =>
     (gI 10 h3 a0 15).bind fun v4 =>
     if v4 ≤ a1 then
      some (((-5) : Int32), h3)
     else
      (gR 10 h3 a0 14).bind fun v5 =>
      (xI 11 h3 v5 ((4 * a1) + a2)).bind fun v6 =>
      some ((v6 + 10 : Int32), h3)) x.1 x.2) else none) x.1 x.2)
def fX10_family (a0 : Nat) (a1 : Int32) (h0 : Mem) : Option (Int32 × Mem) :=
 if 0 ≤ a1 then
  if mKd h0 a0 = 10 then (fX10_tellsFamilies a0 h0).bind (fun x => (fun (_u : Unit) (h1 : Mem) =>
   (gI 10 h1 a0 19).bind fun v2 =>
   if a1 < v2 then
    lpF (fun k5 ((v3, v4) : Int32 × Int32) =>
     (gI 10 h1 a0 13).bind fun v7 =>
     if v7 ≤ v4 then
      some ((v3 : Int32), h1)
     else
      (gR 10 h1 a0 18).bind fun v8 =>
      (xI 11 h1 v8 v4).bind fun v9 =>
      if v9 = a1 then
       nm (v3 + 1 : Int32) fun v10 =>
       nm (v4 + 1 : Int32) fun v11 =>
       k5 (v10, v11)
      else
       nm (v3 + 0 : Int32) fun v12 =>
       nm (v4 + 1 : Int32) fun v13 =>
       k5 (v12, v13)) FU (0, 0)
   else
    some (((-5) : Int32), h1)) x.1 x.2) else none
 else
  some (((-1) : Int32), h0)
def fX10_part (a0 : Nat) (a1 : Int32) (h0 : Mem) : Option (Int32 × Mem) :=
 if 0 ≤ a1 then
  if mKd h0 a0 = 10 then (fX10_tellsParts a0 h0).bind (fun x => (fun (_u : Unit) (h1 : Mem) =>
   (gI 10 h1 a0 25).bind fun v2 =>
   if v2 ≤ a1 then
    some (((-5) : Int32), h1)
   else
    (gR 10 h1 a0 24).bind fun v3 =>
    (xI 11 h1 v3 a1).bind fun v4 =>
    some ((v4 : Int32), h1)) x.1 x.2) else none
 else
  some (((-1) : Int32), h0)
def fX10_convergent (a0 : Nat) (a1 : Int32) (a2 : Int32) (h0 : Mem) : Option (Int64 × Mem) :=
 if a1 < 0 then
  some (((-9223372036854775808) : Int64), h0)
 else
  (fX10_in a2.toInt64 0 1 h0).bind (fun x => (fun (v2 : Int32) (h1 : Mem) =>
   if v2 = 0 then
    some (((-9223372036854775808) : Int64), h1)
   else
    if mKd h1 a0 = 10 then (fX10_tellsParts a0 h1).bind (fun x => (fun (_u : Unit) (h3 : Mem) =>
     (gI 10 h3 a0 25).bind fun v4 =>
     if a1 < v4 then
      if mKd h3 a0 = 10 then (fX10_tellsConvergent a0 a1 h3).bind (fun x => (fun (_u : Unit) (h5 : Mem) =>
       if a2 = 0 then
        (gJ 10 h5 a0 26).bind fun v6 =>
        some ((v6 : Int64), h5)
       else
        (gJ 10 h5 a0 27).bind fun v7 =>
        some ((v7 : Int64), h5)) x.1 x.2) else none
     else
      some (((-9223372036854775808) : Int64), h3)) x.1 x.2) else none) x.1 x.2)
def fX10_see (a0 : Nat) (a1 : Int32) (a2 : Int32) (a3 : Int32) (h0 : Mem) : Option (Int32 × Mem) :=
 if a1 = (-100) then
  (pI 10 h0 a0 5 0).bind fun h1 =>
  some ((0 : Int32), h1)
 else
  (fX10_in a1.toInt64 (-9) 9 h0).bind (fun x => (fun (v3 : Int32) (h2 : Mem) =>
   if v3 = 0 then
    some (((-2) : Int32), h2)
   else
    (fX10_in a2.toInt64 (-9) 9 h2).bind (fun x => (fun (v5 : Int32) (h4 : Mem) =>
     if v5 = 0 then
      some (((-2) : Int32), h4)
     else
      (fX10_in a3.toInt64 (-9999) 9999 h4).bind (fun x => (fun (v7 : Int32) (h6 : Mem) =>
       if v7 = 0 then
        some (((-2) : Int32), h6)
       else
        (gI 10 h6 a0 5).bind fun v8 =>
        if v8 = 4 then
         some (((-4) : Int32), h6)
        else
         (gR 10 h6 a0 4).bind fun v9 =>
         (gI 10 h6 a0 5).bind fun v10 =>
         (yI 11 h6 v9 (3 * v10) a1).bind fun h11 =>
         (gR 10 h11 a0 4).bind fun v12 =>
         (gI 10 h11 a0 5).bind fun v13 =>
         (yI 11 h11 v12 ((3 * v13) + 1) a2).bind fun h14 =>
         (gR 10 h14 a0 4).bind fun v15 =>
         (gI 10 h14 a0 5).bind fun v16 =>
         (yI 11 h14 v15 ((3 * v16) + 2) a3).bind fun h17 =>
         (gI 10 h17 a0 5).bind fun v18 =>
         (pI 10 h17 a0 5 (v18 + 1)).bind fun h19 =>
         (gI 10 h19 a0 5).bind fun v20 =>
         some ((v20 : Int32), h19)) x.1 x.2)) x.1 x.2)) x.1 x.2)
def fX10_fits (a0 : Nat) (a1 : Int32) (a2 : Int32) (h0 : Mem) : Option (Int32 × Mem) :=
 if mKd h0 a0 = 10 then (fX10_isNumber a0 a1 h0).bind (fun x => (fun (v2 : Int32) (h1 : Mem) =>
  if v2 = 0 then
   some (((-1) : Int32), h1)
  else
   (fX10_in a2.toInt64 0 1 h1).bind (fun x => (fun (v4 : Int32) (h3 : Mem) =>
    if v4 = 0 then
     some (((-1) : Int32), h3)
    else
     (gR 10 h3 a0 1).bind fun v5 =>
     (xJ h3 v5 a1).bind fun v6 =>
     lpF (fun k11 ((v7, v8, v9, h10) : Int32 × Int32 × Int32 × Mem) =>
      if v9 < (-99) then
       (gR 10 h10 a0 1).bind fun v44 =>
       (yJ h10 v44 a1 v6).bind fun h45 =>
       if a2 = 0 then
        some ((v7 : Int32), h45)
       else
        some ((v8 : Int32), h45)
      else
       (gR 10 h10 a0 1).bind fun v13 =>
       (yJ h10 v13 a1 v9.toInt64).bind fun h14 =>
       lpF (fun k18 ((v15, v16, h17) : Int32 × Int32 × Mem) =>
        (gI 10 h17 a0 5).bind fun v20 =>
        if v20 ≤ v16 then
         jn (fun (v34 : Int32) =>
          nm (v7 + v34 : Int32) fun v37 =>
          if v15 = 0 then
           nm (v9 + (-1) : Int32) fun v40 =>
           k11 (v37, v8, v40, h17)
          else
           nm (v9 + 100 : Int32) fun v38 =>
           nm (v9 + (-1) : Int32) fun v39 =>
           k11 (v37, v38, v39, h17)) (fun k35 =>
          if v15 = 0 then
           k35 0
          else
           k35 1)
        else
         (gR 10 h17 a0 4).bind fun v21 =>
         (xI 11 h17 v21 (3 * v16)).bind fun v22 =>
         (gR 10 h17 a0 4).bind fun v23 =>
         (xI 11 h17 v23 ((3 * v16) + 1)).bind fun v24 =>
         if mKd h17 a0 = 10 then (fX10_valueAt a0 v22.toInt64 v24.toInt64 h17).bind (fun x => (fun (v26 : Int64) (h25 : Mem) =>
          (gR 10 h25 a0 4).bind fun v27 =>
          (xI 11 h25 v27 ((3 * v16) + 2)).bind fun v28 =>
          if (lg_cmp v26 v28.toInt64) = 0 then
           nm (v15 &&& 1 : Int32) fun v29 =>
           nm (v16 + 1 : Int32) fun v30 =>
           k18 (v29, v30, h25)
          else
           nm (v15 &&& 0 : Int32) fun v31 =>
           nm (v16 + 1 : Int32) fun v32 =>
           k18 (v31, v32, h25)) x.1 x.2) else none) FU (1, 0, h14)) FU (0, 0, 99, h3)) x.1 x.2)) x.1 x.2) else none
def fX10_lowest (a0 : Int64) (a2 : Int64) (a4 : Int32) (h0 : Mem) : Option (Int64 × Mem) :=
 jn (fun (v1 : Int64) =>
  lpF (fun k6 ((v4, v5) : Int64 × Int64) =>
   if (lg_cmp v5 0) = 0 then
    if a4 = 0 then
     if v4 = 0 then none else
     some ((a0 / v4 : Int64), h0)
    else
     if v4 = 0 then none else
     some ((a2 / v4 : Int64), h0)
   else
    if v5 = 0 then none else
    nm (v4 - v4 / v5 * v5 : Int64) fun v8 =>
    k6 (v5, v8)) FU (v1, a2)) (fun k2 =>
  if 0 ≤ (lg_cmp a0 0) then
   k2 a0
  else
   k2 (-a0))
def fX10_odds (a0 : Nat) (a1 : Int32) (h0 : Mem) : Option (Int64 × Mem) :=
 (fX10_in a1.toInt64 0 1 h0).bind (fun x => (fun (v2 : Int32) (h1 : Mem) =>
  if v2 = 0 then
   some (((-9223372036854775808) : Int64), h1)
  else
   (gI 10 h1 a0 3).bind fun v3 =>
   nm (-v3 : Int32) fun v4 =>
   lpF (fun k8 ((v5, v6, h7) : Int64 × Int32 × Mem) =>
    (gI 10 h7 a0 3).bind fun v10 =>
    if v10 < v6 then
     (gI 10 h7 a0 3).bind fun v29 =>
     (gI 10 h7 a0 3).bind fun v30 =>
     (fX10_lowest v5 (((2 * v29.toInt64) + 1) * ((2 * v30.toInt64) + 1)) a1 h7).bind (fun x => (fun (v32 : Int64) (h31 : Mem) =>
      some ((v32 : Int64), h31)) x.1 x.2)
    else
     (gI 10 h7 a0 3).bind fun v11 =>
     nm (-v11 : Int32) fun v12 =>
     lpF (fun k16 ((v13, v14, h15) : Int64 × Int32 × Mem) =>
      (gI 10 h15 a0 3).bind fun v18 =>
      if v18 < v14 then
       nm (v6 + 1 : Int32) fun v27 =>
       k8 (v13, v27, h15)
      else
       if mKd h15 a0 = 10 then (fX10_valueAt a0 v6.toInt64 v14.toInt64 h15).bind (fun x => (fun (v20 : Int64) (h19 : Mem) =>
        (gI 10 h19 a0 2).bind fun v21 =>
        if (lg_cmp v20 v21.toInt64) ≤ 0 then
         nm (v13 + 0 : Int64) fun v24 =>
         nm (v14 + 1 : Int32) fun v25 =>
         k16 (v24, v25, h19)
        else
         nm (v13 + 1 : Int64) fun v22 =>
         nm (v14 + 1 : Int32) fun v23 =>
         k16 (v22, v23, h19)) x.1 x.2) else none) FU (v5, v12, h7)) FU (0, v4, h1)) x.1 x.2)
def fX10_mean (a0 : Nat) (a1 : Int32) (h0 : Mem) : Option (Int64 × Mem) :=
 (fX10_in a1.toInt64 0 1 h0).bind (fun x => (fun (v2 : Int32) (h1 : Mem) =>
  if v2 = 0 then
   some (((-9223372036854775808) : Int64), h1)
  else
   (gI 10 h1 a0 3).bind fun v3 =>
   nm (-v3 : Int32) fun v4 =>
   lpF (fun k8 ((v5, v6, h7) : Int64 × Int32 × Mem) =>
    (gI 10 h7 a0 3).bind fun v10 =>
    if v10 < v6 then
     (gI 10 h7 a0 3).bind fun v25 =>
     (gI 10 h7 a0 3).bind fun v26 =>
     (fX10_lowest v5 (((2 * v25.toInt64) + 1) * ((2 * v26.toInt64) + 1)) a1 h7).bind (fun x => (fun (v28 : Int64) (h27 : Mem) =>
      some ((v28 : Int64), h27)) x.1 x.2)
    else
     (gI 10 h7 a0 3).bind fun v11 =>
     nm (-v11 : Int32) fun v12 =>
     lpF (fun k16 ((v13, v14, h15) : Int64 × Int32 × Mem) =>
      (gI 10 h15 a0 3).bind fun v18 =>
      if v18 < v14 then
       nm (v6 + 1 : Int32) fun v23 =>
       k8 (v13, v23, h15)
      else
       if mKd h15 a0 = 10 then (fX10_valueAt a0 v6.toInt64 v14.toInt64 h15).bind (fun x => (fun (v20 : Int64) (h19 : Mem) =>
        nm (v13 + v20 : Int64) fun v21 =>
        nm (v14 + 1 : Int32) fun v22 =>
        k16 (v21, v22, h19)) x.1 x.2) else none) FU (v5, v12, h7)) FU (0, v4, h1)) x.1 x.2)
def fX10_event (a0 : Nat) (a1 : Int32) (a2 : Int32) (h0 : Mem) : Option (Int32 × Mem) :=
 if a1 = (-1) then
  (pI 10 h0 a0 7 0).bind fun h1 =>
  some ((0 : Int32), h1)
 else
  (fX10_in a1.toInt64 0 2 h0).bind (fun x => (fun (v3 : Int32) (h2 : Mem) =>
   if v3 = 0 then
    some (((-1) : Int32), h2)
   else
    jn (fun (h4 : Mem) =>
     jn (fun (h7 : Mem) =>
      jn (fun (h10 : Mem) =>
       (gI 10 h10 a0 7).bind fun v13 =>
       if v13 = 8 then
        some (((-4) : Int32), h10)
       else
        (gR 10 h10 a0 6).bind fun v14 =>
        (gI 10 h10 a0 7).bind fun v15 =>
        (yI 11 h10 v14 (2 * v15) a1).bind fun h16 =>
        (gR 10 h16 a0 6).bind fun v17 =>
        (gI 10 h16 a0 7).bind fun v18 =>
        (yI 11 h16 v17 ((2 * v18) + 1) a2).bind fun h19 =>
        (gI 10 h19 a0 7).bind fun v20 =>
        (pI 10 h19 a0 7 (v20 + 1)).bind fun h21 =>
        (gI 10 h21 a0 7).bind fun v22 =>
        some ((v22 : Int32), h21)) (fun k11 =>
       if a1 = 2 then
        (fX10_in a2.toInt64 (-99) 99 h7).bind (fun x => (fun (v25 : Int32) (h24 : Mem) =>
         if v25 = 0 then
          some (((-2) : Int32), h24)
         else
          k11 h24) x.1 x.2)
       else
        k11 h7)) (fun k8 =>
      if a1 = 1 then
       (fX10_in a2.toInt64 0 4 h4).bind (fun x => (fun (v29 : Int32) (h28 : Mem) =>
        if v29 = 0 then
         some (((-1) : Int32), h28)
        else
         k8 h28) x.1 x.2)
      else
       k8 h4)) (fun k5 =>
     if a1 = 0 then
      if mKd h2 a0 = 10 then (fX10_isNumber a0 a2 h2).bind (fun x => (fun (v33 : Int32) (h32 : Mem) =>
       if v33 = 0 then
        some (((-1) : Int32), h32)
       else
        k5 h32) x.1 x.2) else none
     else
      k5 h2)) x.1 x.2)
def fX10_happens (a0 : Nat) (a1 : Int32) (a2 : Int32) (h0 : Mem) : Option (Unit × Mem) :=
 jn (fun (h1 : Mem) =>
  jn (fun (h4 : Mem) =>
   if a1 = 2 then
    (gI 10 h4 a0 2).bind fun v7 =>
    (fX10_in ((v7 + a2).toInt64) (-9999) 9999 h4).bind (fun x => (fun (v9 : Int32) (h8 : Mem) =>
     if v9 = 0 then
      some ((), h8)
     else
      (gI 10 h8 a0 2).bind fun v10 =>
      (pI 10 h8 a0 2 (v10 + a2)).bind fun h11 =>
      some ((), h11)) x.1 x.2)
   else
    some ((), h4)) (fun k5 =>
   if a1 = 1 then
    if mKd h1 a0 = 10 then (fX10_moves a0 a2 h1).bind (fun x => (fun (v15 : Int32) (h14 : Mem) =>
     k5 h14) x.1 x.2) else none
   else
    k5 h1)) (fun k2 =>
  if a1 = 0 then
   if mKd h0 a0 = 10 then (fX10_isNumber a0 a2 h0).bind (fun x => (fun (v18 : Int32) (h17 : Mem) =>
    if v18 = 0 then
     k2 h17
    else
     (gR 10 h17 a0 1).bind fun v19 =>
     (gR 10 h17 a0 1).bind fun v20 =>
     (xJ h17 v20 a2).bind fun v21 =>
     (fJ9_min_f86c9 99 (v21 + 1) h17).bind (fun x => (fun (v23 : Int64) (h22 : Mem) =>
      (yJ h22 v19 a2 v23).bind fun h24 =>
      k2 h24) x.1 x.2)) x.1 x.2) else none
  else
   k2 h0)
def fX10_after (a0 : Nat) (a1 : Int32) (h0 : Mem) : Option (Int32 × Mem) :=
 (fX10_in a1.toInt64 0 2 h0).bind (fun x => (fun (v2 : Int32) (h1 : Mem) =>
  if v2 = 0 then
   some (((-1) : Int32), h1)
  else
   (gI 10 h1 a0 2).bind fun v3 =>
   lpF (fun k6 ((v4, h5) : Int32 × Mem) =>
    if 5 ≤ v4 then
     lpF (fun k15 ((v13, h14) : Int32 × Mem) =>
      (gI 10 h14 a0 7).bind fun v17 =>
      if v17 ≤ v13 then
       jn (fun (v24 : Int32) =>
        if mKd h14 a0 = 10 then (fX10_told a0 v24 h14).bind (fun x => (fun (v28 : Int32) (h27 : Mem) =>
         if mKd h27 a0 = 10 then (fX10_firstBar a0 h27).bind (fun x => (fun (v30 : Int32) (h29 : Mem) =>
          (pI 10 h29 a0 2 v3).bind fun h31 =>
          lpF (fun k34 ((v32, h33) : Int32 × Mem) =>
           if 5 ≤ v32 then
            if a1 = 1 then
             some ((v30 : Int32), h33)
            else
             some ((v28 : Int32), h33)
           else
            (gR 10 h33 a0 1).bind fun v36 =>
            (gR 10 h33 a0 32).bind fun v37 =>
            (xJ h33 v37 v32).bind fun v38 =>
            (yJ h33 v36 v32 v38).bind fun h39 =>
            nm (v32 + 1 : Int32) fun v40 =>
            k34 (v40, h39)) FU (0, h31)) x.1 x.2) else none) x.1 x.2) else none) (fun k25 =>
        if a1 = 0 then
         k25 3
        else
         k25 4)
      else
       (gR 10 h14 a0 6).bind fun v18 =>
       (xI 11 h14 v18 (2 * v13)).bind fun v19 =>
       (gR 10 h14 a0 6).bind fun v20 =>
       (xI 11 h14 v20 ((2 * v13) + 1)).bind fun v21 =>
       if mKd h14 a0 = 10 then (fX10_happens a0 v19 v21 h14).bind (fun x => (fun (_u : Unit) (h22 : Mem) =>
        nm (v13 + 1 : Int32) fun v23 =>
        k15 (v23, h22)) x.1 x.2) else none) FU (0, h5)
    else
     (gR 10 h5 a0 32).bind fun v8 =>
     (gR 10 h5 a0 1).bind fun v9 =>
     (xJ h5 v9 v4).bind fun v10 =>
     (yJ h5 v8 v4 v10).bind fun h11 =>
     nm (v4 + 1 : Int32) fun v12 =>
     k6 (v12, h11)) FU (0, h1)) x.1 x.2)
def fX10_book (a0 : Nat) (a1 : Int32) (a2 : Int32) (h0 : Mem) : Option (Int32 × Mem) :=
 if a1 = (-1) then
  (pI 10 h0 a0 9 0).bind fun h1 =>
  some ((0 : Int32), h1)
 else
  if mKd h0 a0 = 10 then (fX10_isNumber a0 a1 h0).bind (fun x => (fun (v3 : Int32) (h2 : Mem) =>
   if v3 = 0 then
    some (((-1) : Int32), h2)
   else
    (fX10_in a2.toInt64 (-99) 99 h2).bind (fun x => (fun (v5 : Int32) (h4 : Mem) =>
     if v5 = 0 then
      some (((-2) : Int32), h4)
     else
      (gI 10 h4 a0 9).bind fun v6 =>
      if v6 = 8 then
       some (((-4) : Int32), h4)
      else
       (gR 10 h4 a0 8).bind fun v7 =>
       (gI 10 h4 a0 9).bind fun v8 =>
       (yI 11 h4 v7 (2 * v8) a1).bind fun h9 =>
       (gR 10 h9 a0 8).bind fun v10 =>
       (gI 10 h9 a0 9).bind fun v11 =>
       (yI 11 h9 v10 ((2 * v11) + 1) a2).bind fun h12 =>
       (gI 10 h12 a0 9).bind fun v13 =>
       (pI 10 h12 a0 9 (v13 + 1)).bind fun h14 =>
       (gI 10 h14 a0 9).bind fun v15 =>
       some ((v15 : Int32), h14)) x.1 x.2)) x.1 x.2) else none
def fX10_looked (a0 : Nat) (h0 : Mem) : Option (Int32 × Mem) :=
 lpF (fun k3 ((v1, h2) : Int32 × Mem) =>
  (gI 10 h2 a0 9).bind fun v5 =>
  if v5 ≤ v1 then
   some (((-5) : Int32), h2)
  else
   (gR 10 h2 a0 8).bind fun v6 =>
   (xI 11 h2 v6 (2 * v1)).bind fun v7 =>
   if mKd h2 a0 = 10 then (fX10_isNumber a0 v7 h2).bind (fun x => (fun (v9 : Int32) (h8 : Mem) =>
    if v9 = 0 then
     some ((v1 : Int32), h8)
    else
     (gR 10 h8 a0 1).bind fun v10 =>
     (gR 10 h8 a0 8).bind fun v11 =>
     (xI 11 h8 v11 (2 * v1)).bind fun v12 =>
     (xJ h8 v10 v12).bind fun v13 =>
     (gR 10 h8 a0 8).bind fun v14 =>
     (xI 11 h8 v14 ((2 * v1) + 1)).bind fun v15 =>
     if (lg_cmp v13 v15.toInt64) = 0 then
      nm (v1 + 1 : Int32) fun v16 =>
      k3 (v16, h8)
     else
      some ((v1 : Int32), h8)) x.1 x.2) else none) FU (0, h0)
def fX10_isTape (a0 : Int32) (h0 : Mem) : Option (Int32 × Mem) :=
 (fX10_in a0.toInt64 0 5 h0).bind (fun x => (fun (v2 : Int32) (h1 : Mem) =>
  if v2 = 0 ∨ v2 = 1 then some (v2, h1) else none) x.1 x.2)
def fX10_judge (a0 : Nat) (a1 : Int32) (a2 : Int32) (h0 : Mem) : Option (Int32 × Mem) :=
 (fX10_isTape a1 h0).bind (fun x => (fun (v2 : Int32) (h1 : Mem) =>
  if v2 = 0 then
   some (((-1) : Int32), h1)
  else
   (gR 10 h1 a0 33).bind fun v3 =>
   (xI 11 h1 v3 a1).bind fun v4 =>
   if 0 ≤ v4 then
    (gR 10 h1 a0 33).bind fun v5 =>
    (xI 11 h1 v5 a1).bind fun v6 =>
    if v6 = 1 then
     lpF (fun k8 (v7 : Int32) =>
      (gI 10 h1 a0 0).bind fun v10 =>
      if v10 < v7 then
       some (((-5) : Int32), h1)
      else
       if a2 < 0 then
        some ((100 + v7 : Int32), h1)
       else
        (gR 10 h1 a0 34).bind fun v11 =>
        (xI 11 h1 v11 a1).bind fun v12 =>
        if (lg_cmp (a2.toInt64 + v7.toInt64) v12.toInt64) < 0 then
         (gR 10 h1 a0 35).bind fun v13 =>
         (xJ h1 v13 (((60 * a1) + a2) + v7)).bind fun v14 =>
         (gR 10 h1 a0 1).bind fun v15 =>
         (xJ h1 v15 v7).bind fun v16 =>
         if (lg_cmp v14 v16) = 0 then
          nm (v7 + 1 : Int32) fun v17 =>
          k8 v17
         else
          some ((v7 : Int32), h1)
        else
         some ((100 + v7 : Int32), h1)) FU 0
    else
     some (((-12) : Int32), h1)
   else
    some ((100 : Int32), h1)) x.1 x.2)
def fX10_laysRow (a0 : Nat) (a1 : Int32) (a2 : Nat) (a3 : Int32) (h0 : Mem) : Option (Unit × Mem) :=
 lpF (fun k3 ((v1, h2) : Int32 × Mem) =>
  (aLn h2 a2).bind fun v5 =>
  if v5 ≤ v1 then
   some ((), h2)
  else
   (gR 10 h2 a0 38).bind fun v6 =>
   jn (fun (v7 : Int32) =>
    (yI 11 h2 v6 (a3 + v1) v7).bind fun h10 =>
    (gR 10 h10 a0 38).bind fun v11 =>
    (xI 11 h10 v11 (a3 + v1)).bind fun v12 =>
    (yI 11 h10 a2 v1 v12).bind fun h13 =>
    nm (v1 + 1 : Int32) fun v14 =>
    k3 (v14, h13)) (fun k8 =>
    if a1 = 0 then
     (xI 11 h2 a2 v1).bind fun v17 =>
     k8 v17
    else
     (gR 10 h2 a0 38).bind fun v15 =>
     (xI 11 h2 v15 (a3 + v1)).bind fun v16 =>
     k8 v16)) FU (0, h0)
def fX10_lays (a0 : Nat) (a1 : Int32) (h0 : Mem) : Option (Unit × Mem) :=
 (gR 10 h0 a0 38).bind fun v1 =>
 jn (fun (v2 : Int32) =>
  (yI 11 h0 v1 0 v2).bind fun h5 =>
  (gR 10 h5 a0 38).bind fun v6 =>
  (xI 11 h5 v6 0).bind fun v7 =>
  (pI 10 h5 a0 0 v7).bind fun h8 =>
  (gR 10 h8 a0 38).bind fun v9 =>
  jn (fun (v10 : Int32) =>
   (yI 11 h8 v9 1 v10).bind fun h13 =>
   (gR 10 h13 a0 38).bind fun v14 =>
   (xI 11 h13 v14 1).bind fun v15 =>
   (pI 10 h13 a0 2 v15).bind fun h16 =>
   (gR 10 h16 a0 38).bind fun v17 =>
   jn (fun (v18 : Int32) =>
    (yI 11 h16 v17 2 v18).bind fun h21 =>
    (gR 10 h21 a0 38).bind fun v22 =>
    (xI 11 h21 v22 2).bind fun v23 =>
    (pI 10 h21 a0 3 v23).bind fun h24 =>
    (gR 10 h24 a0 38).bind fun v25 =>
    jn (fun (v26 : Int32) =>
     (yI 11 h24 v25 3 v26).bind fun h29 =>
     (gR 10 h29 a0 38).bind fun v30 =>
     (xI 11 h29 v30 3).bind fun v31 =>
     (pI 10 h29 a0 5 v31).bind fun h32 =>
     (gR 10 h32 a0 38).bind fun v33 =>
     jn (fun (v34 : Int32) =>
      (yI 11 h32 v33 4 v34).bind fun h37 =>
      (gR 10 h37 a0 38).bind fun v38 =>
      (xI 11 h37 v38 4).bind fun v39 =>
      (pI 10 h37 a0 7 v39).bind fun h40 =>
      (gR 10 h40 a0 38).bind fun v41 =>
      jn (fun (v42 : Int32) =>
       (yI 11 h40 v41 5 v42).bind fun h45 =>
       (gR 10 h45 a0 38).bind fun v46 =>
       (xI 11 h45 v46 5).bind fun v47 =>
       (pI 10 h45 a0 9 v47).bind fun h48 =>
       (gR 10 h48 a0 4).bind fun v49 =>
       if mKd h48 a0 = 10 then (fX10_laysRow a0 a1 v49 6 h48).bind (fun x => (fun (_u : Unit) (h50 : Mem) =>
        (gR 10 h50 a0 6).bind fun v51 =>
        (gR 10 h50 a0 4).bind fun v52 =>
        (aLn h50 v52).bind fun v53 =>
        if mKd h50 a0 = 10 then (fX10_laysRow a0 a1 v51 (6 + v53) h50).bind (fun x => (fun (_u : Unit) (h54 : Mem) =>
         (gR 10 h54 a0 8).bind fun v55 =>
         (gR 10 h54 a0 4).bind fun v56 =>
         (aLn h54 v56).bind fun v57 =>
         (gR 10 h54 a0 6).bind fun v58 =>
         (aLn h54 v58).bind fun v59 =>
         if mKd h54 a0 = 10 then (fX10_laysRow a0 a1 v55 ((6 + v57) + v59) h54).bind (fun x => (fun (_u : Unit) (h60 : Mem) =>
          lpF (fun k63 ((v61, h62) : Int32 × Mem) =>
           if 5 ≤ v61 then
            some ((), h62)
           else
            (gR 10 h62 a0 37).bind fun v65 =>
            jn (fun (v66 : Int64) =>
             (yJ h62 v65 v61 v66).bind fun h69 =>
             (gR 10 h69 a0 1).bind fun v70 =>
             (gR 10 h69 a0 37).bind fun v71 =>
             (xJ h69 v71 v61).bind fun v72 =>
             (yJ h69 v70 v61 v72).bind fun h73 =>
             nm (v61 + 1 : Int32) fun v74 =>
             k63 (v74, h73)) (fun k67 =>
             if a1 = 0 then
              (gR 10 h62 a0 1).bind fun v77 =>
              (xJ h62 v77 v61).bind fun v78 =>
              k67 v78
             else
              (gR 10 h62 a0 37).bind fun v75 =>
              (xJ h62 v75 v61).bind fun v76 =>
              k67 v76)) FU (0, h60)) x.1 x.2) else none) x.1 x.2) else none) x.1 x.2) else none) (fun k43 =>
       if a1 = 0 then
        (gI 10 h40 a0 9).bind fun v83 =>
        k43 v83
       else
        (gR 10 h40 a0 38).bind fun v81 =>
        (xI 11 h40 v81 5).bind fun v82 =>
        k43 v82)) (fun k35 =>
      if a1 = 0 then
       (gI 10 h32 a0 7).bind fun v87 =>
       k35 v87
      else
       (gR 10 h32 a0 38).bind fun v85 =>
       (xI 11 h32 v85 4).bind fun v86 =>
       k35 v86)) (fun k27 =>
     if a1 = 0 then
      (gI 10 h24 a0 5).bind fun v91 =>
      k27 v91
     else
      (gR 10 h24 a0 38).bind fun v89 =>
      (xI 11 h24 v89 3).bind fun v90 =>
      k27 v90)) (fun k19 =>
    if a1 = 0 then
     (gI 10 h16 a0 3).bind fun v95 =>
     k19 v95
    else
     (gR 10 h16 a0 38).bind fun v93 =>
     (xI 11 h16 v93 2).bind fun v94 =>
     k19 v94)) (fun k11 =>
   if a1 = 0 then
    (gI 10 h8 a0 2).bind fun v99 =>
    k11 v99
   else
    (gR 10 h8 a0 38).bind fun v97 =>
    (xI 11 h8 v97 1).bind fun v98 =>
    k11 v98)) (fun k3 =>
  if a1 = 0 then
   (gI 10 h0 a0 0).bind fun v103 =>
   k3 v103
  else
   (gR 10 h0 a0 38).bind fun v101 =>
   (xI 11 h0 v101 0).bind fun v102 =>
   k3 v102)
def fX10_image (a0 : Nat) (h0 : Mem) : Option (Int32 × Mem) :=
 (pI 10 h0 a0 36 1).bind fun h1 =>
 if mKd h1 a0 = 10 then (fX10_lays a0 0 h1).bind (fun x => (fun (_u : Unit) (h2 : Mem) =>
  (gI 10 h2 a0 0).bind fun v3 =>
  some ((v3 : Int32), h2)) x.1 x.2) else none
def fX10_undo (a0 : Nat) (h0 : Mem) : Option (Int32 × Mem) :=
 (gI 10 h0 a0 36).bind fun v1 =>
 if v1 = 0 then
  some (((-3) : Int32), h0)
 else
  if mKd h0 a0 = 10 then (fX10_lays a0 1 h0).bind (fun x => (fun (_u : Unit) (h2 : Mem) =>
   (gI 10 h2 a0 0).bind fun v3 =>
   some ((v3 : Int32), h2)) x.1 x.2) else none
def fX10_count (a0 : Nat) (a1 : Int32) (h0 : Mem) : Option (Int32 × Mem) :=
 if a1 = 0 then
  (gI 10 h0 a0 5).bind fun v2 =>
  some ((v2 : Int32), h0)
 else if a1 = 1 then
  (gI 10 h0 a0 7).bind fun v4 =>
  some ((v4 : Int32), h0)
 else if a1 = 2 then
  (gI 10 h0 a0 9).bind fun v6 =>
  some ((v6 : Int32), h0)
 else if a1 = 3 then
  (gI 10 h0 a0 29).bind fun v8 =>
  some ((v8 : Int32), h0)
 else 
  some (((-2) : Int32), h0)
def fX10_tape (a0 : Nat) (a1 : Int32) (a2 : Int32) (a3 : Int32) (h0 : Mem) : Option (Int32 × Mem) :=
 (fX10_isTape a1 h0).bind (fun x => (fun (v2 : Int32) (h1 : Mem) =>
  if v2 = 0 then
   some (((-1) : Int32), h1)
  else
   (fX10_in a2.toInt64 (-1) 4 h1).bind (fun x => (fun (v4 : Int32) (h3 : Mem) =>
    if v4 = 0 then
     some (((-2) : Int32), h3)
    else
     jn (fun (_ : Unit) =>
      jn (fun (_ : Unit) =>
       (gR 10 h3 a0 33).bind fun v9 =>
       (yI 11 h3 v9 a1 a2).bind fun h10 =>
       (gR 10 h10 a0 34).bind fun v11 =>
       jn (fun (v12 : Int32) =>
        (yI 11 h10 v11 a1 v12).bind fun h15 =>
        lpF (fun k18 ((v16, h17) : Int32 × Mem) =>
         if 60 ≤ v16 then
          some ((1 : Int32), h17)
         else
          (gR 10 h17 a0 35).bind fun v20 =>
          (yJ h17 v20 ((60 * a1) + v16) 0).bind fun h21 =>
          nm (v16 + 1 : Int32) fun v22 =>
          k18 (v22, h21)) FU (0, h15)) (fun k13 =>
        if 0 ≤ a2 then
         k13 a3
        else
         k13 0)) (fun k7 =>
       if a2 < 0 then
        k7 ()
       else
        if 0 ≤ a3 then
         k7 ()
        else
         some (((-14) : Int32), h3))) (fun k5 =>
      if a2 < 0 then
       k5 ()
      else
       if a3 ≤ 60 then
        k5 ()
       else
        some (((-2) : Int32), h3))) x.1 x.2)) x.1 x.2)
def fX10_held (a0 : Int32) (a1 : Int64) (h0 : Mem) : Option (Int64 × Mem) :=
 if a0 = 0 then
  some ((a1.toInt32.toInt8.toInt32.toInt64 : Int64), h0)
 else
  if a0 = 1 then
   some ((a1.toInt32.toInt16.toInt32.toInt64 : Int64), h0)
  else
   if a0 = 2 then
    some ((a1.toInt32.toInt64 : Int64), h0)
   else
    if a0 = 3 then
     some ((a1 : Int64), h0)
    else
     if (lg_cmp a1 0) = 0 then
      some ((0 : Int64), h0)
     else
      some ((1 : Int64), h0)
def fX10_item (a0 : Nat) (a1 : Int32) (a2 : Int32) (a3 : Int64) (h0 : Mem) : Option (Int32 × Mem) :=
 (fX10_isTape a1 h0).bind (fun x => (fun (v2 : Int32) (h1 : Mem) =>
  if v2 = 0 then
   some (((-1) : Int32), h1)
  else
   (gR 10 h1 a0 33).bind fun v3 =>
   (xI 11 h1 v3 a1).bind fun v4 =>
   if 0 ≤ v4 then
    (gR 10 h1 a0 34).bind fun v5 =>
    (xI 11 h1 v5 a1).bind fun v6 =>
    (fX10_in a2.toInt64 0 ((v6 - 1).toInt64) h1).bind (fun x => (fun (v8 : Int32) (h7 : Mem) =>
     if v8 = 0 then
      some (((-13) : Int32), h7)
     else
      (gR 10 h7 a0 35).bind fun v9 =>
      (gR 10 h7 a0 33).bind fun v10 =>
      (xI 11 h7 v10 a1).bind fun v11 =>
      (fX10_held v11 a3 h7).bind (fun x => (fun (v13 : Int64) (h12 : Mem) =>
       (yJ h12 v9 ((60 * a1) + a2) v13).bind fun h14 =>
       some ((1 : Int32), h14)) x.1 x.2)) x.1 x.2)
   else
    some (((-11) : Int32), h1)) x.1 x.2)
def fX10_peek (a0 : Nat) (a1 : Int32) (a2 : Int32) (h0 : Mem) : Option (Int64 × Mem) :=
 (fX10_isTape a1 h0).bind (fun x => (fun (v2 : Int32) (h1 : Mem) =>
  if v2 = 0 then
   some (((-9223372036854775808) : Int64), h1)
  else
   (gR 10 h1 a0 34).bind fun v3 =>
   (xI 11 h1 v3 a1).bind fun v4 =>
   (fX10_in a2.toInt64 0 ((v4 - 1).toInt64) h1).bind (fun x => (fun (v6 : Int32) (h5 : Mem) =>
    if v6 = 0 then
     some (((-9223372036854775808) : Int64), h5)
    else
     (gR 10 h5 a0 35).bind fun v7 =>
     (xJ h5 v7 ((60 * a1) + a2)).bind fun v8 =>
     some ((v8 : Int64), h5)) x.1 x.2)) x.1 x.2)
def fX10_areThere (a0 : Nat) (a1 : Int32) (a2 : Int32) (a3 : Int32) (h0 : Mem) : Option (Int32 × Mem) :=
 if a2 < 0 then
  some ((0 : Int32), h0)
 else
  (gR 10 h0 a0 34).bind fun v1 =>
  (xI 11 h0 v1 a1).bind fun v2 =>
  if (v2 - a2) < a3 then
   some ((0 : Int32), h0)
  else
   some ((1 : Int32), h0)
def fX10_shift (a0 : Nat) (a1 : Int32) (a2 : Int32) (a3 : Int32) (a4 : Int32) (a5 : Int32) (h0 : Mem) : Option (Int32 × Mem) :=
 (fX10_isTape a1 h0).bind (fun x => (fun (v2 : Int32) (h1 : Mem) =>
  if v2 = 0 then
   some (((-1) : Int32), h1)
  else
   (fX10_isTape a3 h1).bind (fun x => (fun (v4 : Int32) (h3 : Mem) =>
    if v4 = 0 then
     some (((-1) : Int32), h3)
    else
     (gR 10 h3 a0 33).bind fun v5 =>
     (xI 11 h3 v5 a1).bind fun v6 =>
     if v6 < 0 then
      some (((-11) : Int32), h3)
     else
      (gR 10 h3 a0 33).bind fun v7 =>
      (xI 11 h3 v7 a3).bind fun v8 =>
      if 0 ≤ v8 then
       (gR 10 h3 a0 33).bind fun v9 =>
       (xI 11 h3 v9 a1).bind fun v10 =>
       (gR 10 h3 a0 33).bind fun v11 =>
       (xI 11 h3 v11 a3).bind fun v12 =>
       if v10 = v12 then
        if a5 < 0 then
         some (((-13) : Int32), h3)
        else
         if mKd h3 a0 = 10 then (fX10_areThere a0 a1 a2 a5 h3).bind (fun x => (fun (v14 : Int32) (h13 : Mem) =>
          if v14 = 0 then
           some (((-13) : Int32), h13)
          else
           if mKd h13 a0 = 10 then (fX10_areThere a0 a3 a4 a5 h13).bind (fun x => (fun (v16 : Int32) (h15 : Mem) =>
            if v16 = 0 then
             some (((-13) : Int32), h15)
            else
             lpF (fun k19 ((v17, h18) : Int32 × Mem) =>
              if a5 ≤ v17 then
               some ((a5 : Int32), h18)
              else
               jn (fun (v21 : Int32) =>
                (gR 10 h18 a0 35).bind fun v24 =>
                (gR 10 h18 a0 35).bind fun v25 =>
                (xJ h18 v25 (((60 * a1) + a2) + v21)).bind fun v26 =>
                (yJ h18 v24 (((60 * a3) + a4) + v21) v26).bind fun h27 =>
                nm (v17 + 1 : Int32) fun v28 =>
                k19 (v28, h27)) (fun k22 =>
                if a4 ≤ a2 then
                 k22 v17
                else
                 k22 ((a5 - 1) - v17))) FU (0, h15)) x.1 x.2) else none) x.1 x.2) else none
       else
        some (((-12) : Int32), h3)
      else
       some (((-11) : Int32), h3)) x.1 x.2)) x.1 x.2)
end
section
def fL_law (xs : Nat → Int32) (N : Nat) (h0 : Mem) : Option (Unit × Mem) :=
 nwO 9 9 h0 fun v1 h2 =>
 (fX9_init v1 h2).bind (fun x => (fun (_u : Unit) (h3 : Mem) =>
  nwO 10 39 h3 fun v4 h5 =>
  (fX10_init v4 h5).bind (fun x => (fun (_u : Unit) (h6 : Mem) =>
   lpF (fun k9 ((v7, h8) : Int32 × Mem) =>
    if ((Int32.ofNat N) - 6) < v7 then
     some ((), h8)
    else
     (xT xs N v7).bind fun v11 =>
     nm (v11 &&& 63 : Int32) fun v12 =>
     if v12 = 0 then
      (xT xs N (v7 + 1)).bind fun v14 =>
      if mKd h8 v1 = 9 then (fX9_degree v1 v14 h8).bind (fun x => (fun (v16 : Int32) (h15 : Mem) =>
       (xT xs N (v7 + 1)).bind fun v17 =>
       if mKd h15 v4 = 10 then (fX10_degree v4 v17 h15).bind (fun x => (fun (v19 : Int32) (h18 : Mem) =>
        if v16 = v19 then
         nm (v7 + 6 : Int32) fun v20 =>
         k9 (v20, h18)
        else
         none) x.1 x.2) else none) x.1 x.2) else none
     else if v12 = 1 then
      (xT xs N (v7 + 1)).bind fun v23 =>
      (xT xs N (v7 + 2)).bind fun v24 =>
      if mKd h8 v1 = 9 then (fX9_number v1 v23 v24 h8).bind (fun x => (fun (v26 : Int32) (h25 : Mem) =>
       (xT xs N (v7 + 1)).bind fun v27 =>
       (xT xs N (v7 + 2)).bind fun v28 =>
       if mKd h25 v4 = 10 then (fX10_number v4 v27 v28 h25).bind (fun x => (fun (v30 : Int32) (h29 : Mem) =>
        if v26 = v30 then
         nm (v7 + 6 : Int32) fun v31 =>
         k9 (v31, h29)
        else
         none) x.1 x.2) else none) x.1 x.2) else none
     else if v12 = 2 then
      (xT xs N (v7 + 1)).bind fun v34 =>
      if mKd h8 v1 = 9 then (fX9_equal v1 v34 h8).bind (fun x => (fun (v36 : Int32) (h35 : Mem) =>
       (xT xs N (v7 + 1)).bind fun v37 =>
       if mKd h35 v4 = 10 then (fX10_equal v4 v37 h35).bind (fun x => (fun (v39 : Int32) (h38 : Mem) =>
        if v36 = v39 then
         nm (v7 + 6 : Int32) fun v40 =>
         k9 (v40, h38)
        else
         none) x.1 x.2) else none) x.1 x.2) else none
     else if v12 = 3 then
      (xT xs N (v7 + 1)).bind fun v43 =>
      if mKd h8 v1 = 9 then (fX9_window v1 v43 h8).bind (fun x => (fun (v45 : Int32) (h44 : Mem) =>
       (xT xs N (v7 + 1)).bind fun v46 =>
       if mKd h44 v4 = 10 then (fX10_window v4 v46 h44).bind (fun x => (fun (v48 : Int32) (h47 : Mem) =>
        if v45 = v48 then
         nm (v7 + 6 : Int32) fun v49 =>
         k9 (v49, h47)
        else
         none) x.1 x.2) else none) x.1 x.2) else none
     else if v12 = 4 then
      (xT xs N (v7 + 1)).bind fun v52 =>
      if mKd h8 v1 = 9 then (fX9_move v1 v52 h8).bind (fun x => (fun (v54 : Int32) (h53 : Mem) =>
       (xT xs N (v7 + 1)).bind fun v55 =>
       if mKd h53 v4 = 10 then (fX10_move v4 v55 h53).bind (fun x => (fun (v57 : Int32) (h56 : Mem) =>
        if v54 = v57 then
         nm (v7 + 6 : Int32) fun v58 =>
         k9 (v58, h56)
        else
         none) x.1 x.2) else none) x.1 x.2) else none
     else if v12 = 5 then
      (xT xs N (v7 + 1)).bind fun v61 =>
      (xT xs N (v7 + 2)).bind fun v62 =>
      (xT xs N (v7 + 3)).bind fun v63 =>
      (xT xs N (v7 + 4)).bind fun v64 =>
      if mKd h8 v1 = 9 then (fX9_turn v1 v61 v62 v63 v64 h8).bind (fun x => (fun (v66 : Int32) (h65 : Mem) =>
       (xT xs N (v7 + 1)).bind fun v67 =>
       (xT xs N (v7 + 2)).bind fun v68 =>
       (xT xs N (v7 + 3)).bind fun v69 =>
       (xT xs N (v7 + 4)).bind fun v70 =>
       if mKd h65 v4 = 10 then (fX10_turn v4 v67 v68 v69 v70 h65).bind (fun x => (fun (v72 : Int32) (h71 : Mem) =>
        if v66 = v72 then
         nm (v7 + 6 : Int32) fun v73 =>
         k9 (v73, h71)
        else
         none) x.1 x.2) else none) x.1 x.2) else none
     else if v12 = 6 then
      (xT xs N (v7 + 1)).bind fun v76 =>
      if mKd h8 v1 = 9 then (fX9_feed v1 v76 h8).bind (fun x => (fun (v78 : Int32) (h77 : Mem) =>
       (xT xs N (v7 + 1)).bind fun v79 =>
       if mKd h77 v4 = 10 then (fX10_feed v4 v79 h77).bind (fun x => (fun (v81 : Int32) (h80 : Mem) =>
        if v78 = v81 then
         nm (v7 + 6 : Int32) fun v82 =>
         k9 (v82, h80)
        else
         none) x.1 x.2) else none) x.1 x.2) else none
     else if v12 = 7 then
      if mKd h8 v1 = 9 then (fX9_read v1 h8).bind (fun x => (fun (v86 : Int32) (h85 : Mem) =>
       if mKd h85 v4 = 10 then (fX10_read v4 h85).bind (fun x => (fun (v88 : Int32) (h87 : Mem) =>
        if v86 = v88 then
         nm (v7 + 6 : Int32) fun v89 =>
         k9 (v89, h87)
        else
         none) x.1 x.2) else none) x.1 x.2) else none
     else if v12 = 8 then
      (xT xs N (v7 + 1)).bind fun v92 =>
      if mKd h8 v1 = 9 then (fX9_of v1 v92 h8).bind (fun x => (fun (v94 : Int32) (h93 : Mem) =>
       (xT xs N (v7 + 1)).bind fun v95 =>
       if mKd h93 v4 = 10 then (fX10_of v4 v95 h93).bind (fun x => (fun (v97 : Int32) (h96 : Mem) =>
        if v94 = v97 then
         nm (v7 + 6 : Int32) fun v98 =>
         k9 (v98, h96)
        else
         none) x.1 x.2) else none) x.1 x.2) else none
     else if v12 = 9 then
      (xT xs N (v7 + 1)).bind fun v101 =>
      if mKd h8 v1 = 9 then (fX9_told v1 v101 h8).bind (fun x => (fun (v103 : Int32) (h102 : Mem) =>
       (xT xs N (v7 + 1)).bind fun v104 =>
       if mKd h102 v4 = 10 then (fX10_told v4 v104 h102).bind (fun x => (fun (v106 : Int32) (h105 : Mem) =>
        if v103 = v106 then
         nm (v7 + 6 : Int32) fun v107 =>
         k9 (v107, h105)
        else
         none) x.1 x.2) else none) x.1 x.2) else none
     else if v12 = 10 then
      (xT xs N (v7 + 1)).bind fun v110 =>
      (xT xs N (v7 + 2)).bind fun v111 =>
      if mKd h8 v1 = 9 then (fX9_value v1 v110 v111 h8).bind (fun x => (fun (v113 : Int64) (h112 : Mem) =>
       (xT xs N (v7 + 1)).bind fun v114 =>
       (xT xs N (v7 + 2)).bind fun v115 =>
       if mKd h112 v4 = 10 then (fX10_value v4 v114 v115 h112).bind (fun x => (fun (v117 : Int64) (h116 : Mem) =>
        if (lg_cmp v113 v117) = 0 then
         nm (v7 + 6 : Int32) fun v118 =>
         k9 (v118, h116)
        else
         none) x.1 x.2) else none) x.1 x.2) else none
     else if v12 = 11 then
      (xT xs N (v7 + 1)).bind fun v121 =>
      (xT xs N (v7 + 2)).bind fun v122 =>
      if mKd h8 v1 = 9 then (fX9_answer v1 v121 v122 h8).bind (fun x => (fun (v124 : Int32) (h123 : Mem) =>
       (xT xs N (v7 + 1)).bind fun v125 =>
       (xT xs N (v7 + 2)).bind fun v126 =>
       if mKd h123 v4 = 10 then (fX10_answer v4 v125 v126 h123).bind (fun x => (fun (v128 : Int32) (h127 : Mem) =>
        if v124 = v128 then
         nm (v7 + 6 : Int32) fun v129 =>
         k9 (v129, h127)
        else
         none) x.1 x.2) else none) x.1 x.2) else none
     else if v12 = 12 then
      (xT xs N (v7 + 1)).bind fun v132 =>
      (xT xs N (v7 + 2)).bind fun v133 =>
      if mKd h8 v1 = 9 then (fX9_prime v1 v132 v133 h8).bind (fun x => (fun (v135 : Int32) (h134 : Mem) =>
       (xT xs N (v7 + 1)).bind fun v136 =>
       (xT xs N (v7 + 2)).bind fun v137 =>
       if mKd h134 v4 = 10 then (fX10_prime v4 v136 v137 h134).bind (fun x => (fun (v139 : Int32) (h138 : Mem) =>
        if v135 = v139 then
         nm (v7 + 6 : Int32) fun v140 =>
         k9 (v140, h138)
        else
         none) x.1 x.2) else none) x.1 x.2) else none
     else if v12 = 13 then
      (xT xs N (v7 + 1)).bind fun v143 =>
      if mKd h8 v1 = 9 then (fX9_reason v1 v143 h8).bind (fun x => (fun (v145 : Int32) (h144 : Mem) =>
       (xT xs N (v7 + 1)).bind fun v146 =>
       if mKd h144 v4 = 10 then (fX10_reason v4 v146 h144).bind (fun x => (fun (v148 : Int32) (h147 : Mem) =>
        if v145 = v148 then
         nm (v7 + 6 : Int32) fun v149 =>
         k9 (v149, h147)
        else
         none) x.1 x.2) else none) x.1 x.2) else none
     else if v12 = 14 then
      (xT xs N (v7 + 1)).bind fun v152 =>
      (xT xs N (v7 + 2)).bind fun v153 =>
      if mKd h8 v1 = 9 then (fX9_unit v1 v152 v153 h8).bind (fun x => (fun (v155 : Int32) (h154 : Mem) =>
       (xT xs N (v7 + 1)).bind fun v156 =>
       (xT xs N (v7 + 2)).bind fun v157 =>
       if mKd h154 v4 = 10 then (fX10_unit v4 v156 v157 h154).bind (fun x => (fun (v159 : Int32) (h158 : Mem) =>
        if v155 = v159 then
         nm (v7 + 6 : Int32) fun v160 =>
         k9 (v160, h158)
        else
         none) x.1 x.2) else none) x.1 x.2) else none
     else if v12 = 15 then
      (xT xs N (v7 + 1)).bind fun v163 =>
      if mKd h8 v1 = 9 then (fX9_family v1 v163 h8).bind (fun x => (fun (v165 : Int32) (h164 : Mem) =>
       (xT xs N (v7 + 1)).bind fun v166 =>
       if mKd h164 v4 = 10 then (fX10_family v4 v166 h164).bind (fun x => (fun (v168 : Int32) (h167 : Mem) =>
        if v165 = v168 then
         nm (v7 + 6 : Int32) fun v169 =>
         k9 (v169, h167)
        else
         none) x.1 x.2) else none) x.1 x.2) else none
     else if v12 = 16 then
      (xT xs N (v7 + 1)).bind fun v172 =>
      if mKd h8 v1 = 9 then (fX9_part v1 v172 h8).bind (fun x => (fun (v174 : Int32) (h173 : Mem) =>
       (xT xs N (v7 + 1)).bind fun v175 =>
       if mKd h173 v4 = 10 then (fX10_part v4 v175 h173).bind (fun x => (fun (v177 : Int32) (h176 : Mem) =>
        if v174 = v177 then
         nm (v7 + 6 : Int32) fun v178 =>
         k9 (v178, h176)
        else
         none) x.1 x.2) else none) x.1 x.2) else none
     else if v12 = 17 then
      (xT xs N (v7 + 1)).bind fun v181 =>
      (xT xs N (v7 + 2)).bind fun v182 =>
      if mKd h8 v1 = 9 then (fX9_convergent v1 v181 v182 h8).bind (fun x => (fun (v184 : Int64) (h183 : Mem) =>
       (xT xs N (v7 + 1)).bind fun v185 =>
       (xT xs N (v7 + 2)).bind fun v186 =>
       if mKd h183 v4 = 10 then (fX10_convergent v4 v185 v186 h183).bind (fun x => (fun (v188 : Int64) (h187 : Mem) =>
        if (lg_cmp v184 v188) = 0 then
         nm (v7 + 6 : Int32) fun v189 =>
         k9 (v189, h187)
        else
         none) x.1 x.2) else none) x.1 x.2) else none
     else if v12 = 18 then
      (xT xs N (v7 + 1)).bind fun v192 =>
      (xT xs N (v7 + 2)).bind fun v193 =>
      (xT xs N (v7 + 3)).bind fun v194 =>
      if mKd h8 v1 = 9 then (fX9_see v1 v192 v193 v194 h8).bind (fun x => (fun (v196 : Int32) (h195 : Mem) =>
       (xT xs N (v7 + 1)).bind fun v197 =>
       (xT xs N (v7 + 2)).bind fun v198 =>
       (xT xs N (v7 + 3)).bind fun v199 =>
       if mKd h195 v4 = 10 then (fX10_see v4 v197 v198 v199 h195).bind (fun x => (fun (v201 : Int32) (h200 : Mem) =>
        if v196 = v201 then
         nm (v7 + 6 : Int32) fun v202 =>
         k9 (v202, h200)
        else
         none) x.1 x.2) else none) x.1 x.2) else none
     else if v12 = 19 then
      (xT xs N (v7 + 1)).bind fun v205 =>
      (xT xs N (v7 + 2)).bind fun v206 =>
      if mKd h8 v1 = 9 then (fX9_fits v1 v205 v206 h8).bind (fun x => (fun (v208 : Int32) (h207 : Mem) =>
       (xT xs N (v7 + 1)).bind fun v209 =>
       (xT xs N (v7 + 2)).bind fun v210 =>
       if mKd h207 v4 = 10 then (fX10_fits v4 v209 v210 h207).bind (fun x => (fun (v212 : Int32) (h211 : Mem) =>
        if v208 = v212 then
         nm (v7 + 6 : Int32) fun v213 =>
         k9 (v213, h211)
        else
         none) x.1 x.2) else none) x.1 x.2) else none
     else if v12 = 20 then
      (xT xs N (v7 + 1)).bind fun v216 =>
      if mKd h8 v1 = 9 then (fX9_odds v1 v216 h8).bind (fun x => (fun (v218 : Int64) (h217 : Mem) =>
       (xT xs N (v7 + 1)).bind fun v219 =>
       if mKd h217 v4 = 10 then (fX10_odds v4 v219 h217).bind (fun x => (fun (v221 : Int64) (h220 : Mem) =>
        if (lg_cmp v218 v221) = 0 then
         nm (v7 + 6 : Int32) fun v222 =>
         k9 (v222, h220)
        else
         none) x.1 x.2) else none) x.1 x.2) else none
     else if v12 = 21 then
      (xT xs N (v7 + 1)).bind fun v225 =>
      if mKd h8 v1 = 9 then (fX9_mean v1 v225 h8).bind (fun x => (fun (v227 : Int64) (h226 : Mem) =>
       (xT xs N (v7 + 1)).bind fun v228 =>
       if mKd h226 v4 = 10 then (fX10_mean v4 v228 h226).bind (fun x => (fun (v230 : Int64) (h229 : Mem) =>
        if (lg_cmp v227 v230) = 0 then
         nm (v7 + 6 : Int32) fun v231 =>
         k9 (v231, h229)
        else
         none) x.1 x.2) else none) x.1 x.2) else none
     else if v12 = 22 then
      (xT xs N (v7 + 1)).bind fun v234 =>
      (xT xs N (v7 + 2)).bind fun v235 =>
      if mKd h8 v1 = 9 then (fX9_event v1 v234 v235 h8).bind (fun x => (fun (v237 : Int32) (h236 : Mem) =>
       (xT xs N (v7 + 1)).bind fun v238 =>
       (xT xs N (v7 + 2)).bind fun v239 =>
       if mKd h236 v4 = 10 then (fX10_event v4 v238 v239 h236).bind (fun x => (fun (v241 : Int32) (h240 : Mem) =>
        if v237 = v241 then
         nm (v7 + 6 : Int32) fun v242 =>
         k9 (v242, h240)
        else
         none) x.1 x.2) else none) x.1 x.2) else none
     else if v12 = 23 then
      (xT xs N (v7 + 1)).bind fun v245 =>
      if mKd h8 v1 = 9 then (fX9_after v1 v245 h8).bind (fun x => (fun (v247 : Int32) (h246 : Mem) =>
       (xT xs N (v7 + 1)).bind fun v248 =>
       if mKd h246 v4 = 10 then (fX10_after v4 v248 h246).bind (fun x => (fun (v250 : Int32) (h249 : Mem) =>
        if v247 = v250 then
         nm (v7 + 6 : Int32) fun v251 =>
         k9 (v251, h249)
        else
         none) x.1 x.2) else none) x.1 x.2) else none
     else if v12 = 24 then
      (xT xs N (v7 + 1)).bind fun v254 =>
      (xT xs N (v7 + 2)).bind fun v255 =>
      if mKd h8 v1 = 9 then (fX9_book v1 v254 v255 h8).bind (fun x => (fun (v257 : Int32) (h256 : Mem) =>
       (xT xs N (v7 + 1)).bind fun v258 =>
       (xT xs N (v7 + 2)).bind fun v259 =>
       if mKd h256 v4 = 10 then (fX10_book v4 v258 v259 h256).bind (fun x => (fun (v261 : Int32) (h260 : Mem) =>
        if v257 = v261 then
         nm (v7 + 6 : Int32) fun v262 =>
         k9 (v262, h260)
        else
         none) x.1 x.2) else none) x.1 x.2) else none
     else if v12 = 25 then
      if mKd h8 v1 = 9 then (fX9_looked v1 h8).bind (fun x => (fun (v266 : Int32) (h265 : Mem) =>
       if mKd h265 v4 = 10 then (fX10_looked v4 h265).bind (fun x => (fun (v268 : Int32) (h267 : Mem) =>
        if v266 = v268 then
         nm (v7 + 6 : Int32) fun v269 =>
         k9 (v269, h267)
        else
         none) x.1 x.2) else none) x.1 x.2) else none
     else if v12 = 26 then
      (xT xs N (v7 + 1)).bind fun v272 =>
      (xT xs N (v7 + 2)).bind fun v273 =>
      if mKd h8 v1 = 9 then (fX9_judge v1 v272 v273 h8).bind (fun x => (fun (v275 : Int32) (h274 : Mem) =>
       (xT xs N (v7 + 1)).bind fun v276 =>
       (xT xs N (v7 + 2)).bind fun v277 =>
       if mKd h274 v4 = 10 then (fX10_judge v4 v276 v277 h274).bind (fun x => (fun (v279 : Int32) (h278 : Mem) =>
        if v275 = v279 then
         nm (v7 + 6 : Int32) fun v280 =>
         k9 (v280, h278)
        else
         none) x.1 x.2) else none) x.1 x.2) else none
     else if v12 = 27 then
      if mKd h8 v1 = 9 then (fX9_image v1 h8).bind (fun x => (fun (v284 : Int32) (h283 : Mem) =>
       if mKd h283 v4 = 10 then (fX10_image v4 h283).bind (fun x => (fun (v286 : Int32) (h285 : Mem) =>
        if v284 = v286 then
         nm (v7 + 6 : Int32) fun v287 =>
         k9 (v287, h285)
        else
         none) x.1 x.2) else none) x.1 x.2) else none
     else if v12 = 28 then
      if mKd h8 v1 = 9 then (fX9_undo v1 h8).bind (fun x => (fun (v291 : Int32) (h290 : Mem) =>
       if mKd h290 v4 = 10 then (fX10_undo v4 h290).bind (fun x => (fun (v293 : Int32) (h292 : Mem) =>
        if v291 = v293 then
         nm (v7 + 6 : Int32) fun v294 =>
         k9 (v294, h292)
        else
         none) x.1 x.2) else none) x.1 x.2) else none
     else if v12 = 29 then
      (xT xs N (v7 + 1)).bind fun v297 =>
      if mKd h8 v1 = 9 then (fX9_count v1 v297 h8).bind (fun x => (fun (v299 : Int32) (h298 : Mem) =>
       (xT xs N (v7 + 1)).bind fun v300 =>
       if mKd h298 v4 = 10 then (fX10_count v4 v300 h298).bind (fun x => (fun (v302 : Int32) (h301 : Mem) =>
        if v299 = v302 then
         nm (v7 + 6 : Int32) fun v303 =>
         k9 (v303, h301)
        else
         none) x.1 x.2) else none) x.1 x.2) else none
     else if v12 = 30 then
      (xT xs N (v7 + 1)).bind fun v306 =>
      (xT xs N (v7 + 2)).bind fun v307 =>
      (xT xs N (v7 + 3)).bind fun v308 =>
      if mKd h8 v1 = 9 then (fX9_tape v1 v306 v307 v308 h8).bind (fun x => (fun (v310 : Int32) (h309 : Mem) =>
       (xT xs N (v7 + 1)).bind fun v311 =>
       (xT xs N (v7 + 2)).bind fun v312 =>
       (xT xs N (v7 + 3)).bind fun v313 =>
       if mKd h309 v4 = 10 then (fX10_tape v4 v311 v312 v313 h309).bind (fun x => (fun (v315 : Int32) (h314 : Mem) =>
        if v310 = v315 then
         nm (v7 + 6 : Int32) fun v316 =>
         k9 (v316, h314)
        else
         none) x.1 x.2) else none) x.1 x.2) else none
     else if v12 = 31 then
      (xT xs N (v7 + 1)).bind fun v319 =>
      (xT xs N (v7 + 2)).bind fun v320 =>
      (xT xs N (v7 + 3)).bind fun v321 =>
      (xT xs N (v7 + 4)).bind fun v322 =>
      if mKd h8 v1 = 9 then (fX9_item v1 v319 v320 ((v321.toInt64 <<< ((32 : Int32).toInt64 &&& 63)) ||| (v322.toInt64 &&& 4294967295)) h8).bind (fun x => (fun (v324 : Int32) (h323 : Mem) =>
       (xT xs N (v7 + 1)).bind fun v325 =>
       (xT xs N (v7 + 2)).bind fun v326 =>
       (xT xs N (v7 + 3)).bind fun v327 =>
       (xT xs N (v7 + 4)).bind fun v328 =>
       if mKd h323 v4 = 10 then (fX10_item v4 v325 v326 ((v327.toInt64 <<< ((32 : Int32).toInt64 &&& 63)) ||| (v328.toInt64 &&& 4294967295)) h323).bind (fun x => (fun (v330 : Int32) (h329 : Mem) =>
        if v324 = v330 then
         nm (v7 + 6 : Int32) fun v331 =>
         k9 (v331, h329)
        else
         none) x.1 x.2) else none) x.1 x.2) else none
     else if v12 = 32 then
      (xT xs N (v7 + 1)).bind fun v334 =>
      (xT xs N (v7 + 2)).bind fun v335 =>
      if mKd h8 v1 = 9 then (fX9_peek v1 v334 v335 h8).bind (fun x => (fun (v337 : Int64) (h336 : Mem) =>
       (xT xs N (v7 + 1)).bind fun v338 =>
       (xT xs N (v7 + 2)).bind fun v339 =>
       if mKd h336 v4 = 10 then (fX10_peek v4 v338 v339 h336).bind (fun x => (fun (v341 : Int64) (h340 : Mem) =>
        if (lg_cmp v337 v341) = 0 then
         nm (v7 + 6 : Int32) fun v342 =>
         k9 (v342, h340)
        else
         none) x.1 x.2) else none) x.1 x.2) else none
     else if v12 = 33 then
      (xT xs N (v7 + 1)).bind fun v345 =>
      (xT xs N (v7 + 2)).bind fun v346 =>
      (xT xs N (v7 + 3)).bind fun v347 =>
      (xT xs N (v7 + 4)).bind fun v348 =>
      (xT xs N (v7 + 5)).bind fun v349 =>
      if mKd h8 v1 = 9 then (fX9_shift v1 v345 v346 v347 v348 v349 h8).bind (fun x => (fun (v351 : Int32) (h350 : Mem) =>
       (xT xs N (v7 + 1)).bind fun v352 =>
       (xT xs N (v7 + 2)).bind fun v353 =>
       (xT xs N (v7 + 3)).bind fun v354 =>
       (xT xs N (v7 + 4)).bind fun v355 =>
       (xT xs N (v7 + 5)).bind fun v356 =>
       if mKd h350 v4 = 10 then (fX10_shift v4 v352 v353 v354 v355 v356 h350).bind (fun x => (fun (v358 : Int32) (h357 : Mem) =>
        if v351 = v358 then
         nm (v7 + 6 : Int32) fun v359 =>
         k9 (v359, h357)
        else
         none) x.1 x.2) else none) x.1 x.2) else none
     else 
      nm (v7 + 6 : Int32) fun v361 =>
      k9 (v361, h8)) FU (0, h6)) x.1 x.2)) x.1 x.2)
end
