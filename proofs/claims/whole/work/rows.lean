section
-- ===== PART A: goes FIRST, ahead of the names: the tables' words, and 'selects' of the private methods out of them =====
/-- a private method of a class that the tables say can be made, by its rows of tables_1 -/
def lw_okq (q : MethodName × Nat) : Prop := (q.1.cls ≠ "java/lang/invoke/MethodHandle" ∧ q.1.cls ≠ "java/lang/invoke/VarHandle") ∧ Cond.instantiable q.1.cls q.2 ∈ tables_1 ∧ Cond.privateMethod q.1 ∈ tables_1 ∧ Cond.instanceMethod q.1 ∈ tables_1
theorem lw_p0 : lw_okq (⟨"TwoLetterForms$Form", "findTurned", "(IIII)V"⟩, 4) := ⟨⟨by decide +kernel, by decide +kernel⟩, List.mem_of_getElem? (i := 37) (by decide +kernel), List.mem_of_getElem? (i := 314) (by decide +kernel), List.mem_of_getElem? (i := 315) (by decide +kernel)⟩
theorem lw_p1 : lw_okq (⟨"TwoLetterForms$SetUp", "takeClause", "()Z"⟩, 6) := ⟨⟨by decide +kernel, by decide +kernel⟩, List.mem_of_getElem? (i := 181) (by decide +kernel), List.mem_of_getElem? (i := 354) (by decide +kernel), List.mem_of_getElem? (i := 355) (by decide +kernel)⟩
theorem lw_p2 : lw_okq (⟨"TwoLetterForms$SetUp", "next", "()I"⟩, 6) := ⟨⟨by decide +kernel, by decide +kernel⟩, List.mem_of_getElem? (i := 181) (by decide +kernel), List.mem_of_getElem? (i := 358) (by decide +kernel), List.mem_of_getElem? (i := 359) (by decide +kernel)⟩
theorem lw_p3 : lw_okq (⟨"TwoLetterForms$SetUp", "takeDigit", "()Z"⟩, 6) := ⟨⟨by decide +kernel, by decide +kernel⟩, List.mem_of_getElem? (i := 181) (by decide +kernel), List.mem_of_getElem? (i := 371) (by decide +kernel), List.mem_of_getElem? (i := 372) (by decide +kernel)⟩
theorem lw_p4 : lw_okq (⟨"TwoLetterForms$SetUp", "isAtDigit", "()Z"⟩, 6) := ⟨⟨by decide +kernel, by decide +kernel⟩, List.mem_of_getElem? (i := 181) (by decide +kernel), List.mem_of_getElem? (i := 375) (by decide +kernel), List.mem_of_getElem? (i := 376) (by decide +kernel)⟩
theorem lw_p5 : lw_okq (⟨"TwoLetterForms$SetUp", "takeNumber", "()Z"⟩, 6) := ⟨⟨by decide +kernel, by decide +kernel⟩, List.mem_of_getElem? (i := 181) (by decide +kernel), List.mem_of_getElem? (i := 379) (by decide +kernel), List.mem_of_getElem? (i := 380) (by decide +kernel)⟩
theorem lw_p6 : lw_okq (⟨"TwoLetterForms", "clauseAnswer", "(I)I"⟩, 9) := ⟨⟨by decide +kernel, by decide +kernel⟩, List.mem_of_getElem? (i := 17) (by decide +kernel), List.mem_of_getElem? (i := 387) (by decide +kernel), List.mem_of_getElem? (i := 388) (by decide +kernel)⟩
theorem lw_p7 : lw_okq (⟨"TwoLetterForms$Rows", "cell", "(II)I"⟩, 2) := ⟨⟨by decide +kernel, by decide +kernel⟩, List.mem_of_getElem? (i := 75) (by decide +kernel), List.mem_of_getElem? (i := 395) (by decide +kernel), List.mem_of_getElem? (i := 396) (by decide +kernel)⟩
theorem lw_p8 : lw_okq (⟨"TwoLetterForms", "answersNow", "()LTwoLetterForms$Answers;"⟩, 9) := ⟨⟨by decide +kernel, by decide +kernel⟩, List.mem_of_getElem? (i := 17) (by decide +kernel), List.mem_of_getElem? (i := 420) (by decide +kernel), List.mem_of_getElem? (i := 421) (by decide +kernel)⟩
theorem lw_p9 : lw_okq (⟨"TwoLetterForms$Answers", "cellAt", "(II)I"⟩, 6) := ⟨⟨by decide +kernel, by decide +kernel⟩, List.mem_of_getElem? (i := 111) (by decide +kernel), List.mem_of_getElem? (i := 460) (by decide +kernel), List.mem_of_getElem? (i := 461) (by decide +kernel)⟩
theorem lw_p10 : lw_okq (⟨"TwoLetterForms$Answers", "setLabel", "(II)V"⟩, 6) := ⟨⟨by decide +kernel, by decide +kernel⟩, List.mem_of_getElem? (i := 111) (by decide +kernel), List.mem_of_getElem? (i := 465) (by decide +kernel), List.mem_of_getElem? (i := 466) (by decide +kernel)⟩
theorem lw_p11 : lw_okq (⟨"TwoLetterForms", "unitsNow", "()LTwoLetterForms$Units;"⟩, 9) := ⟨⟨by decide +kernel, by decide +kernel⟩, List.mem_of_getElem? (i := 17) (by decide +kernel), List.mem_of_getElem? (i := 469) (by decide +kernel), List.mem_of_getElem? (i := 470) (by decide +kernel)⟩
theorem lw_p12 : lw_okq (⟨"TwoLetterForms$Units", "add", "(IIII)V"⟩, 2) := ⟨⟨by decide +kernel, by decide +kernel⟩, List.mem_of_getElem? (i := 140) (by decide +kernel), List.mem_of_getElem? (i := 481) (by decide +kernel), List.mem_of_getElem? (i := 482) (by decide +kernel)⟩
theorem lw_p13 : lw_okq (⟨"TwoLetterForms", "answersInFamilies", "()LTwoLetterForms$Answers;"⟩, 9) := ⟨⟨by decide +kernel, by decide +kernel⟩, List.mem_of_getElem? (i := 17) (by decide +kernel), List.mem_of_getElem? (i := 485) (by decide +kernel), List.mem_of_getElem? (i := 486) (by decide +kernel)⟩
theorem lw_p14 : lw_okq (⟨"TwoLetterForms$Answers", "spread", "(ILTwoLetterForms$Units;)V"⟩, 6) := ⟨⟨by decide +kernel, by decide +kernel⟩, List.mem_of_getElem? (i := 111) (by decide +kernel), List.mem_of_getElem? (i := 494) (by decide +kernel), List.mem_of_getElem? (i := 495) (by decide +kernel)⟩
theorem lw_p15 : lw_okq (⟨"TwoLetterForms$Answers", "await", "(II)I"⟩, 6) := ⟨⟨by decide +kernel, by decide +kernel⟩, List.mem_of_getElem? (i := 111) (by decide +kernel), List.mem_of_getElem? (i := 498) (by decide +kernel), List.mem_of_getElem? (i := 499) (by decide +kernel)⟩
def lw_privs_1 : List (MethodName × Nat) := [(⟨"TwoLetterForms$Form", "findTurned", "(IIII)V"⟩, 4), (⟨"TwoLetterForms$SetUp", "takeClause", "()Z"⟩, 6), (⟨"TwoLetterForms$SetUp", "next", "()I"⟩, 6), (⟨"TwoLetterForms$SetUp", "takeDigit", "()Z"⟩, 6), (⟨"TwoLetterForms$SetUp", "isAtDigit", "()Z"⟩, 6), (⟨"TwoLetterForms$SetUp", "takeNumber", "()Z"⟩, 6), (⟨"TwoLetterForms", "clauseAnswer", "(I)I"⟩, 9), (⟨"TwoLetterForms$Rows", "cell", "(II)I"⟩, 2), (⟨"TwoLetterForms", "answersNow", "()LTwoLetterForms$Answers;"⟩, 9), (⟨"TwoLetterForms$Answers", "cellAt", "(II)I"⟩, 6), (⟨"TwoLetterForms$Answers", "setLabel", "(II)V"⟩, 6), (⟨"TwoLetterForms", "unitsNow", "()LTwoLetterForms$Units;"⟩, 9), (⟨"TwoLetterForms$Units", "add", "(IIII)V"⟩, 2), (⟨"TwoLetterForms", "answersInFamilies", "()LTwoLetterForms$Answers;"⟩, 9), (⟨"TwoLetterForms$Answers", "spread", "(ILTwoLetterForms$Units;)V"⟩, 6), (⟨"TwoLetterForms$Answers", "await", "(II)I"⟩, 6)]
theorem lw_r1 : ∀ q ∈ lw_privs_1, lw_okq q := List.forall_mem_cons.mpr ⟨lw_p0, List.forall_mem_cons.mpr ⟨lw_p1, List.forall_mem_cons.mpr ⟨lw_p2, List.forall_mem_cons.mpr ⟨lw_p3, List.forall_mem_cons.mpr ⟨lw_p4, List.forall_mem_cons.mpr ⟨lw_p5, List.forall_mem_cons.mpr ⟨lw_p6, List.forall_mem_cons.mpr ⟨lw_p7, List.forall_mem_cons.mpr ⟨lw_p8, List.forall_mem_cons.mpr ⟨lw_p9, List.forall_mem_cons.mpr ⟨lw_p10, List.forall_mem_cons.mpr ⟨lw_p11, List.forall_mem_cons.mpr ⟨lw_p12, List.forall_mem_cons.mpr ⟨lw_p13, List.forall_mem_cons.mpr ⟨lw_p14, List.forall_mem_cons.mpr ⟨lw_p15, fun _ h => absurd h List.not_mem_nil⟩⟩⟩⟩⟩⟩⟩⟩⟩⟩⟩⟩⟩⟩⟩⟩
theorem lw_p16 : lw_okq (⟨"TwoLetterForms$Answers", "behind", "(I)I"⟩, 6) := ⟨⟨by decide +kernel, by decide +kernel⟩, List.mem_of_getElem? (i := 111) (by decide +kernel), List.mem_of_getElem? (i := 506) (by decide +kernel), List.mem_of_getElem? (i := 507) (by decide +kernel)⟩
theorem lw_p17 : lw_okq (⟨"TwoLetterForms", "partsNow", "()LTwoLetterForms$Parts;"⟩, 9) := ⟨⟨by decide +kernel, by decide +kernel⟩, List.mem_of_getElem? (i := 17) (by decide +kernel), List.mem_of_getElem? (i := 520) (by decide +kernel), List.mem_of_getElem? (i := 521) (by decide +kernel)⟩
theorem lw_p18 : lw_okq (⟨"TwoLetterForms$Parts", "greatestFrom", "(I)I"⟩, 6) := ⟨⟨by decide +kernel, by decide +kernel⟩, List.mem_of_getElem? (i := 155) (by decide +kernel), List.mem_of_getElem? (i := 529) (by decide +kernel), List.mem_of_getElem? (i := 530) (by decide +kernel)⟩
theorem lw_p19 : lw_okq (⟨"TwoLetterForms$Parts", "at", "(I)J"⟩, 6) := ⟨⟨by decide +kernel, by decide +kernel⟩, List.mem_of_getElem? (i := 155) (by decide +kernel), List.mem_of_getElem? (i := 533) (by decide +kernel), List.mem_of_getElem? (i := 534) (by decide +kernel)⟩
theorem lw_p20 : lw_okq (⟨"TwoLetterForms$Parts", "keep", "(I)V"⟩, 6) := ⟨⟨by decide +kernel, by decide +kernel⟩, List.mem_of_getElem? (i := 155) (by decide +kernel), List.mem_of_getElem? (i := 537) (by decide +kernel), List.mem_of_getElem? (i := 538) (by decide +kernel)⟩
theorem lw_p21 : lw_okq (⟨"TwoLetterForms$Parts", "goBehind", "(I)V"⟩, 6) := ⟨⟨by decide +kernel, by decide +kernel⟩, List.mem_of_getElem? (i := 155) (by decide +kernel), List.mem_of_getElem? (i := 541) (by decide +kernel), List.mem_of_getElem? (i := 542) (by decide +kernel)⟩
theorem lw_p22 : lw_okq (⟨"TwoLetterForms$Parts", "isRowBeyond", "()Z"⟩, 6) := ⟨⟨by decide +kernel, by decide +kernel⟩, List.mem_of_getElem? (i := 155) (by decide +kernel), List.mem_of_getElem? (i := 545) (by decide +kernel), List.mem_of_getElem? (i := 546) (by decide +kernel)⟩
theorem lw_p23 : lw_okq (⟨"TwoLetterForms", "convergentAnswers", "()I"⟩, 9) := ⟨⟨by decide +kernel, by decide +kernel⟩, List.mem_of_getElem? (i := 17) (by decide +kernel), List.mem_of_getElem? (i := 551) (by decide +kernel), List.mem_of_getElem? (i := 552) (by decide +kernel)⟩
theorem lw_p24 : lw_okq (⟨"TwoLetterForms", "isAsSeen", "(LTwoLetterForms$Form;)Z"⟩, 9) := ⟨⟨by decide +kernel, by decide +kernel⟩, List.mem_of_getElem? (i := 17) (by decide +kernel), List.mem_of_getElem? (i := 658) (by decide +kernel), List.mem_of_getElem? (i := 659) (by decide +kernel)⟩
theorem lw_p25 : lw_okq (⟨"TwoLetterForms", "tryEvents", "()V"⟩, 9) := ⟨⟨by decide +kernel, by decide +kernel⟩, List.mem_of_getElem? (i := 17) (by decide +kernel), List.mem_of_getElem? (i := 700) (by decide +kernel), List.mem_of_getElem? (i := 701) (by decide +kernel)⟩
theorem lw_p26 : lw_okq (⟨"TwoLetterForms", "tapeAt", "(I)LTwoLetterForms$Tape;"⟩, 9) := ⟨⟨by decide +kernel, by decide +kernel⟩, List.mem_of_getElem? (i := 17) (by decide +kernel), List.mem_of_getElem? (i := 735) (by decide +kernel), List.mem_of_getElem? (i := 736) (by decide +kernel)⟩
theorem lw_p27 : lw_okq (⟨"TwoLetterForms$Tape", "lowestBits", "(J)J"⟩, 3) := ⟨⟨by decide +kernel, by decide +kernel⟩, List.mem_of_getElem? (i := 211) (by decide +kernel), List.mem_of_getElem? (i := 794) (by decide +kernel), List.mem_of_getElem? (i := 795) (by decide +kernel)⟩
theorem lw_p28 : lw_okq (⟨"TwoLetterFormsModel", "isNumber", "(I)Z"⟩, 39) := ⟨⟨by decide +kernel, by decide +kernel⟩, List.mem_of_getElem? (i := 811) (by decide +kernel), List.mem_of_getElem? (i := 949) (by decide +kernel), List.mem_of_getElem? (i := 950) (by decide +kernel)⟩
theorem lw_p29 : lw_okq (⟨"TwoLetterFormsModel", "moves", "(I)Z"⟩, 39) := ⟨⟨by decide +kernel, by decide +kernel⟩, List.mem_of_getElem? (i := 811) (by decide +kernel), List.mem_of_getElem? (i := 970) (by decide +kernel), List.mem_of_getElem? (i := 971) (by decide +kernel)⟩
theorem lw_p30 : lw_okq (⟨"TwoLetterFormsModel", "turns", "(JJJJ)V"⟩, 39) := ⟨⟨by decide +kernel, by decide +kernel⟩, List.mem_of_getElem? (i := 811) (by decide +kernel), List.mem_of_getElem? (i := 974) (by decide +kernel), List.mem_of_getElem? (i := 975) (by decide +kernel)⟩
theorem lw_p31 : lw_okq (⟨"TwoLetterFormsModel", "multiplies", "(JJ)V"⟩, 39) := ⟨⟨by decide +kernel, by decide +kernel⟩, List.mem_of_getElem? (i := 811) (by decide +kernel), List.mem_of_getElem? (i := 978) (by decide +kernel), List.mem_of_getElem? (i := 979) (by decide +kernel)⟩
def lw_privs_2 : List (MethodName × Nat) := [(⟨"TwoLetterForms$Answers", "behind", "(I)I"⟩, 6), (⟨"TwoLetterForms", "partsNow", "()LTwoLetterForms$Parts;"⟩, 9), (⟨"TwoLetterForms$Parts", "greatestFrom", "(I)I"⟩, 6), (⟨"TwoLetterForms$Parts", "at", "(I)J"⟩, 6), (⟨"TwoLetterForms$Parts", "keep", "(I)V"⟩, 6), (⟨"TwoLetterForms$Parts", "goBehind", "(I)V"⟩, 6), (⟨"TwoLetterForms$Parts", "isRowBeyond", "()Z"⟩, 6), (⟨"TwoLetterForms", "convergentAnswers", "()I"⟩, 9), (⟨"TwoLetterForms", "isAsSeen", "(LTwoLetterForms$Form;)Z"⟩, 9), (⟨"TwoLetterForms", "tryEvents", "()V"⟩, 9), (⟨"TwoLetterForms", "tapeAt", "(I)LTwoLetterForms$Tape;"⟩, 9), (⟨"TwoLetterForms$Tape", "lowestBits", "(J)J"⟩, 3), (⟨"TwoLetterFormsModel", "isNumber", "(I)Z"⟩, 39), (⟨"TwoLetterFormsModel", "moves", "(I)Z"⟩, 39), (⟨"TwoLetterFormsModel", "turns", "(JJJJ)V"⟩, 39), (⟨"TwoLetterFormsModel", "multiplies", "(JJ)V"⟩, 39)]
theorem lw_r2 : ∀ q ∈ lw_privs_2, lw_okq q := List.forall_mem_cons.mpr ⟨lw_p16, List.forall_mem_cons.mpr ⟨lw_p17, List.forall_mem_cons.mpr ⟨lw_p18, List.forall_mem_cons.mpr ⟨lw_p19, List.forall_mem_cons.mpr ⟨lw_p20, List.forall_mem_cons.mpr ⟨lw_p21, List.forall_mem_cons.mpr ⟨lw_p22, List.forall_mem_cons.mpr ⟨lw_p23, List.forall_mem_cons.mpr ⟨lw_p24, List.forall_mem_cons.mpr ⟨lw_p25, List.forall_mem_cons.mpr ⟨lw_p26, List.forall_mem_cons.mpr ⟨lw_p27, List.forall_mem_cons.mpr ⟨lw_p28, List.forall_mem_cons.mpr ⟨lw_p29, List.forall_mem_cons.mpr ⟨lw_p30, List.forall_mem_cons.mpr ⟨lw_p31, fun _ h => absurd h List.not_mem_nil⟩⟩⟩⟩⟩⟩⟩⟩⟩⟩⟩⟩⟩⟩⟩⟩
theorem lw_p32 : lw_okq (⟨"TwoLetterFormsModel", "becomesTurned", "()Z"⟩, 39) := ⟨⟨by decide +kernel, by decide +kernel⟩, List.mem_of_getElem? (i := 811) (by decide +kernel), List.mem_of_getElem? (i := 983) (by decide +kernel), List.mem_of_getElem? (i := 984) (by decide +kernel)⟩
theorem lw_p33 : lw_okq (⟨"TwoLetterFormsModel", "remainders", "(I)I"⟩, 39) := ⟨⟨by decide +kernel, by decide +kernel⟩, List.mem_of_getElem? (i := 811) (by decide +kernel), List.mem_of_getElem? (i := 998) (by decide +kernel), List.mem_of_getElem? (i := 999) (by decide +kernel)⟩
theorem lw_p34 : lw_okq (⟨"TwoLetterFormsModel", "valueAt", "(JJ)J"⟩, 39) := ⟨⟨by decide +kernel, by decide +kernel⟩, List.mem_of_getElem? (i := 811) (by decide +kernel), List.mem_of_getElem? (i := 1002) (by decide +kernel), List.mem_of_getElem? (i := 1003) (by decide +kernel)⟩
theorem lw_p35 : lw_okq (⟨"TwoLetterFormsModel", "bars", "(I)Z"⟩, 39) := ⟨⟨by decide +kernel, by decide +kernel⟩, List.mem_of_getElem? (i := 811) (by decide +kernel), List.mem_of_getElem? (i := 1009) (by decide +kernel), List.mem_of_getElem? (i := 1010) (by decide +kernel)⟩
theorem lw_p36 : lw_okq (⟨"TwoLetterFormsModel", "tellsAnswers", "()V"⟩, 39) := ⟨⟨by decide +kernel, by decide +kernel⟩, List.mem_of_getElem? (i := 811) (by decide +kernel), List.mem_of_getElem? (i := 1017) (by decide +kernel), List.mem_of_getElem? (i := 1018) (by decide +kernel)⟩
theorem lw_p37 : lw_okq (⟨"TwoLetterFormsModel", "firstBar", "()I"⟩, 39) := ⟨⟨by decide +kernel, by decide +kernel⟩, List.mem_of_getElem? (i := 811) (by decide +kernel), List.mem_of_getElem? (i := 1021) (by decide +kernel), List.mem_of_getElem? (i := 1022) (by decide +kernel)⟩
theorem lw_p38 : lw_okq (⟨"TwoLetterFormsModel", "tellsParts", "()V"⟩, 39) := ⟨⟨by decide +kernel, by decide +kernel⟩, List.mem_of_getElem? (i := 811) (by decide +kernel), List.mem_of_getElem? (i := 1029) (by decide +kernel), List.mem_of_getElem? (i := 1030) (by decide +kernel)⟩
theorem lw_p39 : lw_okq (⟨"TwoLetterFormsModel", "greatest", "(I)I"⟩, 39) := ⟨⟨by decide +kernel, by decide +kernel⟩, List.mem_of_getElem? (i := 811) (by decide +kernel), List.mem_of_getElem? (i := 1033) (by decide +kernel), List.mem_of_getElem? (i := 1034) (by decide +kernel)⟩
theorem lw_p40 : lw_okq (⟨"TwoLetterFormsModel", "rowAt", "(J)J"⟩, 39) := ⟨⟨by decide +kernel, by decide +kernel⟩, List.mem_of_getElem? (i := 811) (by decide +kernel), List.mem_of_getElem? (i := 1037) (by decide +kernel), List.mem_of_getElem? (i := 1038) (by decide +kernel)⟩
theorem lw_p41 : lw_okq (⟨"TwoLetterFormsModel", "goesOn", "(I)Z"⟩, 39) := ⟨⟨by decide +kernel, by decide +kernel⟩, List.mem_of_getElem? (i := 811) (by decide +kernel), List.mem_of_getElem? (i := 1041) (by decide +kernel), List.mem_of_getElem? (i := 1042) (by decide +kernel)⟩
theorem lw_p42 : lw_okq (⟨"TwoLetterFormsModel", "tellsConvergent", "(I)V"⟩, 39) := ⟨⟨by decide +kernel, by decide +kernel⟩, List.mem_of_getElem? (i := 811) (by decide +kernel), List.mem_of_getElem? (i := 1052) (by decide +kernel), List.mem_of_getElem? (i := 1053) (by decide +kernel)⟩
theorem lw_p43 : lw_okq (⟨"TwoLetterFormsModel", "tellsUnits", "()V"⟩, 39) := ⟨⟨by decide +kernel, by decide +kernel⟩, List.mem_of_getElem? (i := 811) (by decide +kernel), List.mem_of_getElem? (i := 1064) (by decide +kernel), List.mem_of_getElem? (i := 1065) (by decide +kernel)⟩
theorem lw_p44 : lw_okq (⟨"TwoLetterFormsModel", "tellsFamilies", "()V"⟩, 39) := ⟨⟨by decide +kernel, by decide +kernel⟩, List.mem_of_getElem? (i := 811) (by decide +kernel), List.mem_of_getElem? (i := 1068) (by decide +kernel), List.mem_of_getElem? (i := 1069) (by decide +kernel)⟩
theorem lw_p45 : lw_okq (⟨"TwoLetterFormsModel", "cell", "(II)I"⟩, 39) := ⟨⟨by decide +kernel, by decide +kernel⟩, List.mem_of_getElem? (i := 811) (by decide +kernel), List.mem_of_getElem? (i := 1072) (by decide +kernel), List.mem_of_getElem? (i := 1073) (by decide +kernel)⟩
theorem lw_p46 : lw_okq (⟨"TwoLetterFormsModel", "links", "(II)V"⟩, 39) := ⟨⟨by decide +kernel, by decide +kernel⟩, List.mem_of_getElem? (i := 811) (by decide +kernel), List.mem_of_getElem? (i := 1076) (by decide +kernel), List.mem_of_getElem? (i := 1077) (by decide +kernel)⟩
theorem lw_p47 : lw_okq (⟨"TwoLetterFormsModel", "leastOf", "(I)I"⟩, 39) := ⟨⟨by decide +kernel, by decide +kernel⟩, List.mem_of_getElem? (i := 811) (by decide +kernel), List.mem_of_getElem? (i := 1080) (by decide +kernel), List.mem_of_getElem? (i := 1081) (by decide +kernel)⟩
def lw_privs_3 : List (MethodName × Nat) := [(⟨"TwoLetterFormsModel", "becomesTurned", "()Z"⟩, 39), (⟨"TwoLetterFormsModel", "remainders", "(I)I"⟩, 39), (⟨"TwoLetterFormsModel", "valueAt", "(JJ)J"⟩, 39), (⟨"TwoLetterFormsModel", "bars", "(I)Z"⟩, 39), (⟨"TwoLetterFormsModel", "tellsAnswers", "()V"⟩, 39), (⟨"TwoLetterFormsModel", "firstBar", "()I"⟩, 39), (⟨"TwoLetterFormsModel", "tellsParts", "()V"⟩, 39), (⟨"TwoLetterFormsModel", "greatest", "(I)I"⟩, 39), (⟨"TwoLetterFormsModel", "rowAt", "(J)J"⟩, 39), (⟨"TwoLetterFormsModel", "goesOn", "(I)Z"⟩, 39), (⟨"TwoLetterFormsModel", "tellsConvergent", "(I)V"⟩, 39), (⟨"TwoLetterFormsModel", "tellsUnits", "()V"⟩, 39), (⟨"TwoLetterFormsModel", "tellsFamilies", "()V"⟩, 39), (⟨"TwoLetterFormsModel", "cell", "(II)I"⟩, 39), (⟨"TwoLetterFormsModel", "links", "(II)V"⟩, 39), (⟨"TwoLetterFormsModel", "leastOf", "(I)I"⟩, 39)]
theorem lw_r3 : ∀ q ∈ lw_privs_3, lw_okq q := List.forall_mem_cons.mpr ⟨lw_p32, List.forall_mem_cons.mpr ⟨lw_p33, List.forall_mem_cons.mpr ⟨lw_p34, List.forall_mem_cons.mpr ⟨lw_p35, List.forall_mem_cons.mpr ⟨lw_p36, List.forall_mem_cons.mpr ⟨lw_p37, List.forall_mem_cons.mpr ⟨lw_p38, List.forall_mem_cons.mpr ⟨lw_p39, List.forall_mem_cons.mpr ⟨lw_p40, List.forall_mem_cons.mpr ⟨lw_p41, List.forall_mem_cons.mpr ⟨lw_p42, List.forall_mem_cons.mpr ⟨lw_p43, List.forall_mem_cons.mpr ⟨lw_p44, List.forall_mem_cons.mpr ⟨lw_p45, List.forall_mem_cons.mpr ⟨lw_p46, List.forall_mem_cons.mpr ⟨lw_p47, fun _ h => absurd h List.not_mem_nil⟩⟩⟩⟩⟩⟩⟩⟩⟩⟩⟩⟩⟩⟩⟩⟩
theorem lw_p48 : lw_okq (⟨"TwoLetterFormsModel", "answering", "()I"⟩, 39) := ⟨⟨by decide +kernel, by decide +kernel⟩, List.mem_of_getElem? (i := 811) (by decide +kernel), List.mem_of_getElem? (i := 1084) (by decide +kernel), List.mem_of_getElem? (i := 1085) (by decide +kernel)⟩
theorem lw_p49 : lw_okq (⟨"TwoLetterFormsModel", "readsClause", "(I)Z"⟩, 39) := ⟨⟨by decide +kernel, by decide +kernel⟩, List.mem_of_getElem? (i := 811) (by decide +kernel), List.mem_of_getElem? (i := 1116) (by decide +kernel), List.mem_of_getElem? (i := 1117) (by decide +kernel)⟩
theorem lw_p50 : lw_okq (⟨"TwoLetterFormsModel", "here", "()I"⟩, 39) := ⟨⟨by decide +kernel, by decide +kernel⟩, List.mem_of_getElem? (i := 811) (by decide +kernel), List.mem_of_getElem? (i := 1120) (by decide +kernel), List.mem_of_getElem? (i := 1121) (by decide +kernel)⟩
theorem lw_p51 : lw_okq (⟨"TwoLetterFormsModel", "readsDigit", "(I)Z"⟩, 39) := ⟨⟨by decide +kernel, by decide +kernel⟩, List.mem_of_getElem? (i := 811) (by decide +kernel), List.mem_of_getElem? (i := 1124) (by decide +kernel), List.mem_of_getElem? (i := 1125) (by decide +kernel)⟩
theorem lw_p52 : lw_okq (⟨"TwoLetterFormsModel", "isDigit", "()Z"⟩, 39) := ⟨⟨by decide +kernel, by decide +kernel⟩, List.mem_of_getElem? (i := 811) (by decide +kernel), List.mem_of_getElem? (i := 1128) (by decide +kernel), List.mem_of_getElem? (i := 1129) (by decide +kernel)⟩
theorem lw_p53 : lw_okq (⟨"TwoLetterFormsModel", "readsNumber", "(I)Z"⟩, 39) := ⟨⟨by decide +kernel, by decide +kernel⟩, List.mem_of_getElem? (i := 811) (by decide +kernel), List.mem_of_getElem? (i := 1134) (by decide +kernel), List.mem_of_getElem? (i := 1135) (by decide +kernel)⟩
theorem lw_p54 : lw_okq (⟨"TwoLetterFormsModel", "does", "(I)I"⟩, 39) := ⟨⟨by decide +kernel, by decide +kernel⟩, List.mem_of_getElem? (i := 811) (by decide +kernel), List.mem_of_getElem? (i := 1138) (by decide +kernel), List.mem_of_getElem? (i := 1139) (by decide +kernel)⟩
theorem lw_p55 : lw_okq (⟨"TwoLetterFormsModel", "happens", "(II)V"⟩, 39) := ⟨⟨by decide +kernel, by decide +kernel⟩, List.mem_of_getElem? (i := 811) (by decide +kernel), List.mem_of_getElem? (i := 1174) (by decide +kernel), List.mem_of_getElem? (i := 1175) (by decide +kernel)⟩
theorem lw_p56 : lw_okq (⟨"TwoLetterFormsModel", "lays", "(Z)V"⟩, 39) := ⟨⟨by decide +kernel, by decide +kernel⟩, List.mem_of_getElem? (i := 811) (by decide +kernel), List.mem_of_getElem? (i := 1201) (by decide +kernel), List.mem_of_getElem? (i := 1202) (by decide +kernel)⟩
theorem lw_p57 : lw_okq (⟨"TwoLetterFormsModel", "laysRow", "(Z[II)V"⟩, 39) := ⟨⟨by decide +kernel, by decide +kernel⟩, List.mem_of_getElem? (i := 811) (by decide +kernel), List.mem_of_getElem? (i := 1205) (by decide +kernel), List.mem_of_getElem? (i := 1206) (by decide +kernel)⟩
theorem lw_p58 : lw_okq (⟨"TwoLetterFormsModel", "areThere", "(III)Z"⟩, 39) := ⟨⟨by decide +kernel, by decide +kernel⟩, List.mem_of_getElem? (i := 811) (by decide +kernel), List.mem_of_getElem? (i := 1236) (by decide +kernel), List.mem_of_getElem? (i := 1237) (by decide +kernel)⟩
def lw_privs_4 : List (MethodName × Nat) := [(⟨"TwoLetterFormsModel", "answering", "()I"⟩, 39), (⟨"TwoLetterFormsModel", "readsClause", "(I)Z"⟩, 39), (⟨"TwoLetterFormsModel", "here", "()I"⟩, 39), (⟨"TwoLetterFormsModel", "readsDigit", "(I)Z"⟩, 39), (⟨"TwoLetterFormsModel", "isDigit", "()Z"⟩, 39), (⟨"TwoLetterFormsModel", "readsNumber", "(I)Z"⟩, 39), (⟨"TwoLetterFormsModel", "does", "(I)I"⟩, 39), (⟨"TwoLetterFormsModel", "happens", "(II)V"⟩, 39), (⟨"TwoLetterFormsModel", "lays", "(Z)V"⟩, 39), (⟨"TwoLetterFormsModel", "laysRow", "(Z[II)V"⟩, 39), (⟨"TwoLetterFormsModel", "areThere", "(III)Z"⟩, 39)]
theorem lw_r4 : ∀ q ∈ lw_privs_4, lw_okq q := List.forall_mem_cons.mpr ⟨lw_p48, List.forall_mem_cons.mpr ⟨lw_p49, List.forall_mem_cons.mpr ⟨lw_p50, List.forall_mem_cons.mpr ⟨lw_p51, List.forall_mem_cons.mpr ⟨lw_p52, List.forall_mem_cons.mpr ⟨lw_p53, List.forall_mem_cons.mpr ⟨lw_p54, List.forall_mem_cons.mpr ⟨lw_p55, List.forall_mem_cons.mpr ⟨lw_p56, List.forall_mem_cons.mpr ⟨lw_p57, List.forall_mem_cons.mpr ⟨lw_p58, fun _ h => absurd h List.not_mem_nil⟩⟩⟩⟩⟩⟩⟩⟩⟩⟩⟩
def lw_privs : List (MethodName × Nat) := lw_privs_1 ++ (lw_privs_2 ++ (lw_privs_3 ++ (lw_privs_4)))
def lw_tbl : List Cond := k2_sels lw_privs ++ tables_1
theorem lw_privs_ok : ∀ q ∈ lw_privs, lw_okq q := by
  show ∀ q ∈ lw_privs_1 ++ (lw_privs_2 ++ (lw_privs_3 ++ (lw_privs_4))), lw_okq q
  exact List.forall_mem_append.mpr ⟨lw_r1, List.forall_mem_append.mpr ⟨lw_r2, List.forall_mem_append.mpr ⟨lw_r3, lw_r4⟩⟩⟩
def RX0 : String := "TwoLetterForms$Answers"
def TX0 : u_T := fun k => match k with
  | 0 => ("TwoLetterForms$Answers", "size", "I", false)
  | 1 => ("TwoLetterForms$Answers", "families", "I", false)
  | 2 => ("TwoLetterForms$Answers", "looked", "Z", false)
  | 3 => ("TwoLetterForms$Answers", "familiesFound", "Z", false)
  | 4 => ("TwoLetterForms$Answers", "equation", "LTwoLetterForms$Equation;", true)
  | _ => ("TwoLetterForms$Answers", "labels", "[I", true)
def tyX0 : Nat → FieldType := fun k => match k with
  | 0 => .int
  | 1 => .int
  | 2 => .boolean
  | 3 => .boolean
  | 4 => .object "TwoLetterForms$Equation"
  | _ => .array .int
abbrev wsX00 : List Cond := u_ws RX0 TX0 6
theorem nmX0 : ∀ a, a < 6 → ∀ b, b < 6 → a ≠ b → (TX0 a).2.1 ≠ (TX0 b).2.1 := by decide +kernel
theorem tyX0_ok : ∀ k, k < 6 → parseFieldDescriptor (TX0 k).2.2.1 = some (tyX0 k) := by decide +kernel
abbrev cX0_init : ByteArray := prog_2_method_1_code
def yX0_init : MethodName := ⟨RX0, "<init>", "()V"⟩
abbrev cX0_xOf : ByteArray := prog_2_method_2_code
def yX0_xOf : MethodName := ⟨RX0, "xOf", "(I)I"⟩
abbrev cX0_yOf : ByteArray := prog_2_method_3_code
def yX0_yOf : MethodName := ⟨RX0, "yOf", "(I)I"⟩
abbrev cX0_look : ByteArray := prog_2_method_4_code
def yX0_look : MethodName := ⟨RX0, "look", "(LTwoLetterForms$Equation;)V"⟩
abbrev cX0_findFamilies : ByteArray := prog_2_method_5_code
def yX0_findFamilies : MethodName := ⟨RX0, "findFamilies", "(LTwoLetterForms$Units;)V"⟩
abbrev cX0_cellOfAnswer : ByteArray := prog_2_method_6_code
def yX0_cellOfAnswer : MethodName := ⟨RX0, "cellOfAnswer", "(I)I"⟩
abbrev cX0_sizeOfFamily : ByteArray := prog_2_method_7_code
def yX0_sizeOfFamily : MethodName := ⟨RX0, "sizeOfFamily", "(I)I"⟩
abbrev cX0_labelAt : ByteArray := prog_2_method_8_code
def yX0_labelAt : MethodName := ⟨RX0, "labelAt", "(I)I"⟩
abbrev cX0_setLabel : ByteArray := prog_2_method_9_code
def yX0_setLabel : MethodName := ⟨RX0, "setLabel", "(II)V"⟩
abbrev cX0_cellAt : ByteArray := prog_2_method_10_code
def yX0_cellAt : MethodName := ⟨RX0, "cellAt", "(II)I"⟩
abbrev cX0_spread : ByteArray := prog_2_method_11_code
def yX0_spread : MethodName := ⟨RX0, "spread", "(ILTwoLetterForms$Units;)V"⟩
abbrev cX0_await : ByteArray := prog_2_method_12_code
def yX0_await : MethodName := ⟨RX0, "await", "(II)I"⟩
abbrev cX0_behind : ByteArray := prog_2_method_13_code
def yX0_behind : MethodName := ⟨RX0, "behind", "(I)I"⟩
def RX1 : String := "TwoLetterForms$Equation"
def TX1 : u_T := fun k => match k with
  | 0 => ("TwoLetterForms$Equation", "form", "LTwoLetterForms$Form;", true)
  | 1 => ("TwoLetterForms$Equation", "m", "I", false)
  | _ => ("TwoLetterForms$Equation", "b", "I", false)
def tyX1 : Nat → FieldType := fun k => match k with
  | 0 => .object "TwoLetterForms$Form"
  | 1 => .int
  | _ => .int
abbrev wsX10 : List Cond := u_ws RX1 TX1 3
theorem nmX1 : ∀ a, a < 3 → ∀ b, b < 3 → a ≠ b → (TX1 a).2.1 ≠ (TX1 b).2.1 := by decide +kernel
theorem tyX1_ok : ∀ k, k < 3 → parseFieldDescriptor (TX1 k).2.2.1 = some (tyX1 k) := by decide +kernel
abbrev cX1_init : ByteArray := prog_3_method_1_code
def yX1_init : MethodName := ⟨RX1, "<init>", "()V"⟩
abbrev cX1_copy : ByteArray := prog_3_method_2_code
def yX1_copy : MethodName := ⟨RX1, "copy", "(LTwoLetterForms$Equation;)V"⟩
abbrev cX1_isLike : ByteArray := prog_3_method_3_code
def yX1_isLike : MethodName := ⟨RX1, "isLike", "(LTwoLetterForms$Equation;)Z"⟩
abbrev cX1_hasInWindow : ByteArray := prog_3_method_4_code
def yX1_hasInWindow : MethodName := ⟨RX1, "hasInWindow", "(JJ)Z"⟩
abbrev cX1_isAnswer : ByteArray := prog_3_method_5_code
def yX1_isAnswer : MethodName := ⟨RX1, "isAnswer", "(JJ)Z"⟩
abbrev cX1_twos : ByteArray := prog_3_method_6_code
def yX1_twos : MethodName := ⟨RX1, "twos", "()J"⟩
abbrev cX1_howManyAnswers : ByteArray := prog_3_method_7_code
def yX1_howManyAnswers : MethodName := ⟨RX1, "howManyAnswers", "()I"⟩
abbrev cX1_valuesAboveM : ByteArray := prog_3_method_8_code
def yX1_valuesAboveM : MethodName := ⟨RX1, "valuesAboveM", "()J"⟩
abbrev cX1_valuesTogether : ByteArray := prog_3_method_9_code
def yX1_valuesTogether : MethodName := ⟨RX1, "valuesTogether", "()J"⟩
abbrev cX1_isBarredBy : ByteArray := prog_3_method_10_code
def yX1_isBarredBy : MethodName := ⟨RX1, "isBarredBy", "(I)Z"⟩
abbrev cX1_firstBar : ByteArray := prog_3_method_11_code
def yX1_firstBar : MethodName := ⟨RX1, "firstBar", "()I"⟩
abbrev cX1_addToM : ByteArray := prog_3_method_12_code
def yX1_addToM : MethodName := ⟨RX1, "addToM", "(I)V"⟩
def RX2 : String := "TwoLetterForms$Form"
def TX2 : u_T := fun k => match k with
  | 0 => ("TwoLetterForms$Form", "degree", "I", false)
  | 1 => ("TwoLetterForms$Form", "numbers", "[I", true)
  | 2 => ("TwoLetterForms$Form", "turned", "[J", true)
  | _ => ("TwoLetterForms$Form", "power", "[J", true)
def tyX2 : Nat → FieldType := fun k => match k with
  | 0 => .int
  | 1 => .array .int
  | 2 => .array .long
  | _ => .array .long
abbrev wsX20 : List Cond := u_ws RX2 TX2 4
theorem nmX2 : ∀ a, a < 4 → ∀ b, b < 4 → a ≠ b → (TX2 a).2.1 ≠ (TX2 b).2.1 := by decide +kernel
theorem tyX2_ok : ∀ k, k < 4 → parseFieldDescriptor (TX2 k).2.2.1 = some (tyX2 k) := by decide +kernel
abbrev cX2_init : ByteArray := prog_4_method_1_code
def yX2_init : MethodName := ⟨RX2, "<init>", "()V"⟩
abbrev cX2_isMove : ByteArray := prog_4_method_2_code
def yX2_isMove : MethodName := ⟨RX2, "isMove", "(I)Z"⟩
abbrev cX2_clear : ByteArray := prog_4_method_3_code
def yX2_clear : MethodName := ⟨RX2, "clear", "(I)V"⟩
abbrev cX2_copy : ByteArray := prog_4_method_4_code
def yX2_copy : MethodName := ⟨RX2, "copy", "(LTwoLetterForms$Form;)V"⟩
abbrev cX2_isLike : ByteArray := prog_4_method_5_code
def yX2_isLike : MethodName := ⟨RX2, "isLike", "(LTwoLetterForms$Form;)Z"⟩
abbrev cX2_has : ByteArray := prog_4_method_6_code
def yX2_has : MethodName := ⟨RX2, "has", "(I)Z"⟩
abbrev cX2_get : ByteArray := prog_4_method_7_code
def yX2_get : MethodName := ⟨RX2, "get", "(I)I"⟩
abbrev cX2_set : ByteArray := prog_4_method_8_code
def yX2_set : MethodName := ⟨RX2, "set", "(II)V"⟩
abbrev cX2_raise : ByteArray := prog_4_method_9_code
def yX2_raise : MethodName := ⟨RX2, "raise", "(I)V"⟩
abbrev cX2_at : ByteArray := prog_4_method_10_code
def yX2_at : MethodName := ⟨RX2, "at", "(JJ)J"⟩
abbrev cX2_remaindersBy : ByteArray := prog_4_method_11_code
def yX2_remaindersBy : MethodName := ⟨RX2, "remaindersBy", "(I)I"⟩
abbrev cX2_moveBy : ByteArray := prog_4_method_12_code
def yX2_moveBy : MethodName := ⟨RX2, "moveBy", "(I)Z"⟩
abbrev cX2_turnBy : ByteArray := prog_4_method_13_code
def yX2_turnBy : MethodName := ⟨RX2, "turnBy", "(IIII)Z"⟩
abbrev cX2_isLeftBy : ByteArray := prog_4_method_14_code
def yX2_isLeftBy : MethodName := ⟨RX2, "isLeftBy", "(IIII)Z"⟩
abbrev cX2_findTurned : ByteArray := prog_4_method_15_code
def yX2_findTurned : MethodName := ⟨RX2, "findTurned", "(IIII)V"⟩
abbrev cX2_multiply : ByteArray := prog_4_method_16_code
def yX2_multiply : MethodName := ⟨RX2, "multiply", "([JII)V"⟩
def RX3 : String := "TwoLetterForms$Parts"
def TX3 : u_T := fun k => match k with
  | 0 => ("TwoLetterForms$Parts", "size", "I", false)
  | 1 => ("TwoLetterForms$Parts", "degree", "I", false)
  | 2 => ("TwoLetterForms$Parts", "row", "[J", true)
  | 3 => ("TwoLetterForms$Parts", "wholes", "[I", true)
  | 4 => ("TwoLetterForms$Parts", "aboves", "[J", true)
  | _ => ("TwoLetterForms$Parts", "belows", "[J", true)
def tyX3 : Nat → FieldType := fun k => match k with
  | 0 => .int
  | 1 => .int
  | 2 => .array .long
  | 3 => .array .int
  | 4 => .array .long
  | _ => .array .long
abbrev wsX30 : List Cond := u_ws RX3 TX3 6
theorem nmX3 : ∀ a, a < 6 → ∀ b, b < 6 → a ≠ b → (TX3 a).2.1 ≠ (TX3 b).2.1 := by decide +kernel
theorem tyX3_ok : ∀ k, k < 6 → parseFieldDescriptor (TX3 k).2.2.1 = some (tyX3 k) := by decide +kernel
abbrev cX3_init : ByteArray := prog_5_method_1_code
def yX3_init : MethodName := ⟨RX3, "<init>", "()V"⟩
abbrev cX3_look : ByteArray := prog_5_method_2_code
def yX3_look : MethodName := ⟨RX3, "look", "(LTwoLetterForms$Form;)V"⟩
abbrev cX3_get : ByteArray := prog_5_method_3_code
def yX3_get : MethodName := ⟨RX3, "get", "(I)I"⟩
abbrev cX3_above : ByteArray := prog_5_method_4_code
def yX3_above : MethodName := ⟨RX3, "above", "(I)J"⟩
abbrev cX3_below : ByteArray := prog_5_method_5_code
def yX3_below : MethodName := ⟨RX3, "below", "(I)J"⟩
abbrev cX3_greatestFrom : ByteArray := prog_5_method_6_code
def yX3_greatestFrom : MethodName := ⟨RX3, "greatestFrom", "(I)I"⟩
abbrev cX3_at : ByteArray := prog_5_method_7_code
def yX3_at : MethodName := ⟨RX3, "at", "(I)J"⟩
abbrev cX3_keep : ByteArray := prog_5_method_8_code
def yX3_keep : MethodName := ⟨RX3, "keep", "(I)V"⟩
abbrev cX3_goBehind : ByteArray := prog_5_method_9_code
def yX3_goBehind : MethodName := ⟨RX3, "goBehind", "(I)V"⟩
abbrev cX3_isRowBeyond : ByteArray := prog_5_method_10_code
def yX3_isRowBeyond : MethodName := ⟨RX3, "isRowBeyond", "()Z"⟩
def RX4 : String := "TwoLetterForms$Rows"
def TX4 : u_T := fun k => match k with
  | 0 => ("TwoLetterForms$Rows", "size", "I", false)
  | _ => ("TwoLetterForms$Rows", "cells", "[I", true)
def tyX4 : Nat → FieldType := fun k => match k with
  | 0 => .int
  | _ => .array .int
abbrev wsX40 : List Cond := u_ws RX4 TX4 2
theorem nmX4 : ∀ a, a < 2 → ∀ b, b < 2 → a ≠ b → (TX4 a).2.1 ≠ (TX4 b).2.1 := by decide +kernel
theorem tyX4_ok : ∀ k, k < 2 → parseFieldDescriptor (TX4 k).2.2.1 = some (tyX4 k) := by decide +kernel
abbrev cX4_init : ByteArray := prog_6_method_1_code
def yX4_init : MethodName := ⟨RX4, "<init>", "(I)V"⟩
abbrev cX4_empty : ByteArray := prog_6_method_2_code
def yX4_empty : MethodName := ⟨RX4, "empty", "()I"⟩
abbrev cX4_add : ByteArray := prog_6_method_3_code
def yX4_add : MethodName := ⟨RX4, "add", "(III)I"⟩
abbrev cX4_copy : ByteArray := prog_6_method_4_code
def yX4_copy : MethodName := ⟨RX4, "copy", "(LTwoLetterForms$Rows;)V"⟩
abbrev cX4_first : ByteArray := prog_6_method_5_code
def yX4_first : MethodName := ⟨RX4, "first", "(I)I"⟩
abbrev cX4_second : ByteArray := prog_6_method_6_code
def yX4_second : MethodName := ⟨RX4, "second", "(I)I"⟩
abbrev cX4_third : ByteArray := prog_6_method_7_code
def yX4_third : MethodName := ⟨RX4, "third", "(I)I"⟩
abbrev cX4_cell : ByteArray := prog_6_method_8_code
def yX4_cell : MethodName := ⟨RX4, "cell", "(II)I"⟩
def RX5 : String := "TwoLetterForms$SetUp"
def TX5 : u_T := fun k => match k with
  | 0 => ("TwoLetterForms$SetUp", "size", "I", false)
  | 1 => ("TwoLetterForms$SetUp", "clauses", "LTwoLetterForms$Rows;", true)
  | 2 => ("TwoLetterForms$SetUp", "bytes", "[I", true)
  | 3 => ("TwoLetterForms$SetUp", "place", "I", false)
  | 4 => ("TwoLetterForms$SetUp", "digit", "I", false)
  | _ => ("TwoLetterForms$SetUp", "n", "I", false)
def tyX5 : Nat → FieldType := fun k => match k with
  | 0 => .int
  | 1 => .object "TwoLetterForms$Rows"
  | 2 => .array .int
  | 3 => .int
  | 4 => .int
  | _ => .int
abbrev wsX50 : List Cond := u_ws RX5 TX5 6
theorem nmX5 : ∀ a, a < 6 → ∀ b, b < 6 → a ≠ b → (TX5 a).2.1 ≠ (TX5 b).2.1 := by decide +kernel
theorem tyX5_ok : ∀ k, k < 6 → parseFieldDescriptor (TX5 k).2.2.1 = some (tyX5 k) := by decide +kernel
abbrev cX5_init : ByteArray := prog_7_method_1_code
def yX5_init : MethodName := ⟨RX5, "<init>", "()V"⟩
abbrev cX5_add : ByteArray := prog_7_method_2_code
def yX5_add : MethodName := ⟨RX5, "add", "(I)Z"⟩
abbrev cX5_findFault : ByteArray := prog_7_method_3_code
def yX5_findFault : MethodName := ⟨RX5, "findFault", "()I"⟩
abbrev cX5_next : ByteArray := prog_7_method_4_code
def yX5_next : MethodName := ⟨RX5, "next", "()I"⟩
abbrev cX5_takeClause : ByteArray := prog_7_method_5_code
def yX5_takeClause : MethodName := ⟨RX5, "takeClause", "()Z"⟩
abbrev cX5_isKind : ByteArray := prog_7_method_6_code
def yX5_isKind : MethodName := ⟨RX5, "isKind", "(I)Z"⟩
abbrev cX5_hasDigit : ByteArray := prog_7_method_7_code
def yX5_hasDigit : MethodName := ⟨RX5, "hasDigit", "(I)Z"⟩
abbrev cX5_hasNumber : ByteArray := prog_7_method_8_code
def yX5_hasNumber : MethodName := ⟨RX5, "hasNumber", "(I)Z"⟩
abbrev cX5_isAtDigit : ByteArray := prog_7_method_9_code
def yX5_isAtDigit : MethodName := ⟨RX5, "isAtDigit", "()Z"⟩
abbrev cX5_takeDigit : ByteArray := prog_7_method_10_code
def yX5_takeDigit : MethodName := ⟨RX5, "takeDigit", "()Z"⟩
abbrev cX5_takeNumber : ByteArray := prog_7_method_11_code
def yX5_takeNumber : MethodName := ⟨RX5, "takeNumber", "()Z"⟩
def RX6 : String := "TwoLetterForms$State"
def TX6 : u_T := fun k => match k with
  | 0 => ("TwoLetterForms$State", "equation", "LTwoLetterForms$Equation;", true)
  | 1 => ("TwoLetterForms$State", "seen", "LTwoLetterForms$Rows;", true)
  | 2 => ("TwoLetterForms$State", "events", "LTwoLetterForms$Rows;", true)
  | _ => ("TwoLetterForms$State", "book", "LTwoLetterForms$Rows;", true)
def tyX6 : Nat → FieldType := fun k => match k with
  | 0 => .object "TwoLetterForms$Equation"
  | 1 => .object "TwoLetterForms$Rows"
  | 2 => .object "TwoLetterForms$Rows"
  | _ => .object "TwoLetterForms$Rows"
abbrev wsX60 : List Cond := u_ws RX6 TX6 4
theorem nmX6 : ∀ a, a < 4 → ∀ b, b < 4 → a ≠ b → (TX6 a).2.1 ≠ (TX6 b).2.1 := by decide +kernel
theorem tyX6_ok : ∀ k, k < 4 → parseFieldDescriptor (TX6 k).2.2.1 = some (tyX6 k) := by decide +kernel
abbrev cX6_init : ByteArray := prog_8_method_1_code
def yX6_init : MethodName := ⟨RX6, "<init>", "()V"⟩
abbrev cX6_copy : ByteArray := prog_8_method_2_code
def yX6_copy : MethodName := ⟨RX6, "copy", "(LTwoLetterForms$State;)V"⟩
def RX7 : String := "TwoLetterForms$Tape"
def TX7 : u_T := fun k => match k with
  | 0 => ("TwoLetterForms$Tape", "sort", "I", false)
  | 1 => ("TwoLetterForms$Tape", "items", "[J", true)
  | _ => ("TwoLetterForms$Tape", "size", "I", false)
def tyX7 : Nat → FieldType := fun k => match k with
  | 0 => .int
  | 1 => .array .long
  | _ => .int
abbrev wsX70 : List Cond := u_ws RX7 TX7 3
theorem nmX7 : ∀ a, a < 3 → ∀ b, b < 3 → a ≠ b → (TX7 a).2.1 ≠ (TX7 b).2.1 := by decide +kernel
theorem tyX7_ok : ∀ k, k < 3 → parseFieldDescriptor (TX7 k).2.2.1 = some (tyX7 k) := by decide +kernel
abbrev cX7_init : ByteArray := prog_9_method_1_code
def yX7_init : MethodName := ⟨RX7, "<init>", "()V"⟩
abbrev cX7_become : ByteArray := prog_9_method_2_code
def yX7_become : MethodName := ⟨RX7, "become", "(II)V"⟩
abbrev cX7_holdsNothing : ByteArray := prog_9_method_3_code
def yX7_holdsNothing : MethodName := ⟨RX7, "holdsNothing", "()Z"⟩
abbrev cX7_has : ByteArray := prog_9_method_4_code
def yX7_has : MethodName := ⟨RX7, "has", "(I)Z"⟩
abbrev cX7_hasAll : ByteArray := prog_9_method_5_code
def yX7_hasAll : MethodName := ⟨RX7, "hasAll", "(II)Z"⟩
abbrev cX7_get : ByteArray := prog_9_method_6_code
def yX7_get : MethodName := ⟨RX7, "get", "(I)J"⟩
abbrev cX7_set : ByteArray := prog_9_method_7_code
def yX7_set : MethodName := ⟨RX7, "set", "(IJ)V"⟩
abbrev cX7_lowestBits : ByteArray := prog_9_method_8_code
def yX7_lowestBits : MethodName := ⟨RX7, "lowestBits", "(J)J"⟩
def RX8 : String := "TwoLetterForms$Units"
def TX8 : u_T := fun k => match k with
  | 0 => ("TwoLetterForms$Units", "size", "I", false)
  | _ => ("TwoLetterForms$Units", "entries", "[I", true)
def tyX8 : Nat → FieldType := fun k => match k with
  | 0 => .int
  | _ => .array .int
abbrev wsX80 : List Cond := u_ws RX8 TX8 2
theorem nmX8 : ∀ a, a < 2 → ∀ b, b < 2 → a ≠ b → (TX8 a).2.1 ≠ (TX8 b).2.1 := by decide +kernel
theorem tyX8_ok : ∀ k, k < 2 → parseFieldDescriptor (TX8 k).2.2.1 = some (tyX8 k) := by decide +kernel
abbrev cX8_init : ByteArray := prog_10_method_1_code
def yX8_init : MethodName := ⟨RX8, "<init>", "()V"⟩
abbrev cX8_look : ByteArray := prog_10_method_2_code
def yX8_look : MethodName := ⟨RX8, "look", "(LTwoLetterForms$Form;)V"⟩
abbrev cX8_get : ByteArray := prog_10_method_3_code
def yX8_get : MethodName := ⟨RX8, "get", "(II)I"⟩
abbrev cX8_add : ByteArray := prog_10_method_4_code
def yX8_add : MethodName := ⟨RX8, "add", "(IIII)V"⟩
def RX9 : String := "TwoLetterForms"
def TX9 : u_T := fun k => match k with
  | 0 => ("TwoLetterForms", "now", "LTwoLetterForms$State;", true)
  | 1 => ("TwoLetterForms", "kept", "LTwoLetterForms$State;", true)
  | 2 => ("TwoLetterForms", "imageTaken", "Z", false)
  | 3 => ("TwoLetterForms", "tried", "LTwoLetterForms$Equation;", true)
  | 4 => ("TwoLetterForms", "answers", "LTwoLetterForms$Answers;", true)
  | 5 => ("TwoLetterForms", "units", "LTwoLetterForms$Units;", true)
  | 6 => ("TwoLetterForms", "parts", "LTwoLetterForms$Parts;", true)
  | 7 => ("TwoLetterForms", "text", "LTwoLetterForms$SetUp;", true)
  | _ => ("TwoLetterForms", "tapes", "[LTwoLetterForms$Tape;", true)
def tyX9 : Nat → FieldType := fun k => match k with
  | 0 => .object "TwoLetterForms$State"
  | 1 => .object "TwoLetterForms$State"
  | 2 => .boolean
  | 3 => .object "TwoLetterForms$Equation"
  | 4 => .object "TwoLetterForms$Answers"
  | 5 => .object "TwoLetterForms$Units"
  | 6 => .object "TwoLetterForms$Parts"
  | 7 => .object "TwoLetterForms$SetUp"
  | _ => .array (.object "TwoLetterForms$Tape")
abbrev wsX90 : List Cond := u_ws RX9 TX9 9
theorem nmX9 : ∀ a, a < 9 → ∀ b, b < 9 → a ≠ b → (TX9 a).2.1 ≠ (TX9 b).2.1 := by decide +kernel
theorem tyX9_ok : ∀ k, k < 9 → parseFieldDescriptor (TX9 k).2.2.1 = some (tyX9 k) := by decide +kernel
abbrev cX9_init : ByteArray := prog_1_method_1_code
def yX9_init : MethodName := ⟨RX9, "<init>", "()V"⟩
abbrev cX9_degree : ByteArray := prog_1_method_2_code
def yX9_degree : MethodName := ⟨RX9, "degree", "(I)I"⟩
abbrev cX9_number : ByteArray := prog_1_method_3_code
def yX9_number : MethodName := ⟨RX9, "number", "(II)I"⟩
abbrev cX9_equal : ByteArray := prog_1_method_4_code
def yX9_equal : MethodName := ⟨RX9, "equal", "(I)I"⟩
abbrev cX9_window : ByteArray := prog_1_method_5_code
def yX9_window : MethodName := ⟨RX9, "window", "(I)I"⟩
abbrev cX9_move : ByteArray := prog_1_method_6_code
def yX9_move : MethodName := ⟨RX9, "move", "(I)I"⟩
abbrev cX9_turn : ByteArray := prog_1_method_7_code
def yX9_turn : MethodName := ⟨RX9, "turn", "(IIII)I"⟩
abbrev cX9_feed : ByteArray := prog_1_method_8_code
def yX9_feed : MethodName := ⟨RX9, "feed", "(I)I"⟩
abbrev cX9_read : ByteArray := prog_1_method_9_code
def yX9_read : MethodName := ⟨RX9, "read", "()I"⟩
abbrev cX9_of : ByteArray := prog_1_method_10_code
def yX9_of : MethodName := ⟨RX9, "of", "(I)I"⟩
abbrev cX9_told : ByteArray := prog_1_method_11_code
def yX9_told : MethodName := ⟨RX9, "told", "(I)I"⟩
abbrev cX9_value : ByteArray := prog_1_method_12_code
def yX9_value : MethodName := ⟨RX9, "value", "(II)J"⟩
abbrev cX9_answer : ByteArray := prog_1_method_13_code
def yX9_answer : MethodName := ⟨RX9, "answer", "(II)I"⟩
abbrev cX9_prime : ByteArray := prog_1_method_14_code
def yX9_prime : MethodName := ⟨RX9, "prime", "(II)I"⟩
abbrev cX9_reason : ByteArray := prog_1_method_15_code
def yX9_reason : MethodName := ⟨RX9, "reason", "(I)I"⟩
abbrev cX9_unit : ByteArray := prog_1_method_16_code
def yX9_unit : MethodName := ⟨RX9, "unit", "(II)I"⟩
abbrev cX9_family : ByteArray := prog_1_method_17_code
def yX9_family : MethodName := ⟨RX9, "family", "(I)I"⟩
abbrev cX9_part : ByteArray := prog_1_method_18_code
def yX9_part : MethodName := ⟨RX9, "part", "(I)I"⟩
abbrev cX9_convergent : ByteArray := prog_1_method_19_code
def yX9_convergent : MethodName := ⟨RX9, "convergent", "(II)J"⟩
abbrev cX9_see : ByteArray := prog_1_method_20_code
def yX9_see : MethodName := ⟨RX9, "see", "(III)I"⟩
abbrev cX9_fits : ByteArray := prog_1_method_21_code
def yX9_fits : MethodName := ⟨RX9, "fits", "(II)I"⟩
abbrev cX9_odds : ByteArray := prog_1_method_22_code
def yX9_odds : MethodName := ⟨RX9, "odds", "(I)J"⟩
abbrev cX9_mean : ByteArray := prog_1_method_23_code
def yX9_mean : MethodName := ⟨RX9, "mean", "(I)J"⟩
abbrev cX9_event : ByteArray := prog_1_method_24_code
def yX9_event : MethodName := ⟨RX9, "event", "(II)I"⟩
abbrev cX9_after : ByteArray := prog_1_method_25_code
def yX9_after : MethodName := ⟨RX9, "after", "(I)I"⟩
abbrev cX9_book : ByteArray := prog_1_method_26_code
def yX9_book : MethodName := ⟨RX9, "book", "(II)I"⟩
abbrev cX9_looked : ByteArray := prog_1_method_27_code
def yX9_looked : MethodName := ⟨RX9, "looked", "()I"⟩
abbrev cX9_judge : ByteArray := prog_1_method_28_code
def yX9_judge : MethodName := ⟨RX9, "judge", "(II)I"⟩
abbrev cX9_image : ByteArray := prog_1_method_29_code
def yX9_image : MethodName := ⟨RX9, "image", "()I"⟩
abbrev cX9_undo : ByteArray := prog_1_method_30_code
def yX9_undo : MethodName := ⟨RX9, "undo", "()I"⟩
abbrev cX9_count : ByteArray := prog_1_method_31_code
def yX9_count : MethodName := ⟨RX9, "count", "(I)I"⟩
abbrev cX9_tape : ByteArray := prog_1_method_32_code
def yX9_tape : MethodName := ⟨RX9, "tape", "(III)I"⟩
abbrev cX9_item : ByteArray := prog_1_method_33_code
def yX9_item : MethodName := ⟨RX9, "item", "(IIJ)I"⟩
abbrev cX9_peek : ByteArray := prog_1_method_34_code
def yX9_peek : MethodName := ⟨RX9, "peek", "(II)J"⟩
abbrev cX9_shift : ByteArray := prog_1_method_35_code
def yX9_shift : MethodName := ⟨RX9, "shift", "(IIIII)I"⟩
abbrev cX9_between : ByteArray := prog_1_method_36_code
def yX9_between : MethodName := ⟨RX9, "between", "(III)Z"⟩
abbrev cX9_isTurn : ByteArray := prog_1_method_37_code
def yX9_isTurn : MethodName := ⟨RX9, "isTurn", "(I)Z"⟩
abbrev cX9_lowest : ByteArray := prog_1_method_38_code
def yX9_lowest : MethodName := ⟨RX9, "lowest", "(JJI)J"⟩
abbrev cX9_commonDivisor : ByteArray := prog_1_method_39_code
def yX9_commonDivisor : MethodName := ⟨RX9, "commonDivisor", "(JJ)J"⟩
abbrev cX9_answersNow : ByteArray := prog_1_method_40_code
def yX9_answersNow : MethodName := ⟨RX9, "answersNow", "()LTwoLetterForms$Answers;"⟩
abbrev cX9_answersInFamilies : ByteArray := prog_1_method_41_code
def yX9_answersInFamilies : MethodName := ⟨RX9, "answersInFamilies", "()LTwoLetterForms$Answers;"⟩
abbrev cX9_unitsNow : ByteArray := prog_1_method_42_code
def yX9_unitsNow : MethodName := ⟨RX9, "unitsNow", "()LTwoLetterForms$Units;"⟩
abbrev cX9_partsNow : ByteArray := prog_1_method_43_code
def yX9_partsNow : MethodName := ⟨RX9, "partsNow", "()LTwoLetterForms$Parts;"⟩
abbrev cX9_convergentAnswers : ByteArray := prog_1_method_44_code
def yX9_convergentAnswers : MethodName := ⟨RX9, "convergentAnswers", "()I"⟩
abbrev cX9_clauseAnswer : ByteArray := prog_1_method_45_code
def yX9_clauseAnswer : MethodName := ⟨RX9, "clauseAnswer", "(I)I"⟩
abbrev cX9_isAsSeen : ByteArray := prog_1_method_46_code
def yX9_isAsSeen : MethodName := ⟨RX9, "isAsSeen", "(LTwoLetterForms$Form;)Z"⟩
abbrev cX9_tryEvents : ByteArray := prog_1_method_47_code
def yX9_tryEvents : MethodName := ⟨RX9, "tryEvents", "()V"⟩
abbrev cX9_tapeAt : ByteArray := prog_1_method_48_code
def yX9_tapeAt : MethodName := ⟨RX9, "tapeAt", "(I)LTwoLetterForms$Tape;"⟩
def RX10 : String := "TwoLetterFormsModel"
def TX10 : u_T := fun k => match k with
  | 0 => ("TwoLetterFormsModel", "d", "I", false)
  | 1 => ("TwoLetterFormsModel", "a", "[J", true)
  | 2 => ("TwoLetterFormsModel", "m", "I", false)
  | 3 => ("TwoLetterFormsModel", "b", "I", false)
  | 4 => ("TwoLetterFormsModel", "seen", "[I", true)
  | 5 => ("TwoLetterFormsModel", "seenMany", "I", false)
  | 6 => ("TwoLetterFormsModel", "events", "[I", true)
  | 7 => ("TwoLetterFormsModel", "eventMany", "I", false)
  | 8 => ("TwoLetterFormsModel", "book", "[I", true)
  | 9 => ("TwoLetterFormsModel", "bookMany", "I", false)
  | 10 => ("TwoLetterFormsModel", "turned", "[J", true)
  | 11 => ("TwoLetterFormsModel", "product", "[J", true)
  | 12 => ("TwoLetterFormsModel", "answers", "[I", true)
  | 13 => ("TwoLetterFormsModel", "answerMany", "I", false)
  | 14 => ("TwoLetterFormsModel", "units", "[I", true)
  | 15 => ("TwoLetterFormsModel", "unitMany", "I", false)
  | 16 => ("TwoLetterFormsModel", "placeOf", "[I", true)
  | 17 => ("TwoLetterFormsModel", "lesser", "[I", true)
  | 18 => ("TwoLetterFormsModel", "familyOf", "[I", true)
  | 19 => ("TwoLetterFormsModel", "familyMany", "I", false)
  | 20 => ("TwoLetterFormsModel", "primes", "[I", true)
  | 21 => ("TwoLetterFormsModel", "isRest", "[Z", true)
  | 22 => ("TwoLetterFormsModel", "row", "[J", true)
  | 23 => ("TwoLetterFormsModel", "next", "[J", true)
  | 24 => ("TwoLetterFormsModel", "parts", "[I", true)
  | 25 => ("TwoLetterFormsModel", "partMany", "I", false)
  | 26 => ("TwoLetterFormsModel", "above", "J", false)
  | 27 => ("TwoLetterFormsModel", "below", "J", false)
  | 28 => ("TwoLetterFormsModel", "text", "[I", true)
  | 29 => ("TwoLetterFormsModel", "length", "I", false)
  | 30 => ("TwoLetterFormsModel", "at", "I", false)
  | 31 => ("TwoLetterFormsModel", "told", "[I", true)
  | 32 => ("TwoLetterFormsModel", "wereNumbers", "[J", true)
  | 33 => ("TwoLetterFormsModel", "sorts", "[I", true)
  | 34 => ("TwoLetterFormsModel", "sizes", "[I", true)
  | 35 => ("TwoLetterFormsModel", "items", "[J", true)
  | 36 => ("TwoLetterFormsModel", "hasImage", "Z", false)
  | 37 => ("TwoLetterFormsModel", "imageNumbers", "[J", true)
  | _ => ("TwoLetterFormsModel", "imageRows", "[I", true)
def tyX10 : Nat → FieldType := fun k => match k with
  | 0 => .int
  | 1 => .array .long
  | 2 => .int
  | 3 => .int
  | 4 => .array .int
  | 5 => .int
  | 6 => .array .int
  | 7 => .int
  | 8 => .array .int
  | 9 => .int
  | 10 => .array .long
  | 11 => .array .long
  | 12 => .array .int
  | 13 => .int
  | 14 => .array .int
  | 15 => .int
  | 16 => .array .int
  | 17 => .array .int
  | 18 => .array .int
  | 19 => .int
  | 20 => .array .int
  | 21 => .array .boolean
  | 22 => .array .long
  | 23 => .array .long
  | 24 => .array .int
  | 25 => .int
  | 26 => .long
  | 27 => .long
  | 28 => .array .int
  | 29 => .int
  | 30 => .int
  | 31 => .array .int
  | 32 => .array .long
  | 33 => .array .int
  | 34 => .array .int
  | 35 => .array .long
  | 36 => .boolean
  | 37 => .array .long
  | _ => .array .int
abbrev wsX100 : List Cond := u_ws RX10 TX10 39
theorem nmX10 : ∀ a, a < 39 → ∀ b, b < 39 → a ≠ b → (TX10 a).2.1 ≠ (TX10 b).2.1 := by decide +kernel
theorem tyX10_ok : ∀ k, k < 39 → parseFieldDescriptor (TX10 k).2.2.1 = some (tyX10 k) := by decide +kernel
abbrev cX10_init : ByteArray := prog_12_method_1_code
def yX10_init : MethodName := ⟨RX10, "<init>", "()V"⟩
abbrev cX10_in : ByteArray := prog_12_method_2_code
def yX10_in : MethodName := ⟨RX10, "in", "(JJJ)Z"⟩
abbrev cX10_isNumber : ByteArray := prog_12_method_3_code
def yX10_isNumber : MethodName := ⟨RX10, "isNumber", "(I)Z"⟩
abbrev cX10_degree : ByteArray := prog_12_method_4_code
def yX10_degree : MethodName := ⟨RX10, "degree", "(I)I"⟩
abbrev cX10_number : ByteArray := prog_12_method_5_code
def yX10_number : MethodName := ⟨RX10, "number", "(II)I"⟩
abbrev cX10_equal : ByteArray := prog_12_method_6_code
def yX10_equal : MethodName := ⟨RX10, "equal", "(I)I"⟩
abbrev cX10_window : ByteArray := prog_12_method_7_code
def yX10_window : MethodName := ⟨RX10, "window", "(I)I"⟩
abbrev cX10_power : ByteArray := prog_12_method_8_code
def yX10_power : MethodName := ⟨RX10, "power", "(JI)J"⟩
abbrev cX10_valueAt : ByteArray := prog_12_method_9_code
def yX10_valueAt : MethodName := ⟨RX10, "valueAt", "(JJ)J"⟩
abbrev cX10_multiplies : ByteArray := prog_12_method_10_code
def yX10_multiplies : MethodName := ⟨RX10, "multiplies", "(JJ)V"⟩
abbrev cX10_turns : ByteArray := prog_12_method_11_code
def yX10_turns : MethodName := ⟨RX10, "turns", "(JJJJ)V"⟩
abbrev cX10_becomesTurned : ByteArray := prog_12_method_12_code
def yX10_becomesTurned : MethodName := ⟨RX10, "becomesTurned", "()Z"⟩
abbrev cX10_moves : ByteArray := prog_12_method_13_code
def yX10_moves : MethodName := ⟨RX10, "moves", "(I)Z"⟩
abbrev cX10_move : ByteArray := prog_12_method_14_code
def yX10_move : MethodName := ⟨RX10, "move", "(I)I"⟩
abbrev cX10_turn : ByteArray := prog_12_method_15_code
def yX10_turn : MethodName := ⟨RX10, "turn", "(IIII)I"⟩
abbrev cX10_tellsAnswers : ByteArray := prog_12_method_16_code
def yX10_tellsAnswers : MethodName := ⟨RX10, "tellsAnswers", "()V"⟩
abbrev cX10_tellsUnits : ByteArray := prog_12_method_17_code
def yX10_tellsUnits : MethodName := ⟨RX10, "tellsUnits", "()V"⟩
abbrev cX10_cell : ByteArray := prog_12_method_18_code
def yX10_cell : MethodName := ⟨RX10, "cell", "(II)I"⟩
abbrev cX10_leastOf : ByteArray := prog_12_method_19_code
def yX10_leastOf : MethodName := ⟨RX10, "leastOf", "(I)I"⟩
abbrev cX10_links : ByteArray := prog_12_method_20_code
def yX10_links : MethodName := ⟨RX10, "links", "(II)V"⟩
abbrev cX10_tellsFamilies : ByteArray := prog_12_method_21_code
def yX10_tellsFamilies : MethodName := ⟨RX10, "tellsFamilies", "()V"⟩
abbrev cX10_remainders : ByteArray := prog_12_method_22_code
def yX10_remainders : MethodName := ⟨RX10, "remainders", "(I)I"⟩
abbrev cX10_bars : ByteArray := prog_12_method_23_code
def yX10_bars : MethodName := ⟨RX10, "bars", "(I)Z"⟩
abbrev cX10_firstBar : ByteArray := prog_12_method_24_code
def yX10_firstBar : MethodName := ⟨RX10, "firstBar", "()I"⟩
abbrev cX10_prime : ByteArray := prog_12_method_25_code
def yX10_prime : MethodName := ⟨RX10, "prime", "(II)I"⟩
abbrev cX10_reason : ByteArray := prog_12_method_26_code
def yX10_reason : MethodName := ⟨RX10, "reason", "(I)I"⟩
abbrev cX10_rowAt : ByteArray := prog_12_method_27_code
def yX10_rowAt : MethodName := ⟨RX10, "rowAt", "(J)J"⟩
abbrev cX10_greatest : ByteArray := prog_12_method_28_code
def yX10_greatest : MethodName := ⟨RX10, "greatest", "(I)I"⟩
abbrev cX10_goesOn : ByteArray := prog_12_method_29_code
def yX10_goesOn : MethodName := ⟨RX10, "goesOn", "(I)Z"⟩
abbrev cX10_tellsParts : ByteArray := prog_12_method_30_code
def yX10_tellsParts : MethodName := ⟨RX10, "tellsParts", "()V"⟩
abbrev cX10_tellsConvergent : ByteArray := prog_12_method_31_code
def yX10_tellsConvergent : MethodName := ⟨RX10, "tellsConvergent", "(I)V"⟩
abbrev cX10_part : ByteArray := prog_12_method_32_code
def yX10_part : MethodName := ⟨RX10, "part", "(I)I"⟩
abbrev cX10_convergent : ByteArray := prog_12_method_33_code
def yX10_convergent : MethodName := ⟨RX10, "convergent", "(II)J"⟩
abbrev cX10_answering : ByteArray := prog_12_method_34_code
def yX10_answering : MethodName := ⟨RX10, "answering", "()I"⟩
abbrev cX10_of : ByteArray := prog_12_method_35_code
def yX10_of : MethodName := ⟨RX10, "of", "(I)I"⟩
abbrev cX10_told : ByteArray := prog_12_method_36_code
def yX10_told : MethodName := ⟨RX10, "told", "(I)I"⟩
abbrev cX10_value : ByteArray := prog_12_method_37_code
def yX10_value : MethodName := ⟨RX10, "value", "(II)J"⟩
abbrev cX10_answer : ByteArray := prog_12_method_38_code
def yX10_answer : MethodName := ⟨RX10, "answer", "(II)I"⟩
abbrev cX10_unit : ByteArray := prog_12_method_39_code
def yX10_unit : MethodName := ⟨RX10, "unit", "(II)I"⟩
abbrev cX10_family : ByteArray := prog_12_method_40_code
def yX10_family : MethodName := ⟨RX10, "family", "(I)I"⟩
abbrev cX10_feed : ByteArray := prog_12_method_41_code
def yX10_feed : MethodName := ⟨RX10, "feed", "(I)I"⟩
abbrev cX10_here : ByteArray := prog_12_method_42_code
def yX10_here : MethodName := ⟨RX10, "here", "()I"⟩
abbrev cX10_isDigit : ByteArray := prog_12_method_43_code
def yX10_isDigit : MethodName := ⟨RX10, "isDigit", "()Z"⟩
abbrev cX10_readsDigit : ByteArray := prog_12_method_44_code
def yX10_readsDigit : MethodName := ⟨RX10, "readsDigit", "(I)Z"⟩
abbrev cX10_readsNumber : ByteArray := prog_12_method_45_code
def yX10_readsNumber : MethodName := ⟨RX10, "readsNumber", "(I)Z"⟩
abbrev cX10_readsClause : ByteArray := prog_12_method_46_code
def yX10_readsClause : MethodName := ⟨RX10, "readsClause", "(I)Z"⟩
abbrev cX10_does : ByteArray := prog_12_method_47_code
def yX10_does : MethodName := ⟨RX10, "does", "(I)I"⟩
abbrev cX10_read : ByteArray := prog_12_method_48_code
def yX10_read : MethodName := ⟨RX10, "read", "()I"⟩
abbrev cX10_see : ByteArray := prog_12_method_49_code
def yX10_see : MethodName := ⟨RX10, "see", "(III)I"⟩
abbrev cX10_fits : ByteArray := prog_12_method_50_code
def yX10_fits : MethodName := ⟨RX10, "fits", "(II)I"⟩
abbrev cX10_lowest : ByteArray := prog_12_method_51_code
def yX10_lowest : MethodName := ⟨RX10, "lowest", "(JJI)J"⟩
abbrev cX10_odds : ByteArray := prog_12_method_52_code
def yX10_odds : MethodName := ⟨RX10, "odds", "(I)J"⟩
abbrev cX10_mean : ByteArray := prog_12_method_53_code
def yX10_mean : MethodName := ⟨RX10, "mean", "(I)J"⟩
abbrev cX10_event : ByteArray := prog_12_method_54_code
def yX10_event : MethodName := ⟨RX10, "event", "(II)I"⟩
abbrev cX10_happens : ByteArray := prog_12_method_55_code
def yX10_happens : MethodName := ⟨RX10, "happens", "(II)V"⟩
abbrev cX10_after : ByteArray := prog_12_method_56_code
def yX10_after : MethodName := ⟨RX10, "after", "(I)I"⟩
abbrev cX10_book : ByteArray := prog_12_method_57_code
def yX10_book : MethodName := ⟨RX10, "book", "(II)I"⟩
abbrev cX10_looked : ByteArray := prog_12_method_58_code
def yX10_looked : MethodName := ⟨RX10, "looked", "()I"⟩
abbrev cX10_isTape : ByteArray := prog_12_method_59_code
def yX10_isTape : MethodName := ⟨RX10, "isTape", "(I)Z"⟩
abbrev cX10_judge : ByteArray := prog_12_method_60_code
def yX10_judge : MethodName := ⟨RX10, "judge", "(II)I"⟩
abbrev cX10_lays : ByteArray := prog_12_method_61_code
def yX10_lays : MethodName := ⟨RX10, "lays", "(Z)V"⟩
abbrev cX10_laysRow : ByteArray := prog_12_method_62_code
def yX10_laysRow : MethodName := ⟨RX10, "laysRow", "(Z[II)V"⟩
abbrev cX10_image : ByteArray := prog_12_method_63_code
def yX10_image : MethodName := ⟨RX10, "image", "()I"⟩
abbrev cX10_undo : ByteArray := prog_12_method_64_code
def yX10_undo : MethodName := ⟨RX10, "undo", "()I"⟩
abbrev cX10_count : ByteArray := prog_12_method_65_code
def yX10_count : MethodName := ⟨RX10, "count", "(I)I"⟩
abbrev cX10_held : ByteArray := prog_12_method_66_code
def yX10_held : MethodName := ⟨RX10, "held", "(IJ)J"⟩
abbrev cX10_tape : ByteArray := prog_12_method_67_code
def yX10_tape : MethodName := ⟨RX10, "tape", "(III)I"⟩
abbrev cX10_item : ByteArray := prog_12_method_68_code
def yX10_item : MethodName := ⟨RX10, "item", "(IIJ)I"⟩
abbrev cX10_peek : ByteArray := prog_12_method_69_code
def yX10_peek : MethodName := ⟨RX10, "peek", "(II)J"⟩
abbrev cX10_areThere : ByteArray := prog_12_method_70_code
def yX10_areThere : MethodName := ⟨RX10, "areThere", "(III)Z"⟩
abbrev cX10_shift : ByteArray := prog_12_method_71_code
def yX10_shift : MethodName := ⟨RX10, "shift", "(IIIII)I"⟩
def RJ6 : String := "java/lang/Integer"
abbrev cJ6_bitCount_0f7a4 : ByteArray := prog_13_method_49_code
def yJ6_bitCount_0f7a4 : MethodName := ⟨RJ6, "bitCount", "(I)I"⟩
def RJ9 : String := "java/lang/Math"
abbrev cJ9_floorMod_7cf53 : ByteArray := prog_14_method_50_code
def yJ9_floorMod_7cf53 : MethodName := ⟨RJ9, "floorMod", "(II)I"⟩
abbrev cJ9_floorMod_1978a : ByteArray := prog_14_method_51_code
def yJ9_floorMod_1978a : MethodName := ⟨RJ9, "floorMod", "(JI)I"⟩
abbrev cJ9_floorMod_f86c9 : ByteArray := prog_14_method_52_code
def yJ9_floorMod_f86c9 : MethodName := ⟨RJ9, "floorMod", "(JJ)J"⟩
abbrev cJ9_abs_067f4 : ByteArray := prog_14_method_61_code
def yJ9_abs_067f4 : MethodName := ⟨RJ9, "abs", "(J)J"⟩
abbrev cJ9_max_7cf53 : ByteArray := prog_14_method_65_code
def yJ9_max_7cf53 : MethodName := ⟨RJ9, "max", "(II)I"⟩
abbrev cJ9_min_7cf53 : ByteArray := prog_14_method_69_code
def yJ9_min_7cf53 : MethodName := ⟨RJ9, "min", "(II)I"⟩
abbrev cJ9_min_f86c9 : ByteArray := prog_14_method_70_code
def yJ9_min_f86c9 : MethodName := ⟨RJ9, "min", "(JJ)J"⟩
def RJ10 : String := "java/lang/System"
def RJ7 : String := "java/util/Arrays"
abbrev cJ7_fill_d0a16 : ByteArray := prog_16_method_101_code
def yJ7_fill_d0a16 : MethodName := ⟨RJ7, "fill", "([JJ)V"⟩
abbrev cJ7_fill_53178 : ByteArray := prog_16_method_103_code
def yJ7_fill_53178 : MethodName := ⟨RJ7, "fill", "([II)V"⟩
def RL : String := "TwoLetterFormsLaw"
abbrev cL_law : ByteArray := code
def yL_law : MethodName := ⟨RL, "law", "([I)Z"⟩
abbrev vwCl : List vw_C := [(RX0, TX0, 6), (RX1, TX1, 3), (RX2, TX2, 4), (RX3, TX3, 6), (RX4, TX4, 2), (RX5, TX5, 6), (RX6, TX6, 4), (RX7, TX7, 3), (RX8, TX8, 2), (RX9, TX9, 9), (RX10, TX10, 39)]
end
section
/-! the memory of abstract addresses (1 ..): how many, the kind of each, its length, its slots: references, ints, longs -/
abbrev Mem := Nat × (Nat → Nat) × (Nat → Nat) × (Nat → Nat → Nat) × (Nat → Nat → Int32) × (Nat → Nat → Int64)
def mSz (h : Mem) : Nat := h.1
def mKd (h : Mem) : Nat → Nat := h.2.1
def mLn (h : Mem) : Nat → Nat := h.2.2.1
def mR (h : Mem) : Nat → Nat → Nat := h.2.2.2.1
def mI (h : Mem) : Nat → Nat → Int32 := h.2.2.2.2.1
def mL (h : Mem) : Nat → Nat → Int64 := h.2.2.2.2.2
def up1 {α : Type} (f : Nat → α) (k : Nat) (v : α) : Nat → α := fun j => if j = k then v else f j
def sR (h : Mem) (a : Nat) (f : Nat → Nat) : Mem := (h.1, h.2.1, h.2.2.1, up1 h.2.2.2.1 a f, h.2.2.2.2.1, h.2.2.2.2.2)
def sI (h : Mem) (a : Nat) (f : Nat → Int32) : Mem := (h.1, h.2.1, h.2.2.1, h.2.2.2.1, up1 h.2.2.2.2.1 a f, h.2.2.2.2.2)
def sL (h : Mem) (a : Nat) (f : Nat → Int64) : Mem := (h.1, h.2.1, h.2.2.1, h.2.2.2.1, h.2.2.2.2.1, up1 h.2.2.2.2.2 a f)
def alM (c n : Nat) (h : Mem) : Mem := (h.1 + 1, up1 h.2.1 (h.1 + 1) c, up1 h.2.2.1 (h.1 + 1) n, up1 h.2.2.2.1 (h.1 + 1) (fun _ => 0), up1 h.2.2.2.2.1 (h.1 + 1) (fun _ => 0), up1 h.2.2.2.2.2 (h.1 + 1) (fun _ => 0))
/-- the fields of each class: 0 int, 1 long, 2 reference -/
def FTY : List (List Nat) := [[0, 0, 0, 0, 2, 2], [2, 0, 0], [0, 2, 2, 2], [0, 0, 2, 2, 2, 2], [0, 2], [0, 2, 2, 0, 0, 0], [2, 2, 2, 2], [0, 2, 0], [0, 2], [2, 2, 0, 2, 2, 2, 2, 2, 2], [0, 2, 0, 0, 2, 0, 2, 0, 2, 0, 2, 2, 2, 0, 2, 0, 2, 2, 2, 0, 2, 2, 2, 2, 2, 0, 1, 1, 2, 0, 0, 2, 2, 2, 2, 2, 0, 2, 2]]
abbrev Ev := Nat × va_G × ClassId × ClassId × ClassId × ClassId × Nat × Nat
abbrev eD (E : Ev) : va_G := E.2.1
abbrev eI (E : Ev) : ClassId := E.2.2.1
abbrev eJ (E : Ev) : ClassId := E.2.2.2.1
abbrev eZ (E : Ev) : ClassId := E.2.2.2.2.1
abbrev eT (E : Ev) : ClassId := E.2.2.2.2.2.1
abbrev eP (E : Ev) : Nat := E.2.2.2.2.2.2.1
abbrev eM (E : Ev) : Nat := E.2.2.2.2.2.2.2
abbrev tys (E : Ev) : List (ClassId × FieldType) := [(eI E, .int), (eJ E, .long), (eZ E, .boolean), (eT E, .object "TwoLetterForms$Tape")]
abbrev rf (E : Ev) (a : Nat) : Value := .ref (E.1 + a)
def rv (E : Ev) (a : Nat) : Value := if a = 0 then .null else .ref (E.1 + a)
def rq (E : Ev) (a : Nat) : Option Nat := if a = 0 then none else some (E.1 + a)
theorem rv_rq (E : Ev) (a : Nat) : va_rf (rq E a) = rv E a := by
  unfold rq rv
  split <;> rfl
theorem rv_rf (E : Ev) {a : Nat} (h : a ≠ 0) : rv E a = rf E a := by simp [rv, h]
def fv (E : Ev) (t : Nat) (h : Mem) (a k : Nat) : Value := if t = 0 then .int (mI h a k) else if t = 1 then .long (mL h a k) else rv E (mR h a k)
def encO (E : Ev) (h : Mem) (a c : Nat) : List Value := (FTY.getD c []).mapIdx (fun k t => fv E t h a k)
def encE (E : Ev) (h : Mem) (a : Nat) : va_E :=
  if mKd h a < 11 then .inr (mKd h a, encO E h a (mKd h a))
  else if mKd h a = 11 then .inl (eI E, mLn h a, .inl (mI h a))
  else if mKd h a = 12 then .inl (eJ E, mLn h a, .inr (.inl (mL h a)))
  else if mKd h a = 13 then .inl (eZ E, mLn h a, .inl (mI h a))
  else .inl (eT E, mLn h a, .inr (.inr (.inr (.inr (fun j => rq E (mR h a j))))))
def enc (E : Ev) (h : Mem) : va_W := (List.range (mSz h)).map (fun k => (E.1 + 1 + k, encE E h (k + 1)))
def Wf (h : Mem) : Prop := ∀ a, mKd h a < 15 → 1 ≤ a ∧ a ≤ mSz h
def Sm (E : Ev) (h : Mem) (H : Heap) : Prop := va_P (eD E) vwCl (enc E h) H ∧ Wf h
def AB (E : Ev) : Nat → Prop := fun q => E.1 + 1 ≤ q
theorem enc_len (E : Ev) (h : Mem) : (enc E h).length = mSz h := by simp [enc]
theorem enc_at (E : Ev) (h : Mem) {a : Nat} (h1 : 1 ≤ a) (h2 : a ≤ mSz h) : (enc E h)[a - 1]? = some (E.1 + a, encE E h a) := by
  have h3 : a - 1 < mSz h := by omega
  have h4 : a - 1 + 1 = a := by omega
  have h5 : E.1 + 1 + (a - 1) = E.1 + a := by omega
  simp [enc, List.getElem?_map, List.getElem?_range h3, h4, h5]
theorem enc_get {E : Ev} {h : Mem} {k : Nat} {q : Nat × va_E} (hk : (enc E h)[k]? = some q) : k < mSz h ∧ q = (E.1 + 1 + k, encE E h (k + 1)) := by
  have h1 : k < (enc E h).length := (List.getElem?_eq_some_iff.mp hk).1
  rw [enc_len] at h1
  refine ⟨h1, ?_⟩
  have h2 := enc_at E h (a := k + 1) (by omega) (by omega)
  rw [Nat.add_sub_cancel, hk] at h2
  rw [Option.some.inj h2]
  congr 1
  omega
theorem enc_set {E : Ev} {h h' : Mem} {a : Nat} (hz : mSz h' = mSz h) (h1 : 1 ≤ a) (hne : ∀ b, b ≠ a → encE E h' b = encE E h b) {e : va_E} (he : encE E h' a = e) : (enc E h).set (a - 1) (E.1 + a, e) = enc E h' := by
  apply List.ext_getElem?
  intro k
  by_cases hk : k < mSz h
  · have e2 : (enc E h')[k]? = some (E.1 + (k + 1), encE E h' (k + 1)) := by
      have := enc_at E h' (a := k + 1) (by omega) (by omega)
      rwa [Nat.add_sub_cancel] at this
    have e1 : (enc E h)[k]? = some (E.1 + (k + 1), encE E h (k + 1)) := by
      have := enc_at E h (a := k + 1) (by omega) (by omega)
      rwa [Nat.add_sub_cancel] at this
    rw [e2]
    by_cases hka : k = a - 1
    · subst hka
      rw [List.getElem?_set_self (by rw [enc_len]; exact hk)]
      have h4 : a - 1 + 1 = a := by omega
      rw [h4, he]
    · rw [List.getElem?_set_ne (fun z => hka z.symm), e1, hne (k + 1) (by omega)]
  · rw [List.getElem?_eq_none (by rw [List.length_set, enc_len]; omega), List.getElem?_eq_none (by rw [enc_len]; omega)]
theorem enc_push {E : Ev} {h h' : Mem} (hz : mSz h' = mSz h + 1) (hne : ∀ b, 1 ≤ b → b ≤ mSz h → encE E h' b = encE E h b) {e : va_E} (he : encE E h' (mSz h + 1) = e) : enc E h ++ [(E.1 + 1 + mSz h, e)] = enc E h' := by
  apply List.ext_getElem?
  intro k
  by_cases hk : k < mSz h
  · have e2 : (enc E h')[k]? = some (E.1 + (k + 1), encE E h' (k + 1)) := by
      have := enc_at E h' (a := k + 1) (by omega) (by omega)
      rwa [Nat.add_sub_cancel] at this
    have e1 : (enc E h)[k]? = some (E.1 + (k + 1), encE E h (k + 1)) := by
      have := enc_at E h (a := k + 1) (by omega) (by omega)
      rwa [Nat.add_sub_cancel] at this
    rw [List.getElem?_append_left (by rw [enc_len]; exact hk), e1, e2, hne (k + 1) (by omega) (by omega)]
  · by_cases hk2 : k = mSz h
    · subst hk2
      have e2 : (enc E h')[mSz h]? = some (E.1 + (mSz h + 1), encE E h' (mSz h + 1)) := by
        have := enc_at E h' (a := mSz h + 1) (by omega) (by omega)
        rwa [Nat.add_sub_cancel] at this
      rw [List.getElem?_append_right (by rw [enc_len]; omega), enc_len, Nat.sub_self, e2, he]
      simp
      omega
    · rw [List.getElem?_eq_none (by simp [enc_len]; omega), List.getElem?_eq_none (by rw [enc_len]; omega)]
theorem enc_D (E : Ev) (h : Mem) : va_D (AB E) (enc E h) := by
  refine ⟨fun i j p q hi hj hpq => ?_, fun k q hk => ?_⟩
  · have h1 := (enc_get hi).2
    have h2 := (enc_get hj).2
    rw [h1, h2] at hpq
    simp at hpq
    omega
  · have h1 := (enc_get hk).2
    rw [h1]
    show E.1 + 1 ≤ E.1 + 1 + k
    omega
theorem encE_o {E : Ev} {h : Mem} {a c : Nat} (hk : mKd h a = c) (hc : c < 11) : encE E h a = .inr (c, encO E h a c) := by subst hk; simp [encE, hc]
theorem encE_i {E : Ev} {h : Mem} {a : Nat} (hk : mKd h a = 11) : encE E h a = .inl (eI E, mLn h a, .inl (mI h a)) := by simp [encE, hk]
theorem encE_l {E : Ev} {h : Mem} {a : Nat} (hk : mKd h a = 12) : encE E h a = .inl (eJ E, mLn h a, .inr (.inl (mL h a))) := by simp [encE, hk]
theorem encE_z {E : Ev} {h : Mem} {a : Nat} (hk : mKd h a = 13) : encE E h a = .inl (eZ E, mLn h a, .inl (mI h a)) := by simp [encE, hk]
theorem encE_t {E : Ev} {h : Mem} {a : Nat} (hk : mKd h a = 14) : encE E h a = .inl (eT E, mLn h a, .inr (.inr (.inr (.inr (fun j => rq E (mR h a j)))))) := by simp [encE, hk]
theorem encO_at {E : Ev} {h : Mem} {a c k t : Nat} (ht : (FTY.getD c [])[k]? = some t) : (encO E h a c)[k]? = some (fv E t h a k) := by unfold encO; rw [List.getElem?_mapIdx, ht]; rfl
theorem encO_len {E : Ev} {h : Mem} {a c : Nat} : (encO E h a c).length = (FTY.getD c []).length := by simp [encO]
theorem encO_set {E : Ev} {h h' : Mem} {a c k t : Nat} (ht : (FTY.getD c [])[k]? = some t) (hne : ∀ j u, (FTY.getD c [])[j]? = some u → j ≠ k → fv E u h' a j = fv E u h a j) {v : Value} (hv : fv E t h' a k = v) : (encO E h a c).set k v = encO E h' a c := by
  apply List.ext_getElem?
  intro j
  by_cases hj : j = k
  · subst hj
    have hl : j < (FTY.getD c []).length := (List.getElem?_eq_some_iff.mp ht).1
    rw [List.getElem?_set_self (by rw [encO_len]; exact hl), encO_at ht, hv]
  · rw [List.getElem?_set_ne (fun z => hj z.symm)]
    cases hu : (FTY.getD c [])[j]? with
    | none => unfold encO; rw [List.getElem?_mapIdx, List.getElem?_mapIdx, hu]; rfl
    | some u => rw [encO_at hu, encO_at hu, hne j u hu hj]
theorem up1_s {α : Type} (f : Nat → α) (k : Nat) (v : α) : up1 f k v k = v := by simp [up1]
theorem up1_n {α : Type} (f : Nat → α) {k j : Nat} (v : α) (h : j ≠ k) : up1 f k v j = f j := by simp [up1, h]
theorem mI_sI (h : Mem) (a : Nat) (f : Nat → Int32) : mI (sI h a f) = up1 (mI h) a f := rfl
theorem mL_sL (h : Mem) (a : Nat) (f : Nat → Int64) : mL (sL h a f) = up1 (mL h) a f := rfl
theorem mR_sR (h : Mem) (a : Nat) (f : Nat → Nat) : mR (sR h a f) = up1 (mR h) a f := rfl
theorem encE_nI {E : Ev} {h : Mem} {a : Nat} (f : Nat → Int32) {b : Nat} (hb : b ≠ a) : encE E (sI h a f) b = encE E h b := by
  have e1 : mI (sI h a f) b = mI h b := by rw [mI_sI, up1_n _ _ hb]
  unfold encE encO fv
  rw [e1]
  rfl
theorem encE_nL {E : Ev} {h : Mem} {a : Nat} (f : Nat → Int64) {b : Nat} (hb : b ≠ a) : encE E (sL h a f) b = encE E h b := by
  have e1 : mL (sL h a f) b = mL h b := by rw [mL_sL, up1_n _ _ hb]
  unfold encE encO fv
  rw [e1]
  rfl
theorem encE_nR {E : Ev} {h : Mem} {a : Nat} (f : Nat → Nat) {b : Nat} (hb : b ≠ a) : encE E (sR h a f) b = encE E h b := by
  have e1 : mR (sR h a f) b = mR h b := by rw [mR_sR, up1_n _ _ hb]
  unfold encE encO fv
  rw [e1]
  rfl
theorem Wf_sI {h : Mem} (hw : Wf h) (a : Nat) (f : Nat → Int32) : Wf (sI h a f) := hw
theorem Wf_sL {h : Mem} (hw : Wf h) (a : Nat) (f : Nat → Int64) : Wf (sL h a f) := hw
theorem Wf_sR {h : Mem} (hw : Wf h) (a : Nat) (f : Nat → Nat) : Wf (sR h a f) := hw
theorem Sm.at {E : Ev} {h : Mem} {H : Heap} (M : Sm E h H) {a : Nat} (hk : mKd h a < 15) : (enc E h)[a - 1]? = some (E.1 + a, encE E h a) := enc_at E h (M.2 a hk).1 (M.2 a hk).2
/-! the words -/
def WSA : List Cond := lw_tbl.filter goodWord
theorem wa {w : Cond} (i : Nat) (h : tables_1[i]? = some w) (hg : goodWord w = true) : w ∈ WSA := List.mem_filter.mpr ⟨List.mem_append_right _ (List.mem_of_getElem? h), hg⟩
theorem wap {q : MethodName × Nat} (i : Nat) (h : lw_privs[i]? = some q) (hg : goodWord (Cond.selects q.1.cls q.1 q.1) = true) : Cond.selects q.1.cls q.1 q.1 ∈ WSA := List.mem_filter.mpr ⟨List.mem_append_left _ (List.mem_map.mpr ⟨q, List.mem_of_getElem? h, rfl⟩), hg⟩
theorem wgood {ws : List Cond} (h : ∀ w ∈ ws, w ∈ WSA) : GoodIn WSA ws := fun w hw => ⟨h w hw, good_of_word (List.mem_filter.mp (h w hw)).2⟩
/-! the tables that nobody writes -/
def tabP (j : Nat) : Int32 := [2, 3, 5, 7, 11, 13].getD j 0
def tabM (j : Nat) : Int32 := [1, 1, 0, 1, 1, -1, 0, 1, 0, 1, 1, 0, -1, 0, 0, 1].getD j 0
def StOK (E : Ev) (U : State) (H : Heap) : Prop :=
  (va_Z "TwoLetterForms" "PRIMES" "[I" (.ref (eP E)) (AB E) U H ∧ va_T .int (eP E) 6 (fun j => .int (tabP j)) (AB E) U H) ∧
  (va_Z "TwoLetterForms$Form" "MOVE_TURNS" "[I" (.ref (eM E)) (AB E) U H ∧ va_T .int (eM E) 16 (fun j => .int (tabM j)) (AB E) U H)
theorem StOK.moved {E : Ev} {u U : State} {H : Heap} (hv : u.vm.Alike U.vm) (h : StOK E u H) : StOK E U H := ⟨⟨h.1.1.moved hv, h.1.2.moved hv⟩, ⟨h.2.1.moved hv, h.2.2.moved hv⟩⟩
theorem StOK.kept {E : Ev} {U : State} {H H1 : Heap} (h : StOK E U H) (hq : ∀ a : Nat, a < H.size → ¬ AB E a → H1[a]? = H[a]?) : StOK E U H1 := ⟨⟨h.1.1.kept hq, h.1.2.kept hq⟩, ⟨h.2.1.kept hq, h.2.2.kept hq⟩⟩
/-! words of nest mates, which a first use may change -/
def isNest : Cond → Bool
  | .fieldLinkNest .. => true
  | .methodLinkNest .. => true
  | _ => false
def NwOK (U : State) : Prop := (∀ w ∈ tables_1, isNest w = true → va_Nw w U) ∧ va_AO "TwoLetterForms$Tape" U
theorem NwOK.warm {s U : State} (hW : s.WarmedH U.vm) (h : NwOK s) : NwOK U := by
  refine ⟨fun w hw hn => ?_, h.2.moved hW.alike⟩
  have h1 := h.1 w hw hn
  cases w <;> first | exact Bool.noConfusion (show false = true from hn) | exact va_Nw.warmF hW h1 | exact va_Nw.warmM hW h1
theorem NwOK.same {u U : State} (hv : u.vm = U.vm) (h : NwOK u) : NwOK U := by
  refine ⟨fun w hw hn => ?_, h.2.moved (by rw [hv]; exact Vm.Alike.refl _)⟩
  have h1 := h.1 w hw hn
  cases w <;> first | exact Bool.noConfusion (show false = true from hn) | exact va_Nw.same rfl hv h1
/-! the judgement -/
abbrev Kx := Program × Launch × Env × State × MethodId × Array Value × List Frame × Method × Code
abbrev kP (K : Kx) : Program := K.1
abbrev kL (K : Kx) : Launch := K.2.1
abbrev kE (K : Kx) : Env := K.2.2.1
abbrev kS (K : Kx) : State := K.2.2.2.1
abbrev kM (K : Kx) : MethodId := K.2.2.2.2.1
abbrev kA (K : Kx) : Array Value := K.2.2.2.2.2.1
abbrev kB (K : Kx) : List Frame := K.2.2.2.2.2.2.1
abbrev kMe (K : Kx) : Method := K.2.2.2.2.2.2.2.1
abbrev kC (K : Kx) : Code := K.2.2.2.2.2.2.2.2
def CxOK (K : Kx) (E : Ev) (own : String) (cc : ByteArray) (nL : Nat) : Prop :=
  (kP K).tables.exec = Jvm.exec ∧ (kC K).code = cc ∧ (kC K).maxLocals = nL ∧ (kS K).vm.findClass own = some (kM K).cls ∧ (∀ w ∈ WSA, w.before (kA K) (kS K) = true) ∧ va_K (eD E) vwCl (tys E) (kS K) ∧ StOK E (kS K) (kS K).heap ∧ (kMe K).locks = false ∧ NwOK (kS K)
/-- the machine at pc, with these locals, this stack, this memory, comes to d's answer and memory -/
def Aw {α : Type} (K : Kx) (E : Ev) (R : Room) (nL : Nat) (Q : α → Mem → State → Prop) (cells slots pc : Nat) (L : List (Nat × Value)) (st : List Value) (h : Mem) (d : Option (α × Mem)) : Prop :=
  ∀ r h', d = some (r, h') → ∀ (H : Heap) (locs : List Loc) (ls : Array Slot), (kS K).heap.size + cells = E.1 + 1 + mSz h → Sm E h H → va_S (AB E) (kS K).heap H locs → lv_has ls nL L →
    W (kP K) (kL K) (kE K) R (kS K) (kM K) (kA K) (kB K) (kMe K) (kC K) H locs cells slots (Q r h') (F0 (kM K) pc ls st)
/-! reads and writes, told as options -/
def gI (c : Nat) (h : Mem) (a k : Nat) : Option Int32 := if mKd h a = c then some (mI h a k) else none
def gJ (c : Nat) (h : Mem) (a k : Nat) : Option Int64 := if mKd h a = c then some (mL h a k) else none
def gR (c : Nat) (h : Mem) (a k : Nat) : Option Nat := if mKd h a = c ∧ mR h a k ≠ 0 then some (mR h a k) else none
def pI (c : Nat) (h : Mem) (a k : Nat) (v : Int32) : Option Mem := if mKd h a = c then some (sI h a (up1 (mI h a) k v)) else none
def pJ (c : Nat) (h : Mem) (a k : Nat) (v : Int64) : Option Mem := if mKd h a = c then some (sL h a (up1 (mL h a) k v)) else none
def pR (c : Nat) (h : Mem) (a k : Nat) (v : Nat) : Option Mem := if mKd h a = c ∧ v ≠ 0 then some (sR h a (up1 (mR h a) k v)) else none
def inB (i : Int32) (n : Nat) : Prop := ¬ i < 0 ∧ i.toNatClampNeg < n
theorem inB_vp {i : Int32} {n : Nat} (h : inB i n) : vp_in i n := by
  intro q
  rcases q with q | q
  · exact h.1 q
  · exact absurd h.2 (by omega)
def xI (t : Nat) (h : Mem) (a : Nat) (i : Int32) : Option Int32 := if mKd h a = t ∧ ¬ i < 0 ∧ i.toNatClampNeg < mLn h a then some (mI h a i.toNatClampNeg) else none
def xJ (h : Mem) (a : Nat) (i : Int32) : Option Int64 := if mKd h a = 12 ∧ ¬ i < 0 ∧ i.toNatClampNeg < mLn h a then some (mL h a i.toNatClampNeg) else none
def xR (h : Mem) (a : Nat) (i : Int32) : Option Nat := if mKd h a = 14 ∧ (¬ i < 0 ∧ i.toNatClampNeg < mLn h a) ∧ mR h a i.toNatClampNeg ≠ 0 then some (mR h a i.toNatClampNeg) else none
def yI (t : Nat) (h : Mem) (a : Nat) (i : Int32) (v : Int32) : Option Mem := if mKd h a = t ∧ ¬ i < 0 ∧ i.toNatClampNeg < mLn h a then some (sI h a (up1 (mI h a) i.toNatClampNeg v)) else none
def yJ (h : Mem) (a : Nat) (i : Int32) (v : Int64) : Option Mem := if mKd h a = 12 ∧ ¬ i < 0 ∧ i.toNatClampNeg < mLn h a then some (sL h a (up1 (mL h a) i.toNatClampNeg v)) else none
def yR (h : Mem) (a : Nat) (i : Int32) (v : Nat) : Option Mem := if mKd h a = 14 ∧ (¬ i < 0 ∧ i.toNatClampNeg < mLn h a) ∧ mKd h v = 7 then some (sR h a (up1 (mR h a) i.toNatClampNeg v)) else none
def aLn (h : Mem) (a : Nat) : Option Int32 := if 11 ≤ mKd h a ∧ mKd h a < 15 then some (Int32.ofNat (mLn h a)) else none
def xT (f : Nat → Int32) (n : Nat) (i : Int32) : Option Int32 := if ¬ i < 0 ∧ i.toNatClampNeg < n then some (f i.toNatClampNeg) else none
def nm {α β : Type} (x : α) (f : α → β) : β := f x
def nwO {β : Type} (c n : Nat) (h : Mem) (f : Nat → Mem → Option β) : Option β := f (mSz h + 1) (alM c n h)
def nwA {β : Type} (c cap : Nat) (n : Int32) (h : Mem) (f : Nat → Mem → Option β) : Option β := if ¬ n < 0 ∧ n.toNatClampNeg ≤ cap then f (mSz h + 1) (alM c n.toNatClampNeg h) else none
def cpI (h : Mem) (a : Nat) (i : Int32) (b : Nat) (j : Int32) (n : Int32) : Option Mem := if (mKd h a = 11 ∧ mKd h b = 11) ∧ (¬ i < 0 ∧ ¬ j < 0 ∧ ¬ n < 0) ∧ i.toNatClampNeg + n.toNatClampNeg ≤ mLn h a ∧ j.toNatClampNeg + n.toNatClampNeg ≤ mLn h b then some (sI h b (va_cpy (mI h a) (mI h b) i.toNatClampNeg j.toNatClampNeg n.toNatClampNeg)) else none
def cpJ (h : Mem) (a : Nat) (i : Int32) (b : Nat) (j : Int32) (n : Int32) : Option Mem := if (mKd h a = 12 ∧ mKd h b = 12) ∧ (¬ i < 0 ∧ ¬ j < 0 ∧ ¬ n < 0) ∧ i.toNatClampNeg + n.toNatClampNeg ≤ mLn h a ∧ j.toNatClampNeg + n.toNatClampNeg ≤ mLn h b then some (sL h b (va_cpy (mL h a) (mL h b) i.toNatClampNeg j.toNatClampNeg n.toNatClampNeg)) else none
def lpF {σ ρ : Type} (f : (σ → Option ρ) → σ → Option ρ) : Nat → σ → Option ρ
  | 0, _ => none
  | n + 1, s => f (lpF f n) s
def FU : Nat := 1000000
def jn {σ β : Type} (f : σ → β) (g : (σ → β) → β) : β := g f
def rvI : Int32 → Option Value := fun x => some (.int x)
def rvJ : Int64 → Option Value := fun x => some (.long x)
def rvV : Unit → Option Value := fun _ => none
def rvR (E : Ev) : Nat → Option Value := fun a => some (rv E a)

/-- what is known of a class's field k: its class's number, rows and words, its type -/
def ClOK (c : Nat) (C : String) (T : u_T) (N : Nat) (ty : Nat → FieldType) : Prop := vwCl[c]? = some (C, T, N) ∧ c < 11 ∧ (∀ w ∈ u_ws C T N, w ∈ WSA) ∧ (∀ k, k < N → parseFieldDescriptor (T k).2.2.1 = some (ty k)) ∧ (∀ a, a < N → ∀ b, b < N → a ≠ b → (T a).2.1 ≠ (T b).2.1) ∧ (FTY.getD c []).length = N ∧ (∀ k, k < N → defaultValue (ty k) = if (FTY.getD c []).getD k 0 = 0 then .int 0 else if (FTY.getD c []).getD k 0 = 1 then .long 0 else .null)
/-- a field's link: field k of class c, of type t (0 int, 1 long, 2 reference) -/
def FL (own : String) (index c k t : Nat) : Prop := ∃ (C : String) (T : u_T) (N : Nat) (ty : Nat → FieldType), ClOK c C T N ty ∧ k < N ∧ (FTY.getD c [])[k]? = some t ∧ Cond.fieldLink own index (T k).1 (T k).2.1 (T k).2.2.1 ∈ WSA
/-- .. of a field that isn't final, and of this type -/
def FW (own : String) (index c k t : Nat) (ft : FieldType) : Prop := ∃ (C : String) (T : u_T) (N : Nat) (ty : Nat → FieldType), ClOK c C T N ty ∧ k < N ∧ (FTY.getD c [])[k]? = some t ∧ Cond.fieldLink own index (T k).1 (T k).2.1 (T k).2.2.1 ∈ WSA ∧ (T k).2.2.2 = false ∧ ty k = ft
/-- .. of a final field of the own class -/
def FF (own : String) (index c k t : Nat) (ft : FieldType) : Prop := ∃ (C : String) (T : u_T) (N : Nat) (ty : Nat → FieldType), ClOK c C T N ty ∧ k < N ∧ (FTY.getD c [])[k]? = some t ∧ Cond.fieldLink own index (T k).1 (T k).2.1 (T k).2.2.1 ∈ WSA ∧ (T k).2.2.2 = true ∧ (T k).1 = own ∧ ty k = ft
section AW
variable {α : Type} {K : Kx} {E : Ev} {R : Room} {nL : Nat} {Q : α → Mem → State → Prop} {cells slots pc : Nat} {L : List (Nat × Value)} {st : List Value} {h : Mem} {own : String} {cc : ByteArray}
theorem aw_none : Aw K E R nL Q cells slots pc L st h (none : Option (α × Mem)) := fun _ _ e => by cases e
theorem aw_sub {L' : List (Nat × Value)} {d : Option (α × Mem)} (ks : List Nat) (hl : lv_pick L ks = L') (kk : Aw K E R nL Q cells slots pc L' st h d) : Aw K E R nL Q cells slots pc L st h d :=
  fun r h' e H locs ls hz M hS hls => kk r h' e H locs ls hz M hS (lv_sub hls ks hl)
theorem aw_eq {d d' : Option (α × Mem)} (he : d = d') (kk : Aw K E R nL Q cells slots pc L st h d') : Aw K E R nL Q cells slots pc L st h d := he ▸ kk
theorem aw_nm {β : Type} {d : β → Option (α × Mem)} {x : β} (kk : ∀ y, y = x → Aw K E R nL Q cells slots pc L st h (d y)) : Aw K E R nL Q cells slots pc L st h (nm x d) := kk x rfl

theorem aw_iload_n (C : CxOK K E own cc nL) {k : Fin 4} {i : Nat} {x : Int32} (hd : decode cc pc = .ok (.iload_n k, 1)) (hi : (k : Nat) = i) (j : Nat) (hj : L[j]? = some (i, .int x)) {d : Option (α × Mem)} (kk : Aw K E R nL Q cells slots (pc + 1) L (.int x :: st) h d) : Aw K E R nL Q cells slots pc L st h d :=
  fun r h' e H locs ls hz M hS hls => lv_iload_n C.1 C.2.1 hd hi (lv_at hls j hj) (kk r h' e H locs ls hz M hS hls)
theorem aw_iload (C : CxOK K E own cc nL) {i : Nat} {x : Int32} (hd : decode cc pc = .ok (.iload i, 2)) (j : Nat) (hj : L[j]? = some (i, .int x)) {d : Option (α × Mem)} (kk : Aw K E R nL Q cells slots (pc + 2) L (.int x :: st) h d) : Aw K E R nL Q cells slots pc L st h d :=
  fun r h' e H locs ls hz M hS hls => lv_iload C.1 C.2.1 hd (lv_at hls j hj) (kk r h' e H locs ls hz M hS hls)
theorem aw_istore_n (C : CxOK K E own cc nL) {k : Fin 4} {i : Nat} {x : Int32} {L' : List (Nat × Value)} (hd : decode cc pc = .ok (.istore_n k, 1)) (hi : (k : Nat) = i) (hn : i < nL) (hl : (i, (Value.int x)) :: L.filter (fun q => !(q.1 == i) && !(q.1 + 1 == i && q.2.category == 2)) = L') {d : Option (α × Mem)} (kk : Aw K E R nL Q cells slots (pc + 1) L' st h d) : Aw K E R nL Q cells slots pc L (.int x :: st) h d :=
  fun r h' e H locs ls hz M hS hls => lv_istore_n C.1 C.2.1 hd hi hls hn hl (fun ls' hls' => kk r h' e H locs ls' hz M hS hls')
theorem aw_istore (C : CxOK K E own cc nL) {i : Nat} {x : Int32} {L' : List (Nat × Value)} (hd : decode cc pc = .ok (.istore i, 2)) (hn : i < nL) (hl : (i, (Value.int x)) :: L.filter (fun q => !(q.1 == i) && !(q.1 + 1 == i && q.2.category == 2)) = L') {d : Option (α × Mem)} (kk : Aw K E R nL Q cells slots (pc + 2) L' st h d) : Aw K E R nL Q cells slots pc L (.int x :: st) h d :=
  fun r h' e H locs ls hz M hS hls => lv_istore C.1 C.2.1 hd hls hn hl (fun ls' hls' => kk r h' e H locs ls' hz M hS hls')
theorem aw_lload_n (C : CxOK K E own cc nL) {k : Fin 4} {i : Nat} {x : Int64} (hd : decode cc pc = .ok (.lload_n k, 1)) (hi : (k : Nat) = i) (j : Nat) (hj : L[j]? = some (i, .long x)) {d : Option (α × Mem)} (kk : Aw K E R nL Q cells slots (pc + 1) L (.long x :: st) h d) : Aw K E R nL Q cells slots pc L st h d :=
  fun r h' e H locs ls hz M hS hls => lv_lload_n C.1 C.2.1 hd hi (lv_at hls j hj) (kk r h' e H locs ls hz M hS hls)
theorem aw_lload (C : CxOK K E own cc nL) {i : Nat} {x : Int64} (hd : decode cc pc = .ok (.lload i, 2)) (j : Nat) (hj : L[j]? = some (i, .long x)) {d : Option (α × Mem)} (kk : Aw K E R nL Q cells slots (pc + 2) L (.long x :: st) h d) : Aw K E R nL Q cells slots pc L st h d :=
  fun r h' e H locs ls hz M hS hls => lv_lload C.1 C.2.1 hd (lv_at hls j hj) (kk r h' e H locs ls hz M hS hls)
theorem aw_lstore_n (C : CxOK K E own cc nL) {k : Fin 4} {i : Nat} {x : Int64} {L' : List (Nat × Value)} (hd : decode cc pc = .ok (.lstore_n k, 1)) (hi : (k : Nat) = i) (hn : i + 1 < nL) (hl : (i, (Value.long x)) :: L.filter (fun q => !(q.1 == i) && (!(q.1 == i + 1) && !(q.1 + 1 == i && q.2.category == 2))) = L') {d : Option (α × Mem)} (kk : Aw K E R nL Q cells slots (pc + 1) L' st h d) : Aw K E R nL Q cells slots pc L (.long x :: st) h d :=
  fun r h' e H locs ls hz M hS hls => lv_lstore_n C.1 C.2.1 hd hi hls hn hl (fun ls' hls' => kk r h' e H locs ls' hz M hS hls')
theorem aw_lstore (C : CxOK K E own cc nL) {i : Nat} {x : Int64} {L' : List (Nat × Value)} (hd : decode cc pc = .ok (.lstore i, 2)) (hn : i + 1 < nL) (hl : (i, (Value.long x)) :: L.filter (fun q => !(q.1 == i) && (!(q.1 == i + 1) && !(q.1 + 1 == i && q.2.category == 2))) = L') {d : Option (α × Mem)} (kk : Aw K E R nL Q cells slots (pc + 2) L' st h d) : Aw K E R nL Q cells slots pc L (.long x :: st) h d :=
  fun r h' e H locs ls hz M hS hls => lv_lstore C.1 C.2.1 hd hls hn hl (fun ls' hls' => kk r h' e H locs ls' hz M hS hls')
theorem aw_aload_n (C : CxOK K E own cc nL) {k : Fin 4} {i : Nat} {x : Nat} (hd : decode cc pc = .ok (.aload_n k, 1)) (hi : (k : Nat) = i) (j : Nat) (hj : L[j]? = some (i, .ref x)) {d : Option (α × Mem)} (kk : Aw K E R nL Q cells slots (pc + 1) L (.ref x :: st) h d) : Aw K E R nL Q cells slots pc L st h d :=
  fun r h' e H locs ls hz M hS hls => lv_aload_n C.1 C.2.1 hd hi (lv_at hls j hj) (kk r h' e H locs ls hz M hS hls)
theorem aw_aload (C : CxOK K E own cc nL) {i : Nat} {x : Nat} (hd : decode cc pc = .ok (.aload i, 2)) (j : Nat) (hj : L[j]? = some (i, .ref x)) {d : Option (α × Mem)} (kk : Aw K E R nL Q cells slots (pc + 2) L (.ref x :: st) h d) : Aw K E R nL Q cells slots pc L st h d :=
  fun r h' e H locs ls hz M hS hls => lv_aload C.1 C.2.1 hd (lv_at hls j hj) (kk r h' e H locs ls hz M hS hls)
theorem aw_astore_n (C : CxOK K E own cc nL) {k : Fin 4} {i : Nat} {x : Nat} {L' : List (Nat × Value)} (hd : decode cc pc = .ok (.astore_n k, 1)) (hi : (k : Nat) = i) (hn : i < nL) (hl : (i, (Value.ref x)) :: L.filter (fun q => !(q.1 == i) && !(q.1 + 1 == i && q.2.category == 2)) = L') {d : Option (α × Mem)} (kk : Aw K E R nL Q cells slots (pc + 1) L' st h d) : Aw K E R nL Q cells slots pc L (.ref x :: st) h d :=
  fun r h' e H locs ls hz M hS hls => lv_astore_n C.1 C.2.1 hd hi hls hn hl (fun ls' hls' => kk r h' e H locs ls' hz M hS hls')
theorem aw_astore (C : CxOK K E own cc nL) {i : Nat} {x : Nat} {L' : List (Nat × Value)} (hd : decode cc pc = .ok (.astore i, 2)) (hn : i < nL) (hl : (i, (Value.ref x)) :: L.filter (fun q => !(q.1 == i) && !(q.1 + 1 == i && q.2.category == 2)) = L') {d : Option (α × Mem)} (kk : Aw K E R nL Q cells slots (pc + 2) L' st h d) : Aw K E R nL Q cells slots pc L (.ref x :: st) h d :=
  fun r h' e H locs ls hz M hS hls => lv_astore C.1 C.2.1 hd hls hn hl (fun ls' hls' => kk r h' e H locs ls' hz M hS hls')
theorem aw_iinc (C : CxOK K E own cc nL) {i : Nat} {n : Int} {x v : Int32} {L' : List (Nat × Value)} (hd : decode cc pc = .ok (.iinc i n, 3)) (j : Nat) (hj : L[j]? = some (i, .int x)) (hv : x + Int32.ofInt n = v) (hn : i < nL) (hl : (i, Value.int v) :: L.filter (fun q => !(q.1 == i) && !(q.1 + 1 == i && q.2.category == 2)) = L') {d : Option (α × Mem)} (kk : Aw K E R nL Q cells slots (pc + 3) L' st h d) : Aw K E R nL Q cells slots pc L st h d :=
  fun r h' e H locs ls hz M hS hls => lv_iinc C.1 C.2.1 hd hls hj hv hn hl (fun ls' hls' => kk r h' e H locs ls' hz M hS hls')
theorem aw_iconst (C : CxOK K E own cc nL) {n : Int} {v : Int32} (hd : decode cc pc = .ok (.iconst n, 1)) (hv : Int32.ofInt n = v) {d : Option (α × Mem)} (kk : Aw K E R nL Q cells slots (pc + 1) L (.int v :: st) h d) : Aw K E R nL Q cells slots pc L (st) h d :=
  fun r h' e H locs ls hz M hS hls => lv_iconst C.1 C.2.1 hd hv (kk r h' e H locs ls hz M hS hls)
theorem aw_bipush (C : CxOK K E own cc nL) {n : Int} {v : Int32} (hd : decode cc pc = .ok (.bipush n, 2)) (hv : (Int8.ofInt n).toInt32 = v) {d : Option (α × Mem)} (kk : Aw K E R nL Q cells slots (pc + 2) L (.int v :: st) h d) : Aw K E R nL Q cells slots pc L (st) h d :=
  fun r h' e H locs ls hz M hS hls => lv_bipush C.1 C.2.1 hd hv (kk r h' e H locs ls hz M hS hls)
theorem aw_sipush (C : CxOK K E own cc nL) {n : Int} {v : Int32} (hd : decode cc pc = .ok (.sipush n, 3)) (hv : (Int16.ofInt n).toInt32 = v) {d : Option (α × Mem)} (kk : Aw K E R nL Q cells slots (pc + 3) L (.int v :: st) h d) : Aw K E R nL Q cells slots pc L (st) h d :=
  fun r h' e H locs ls hz M hS hls => lv_sipush C.1 C.2.1 hd hv (kk r h' e H locs ls hz M hS hls)
theorem aw_lconst (C : CxOK K E own cc nL) {n : Fin 2} {v : Int64} (hd : decode cc pc = .ok (.lconst n, 1)) (hv : Int64.ofNat (n : Nat) = v) {d : Option (α × Mem)} (kk : Aw K E R nL Q cells slots (pc + 1) L (.long v :: st) h d) : Aw K E R nL Q cells slots pc L (st) h d :=
  fun r h' e H locs ls hz M hS hls => lv_lconst C.1 C.2.1 hd hv (kk r h' e H locs ls hz M hS hls)
theorem aw_ldc2 (C : CxOK K E own cc nL) {index : Nat} {v : Int64} (hw : Jvm.Cond.constantLong own index v ∈ WSA) (hd : decode cc pc = .ok (.ldc2_w index, 3)) {d : Option (α × Mem)} (kk : Aw K E R nL Q cells slots (pc + 3) L (.long v :: st) h d) : Aw K E R nL Q cells slots pc L (st) h d :=
  fun r h' e H locs ls hz M hS hls => lv_ldc2 C.1 C.2.1 C.2.2.2.1 (C.2.2.2.2.1 _ hw) hd (kk r h' e H locs ls hz M hS hls)
theorem aw_ldc (C : CxOK K E own cc nL) {index : Nat} {v : Int32} (hw : Jvm.Cond.constant own index v ∈ WSA) (hd : decode cc pc = .ok (.ldc index, 2)) {d : Option (α × Mem)} (kk : Aw K E R nL Q cells slots (pc + 2) L (.int v :: st) h d) : Aw K E R nL Q cells slots pc L (st) h d :=
  fun r h' e H locs ls hz M hS hls => lv_ldc C.1 C.2.1 C.2.2.2.1 (C.2.2.2.2.1 _ hw) hd (kk r h' e H locs ls hz M hS hls)
theorem aw_ldcw (C : CxOK K E own cc nL) {index : Nat} {v : Int32} (hw : Jvm.Cond.constant own index v ∈ WSA) (hd : decode cc pc = .ok (.ldc_w index, 3)) {d : Option (α × Mem)} (kk : Aw K E R nL Q cells slots (pc + 3) L (.int v :: st) h d) : Aw K E R nL Q cells slots pc L (st) h d :=
  fun r h' e H locs ls hz M hS hls => lv_ldcw C.1 C.2.1 C.2.2.2.1 (C.2.2.2.2.1 _ hw) hd (kk r h' e H locs ls hz M hS hls)
theorem aw_null (C : CxOK K E own cc nL) (hd : decode cc pc = .ok (.aconst_null, 1)) {d : Option (α × Mem)} (kk : Aw K E R nL Q cells slots (pc + 1) L (.null :: st) h d) : Aw K E R nL Q cells slots pc L (st) h d :=
  fun r h' e H locs ls hz M hS hls => lv_null C.1 C.2.1 hd (kk r h' e H locs ls hz M hS hls)
theorem aw_nmI {d : Int32 → Option (α × Mem)} {x : Int32} (kk : ∀ v, v = x → Aw K E R nL Q cells slots pc L (.int v :: st) h (d v)) : Aw K E R nL Q cells slots pc L (.int x :: st) h (nm x d) := kk x rfl
theorem aw_nmJ {d : Int64 → Option (α × Mem)} {x : Int64} (kk : ∀ v, v = x → Aw K E R nL Q cells slots pc L (.long v :: st) h (d v)) : Aw K E R nL Q cells slots pc L (.long x :: st) h (nm x d) := kk x rfl
theorem aw_iincN (C : CxOK K E own cc nL) {i : Nat} {n : Int} {x k : Int32} {L1 : List (Nat × Value)} (hd : decode cc pc = .ok (.iinc i n, 3)) (j : Nat) (hj : L[j]? = some (i, .int x)) (hk : Int32.ofInt n = k) (hn : i < nL) (hl : L.filter (fun q => !(q.1 == i) && !(q.1 + 1 == i && q.2.category == 2)) = L1) {d : Int32 → Option (α × Mem)} (kk : ∀ v, v = x + k → Aw K E R nL Q cells slots (pc + 3) ((i, .int v) :: L1) st h (d v)) : Aw K E R nL Q cells slots pc L st h (nm (x + k) d) := by
  subst hk
  exact aw_iinc C hd j hj rfl hn (congrArg _ hl) (kk _ rfl)
theorem gR_ne {c a k v : Nat} (e : gR c h a k = some v) : v ≠ 0 := by
  unfold gR at e
  split at e
  · rename_i hc
    cases e
    exact hc.2
  · cases e
theorem xR_ne {a v : Nat} {i : Int32} (e : xR h a i = some v) : v ≠ 0 := by
  unfold xR at e
  split at e
  · rename_i hc
    cases e
    exact hc.2.2
  · cases e
theorem aw_iadd (C : CxOK K E own cc nL) {x y : Int32} (hd : decode cc pc = .ok (.iadd, 1)) {d : Option (α × Mem)} (kk : Aw K E R nL Q cells slots (pc + 1) L (.int (x + y) :: st) h d) : Aw K E R nL Q cells slots pc L (.int y :: .int x :: st) h d :=
  fun r h' e H locs ls hz M hS hls => lv_iadd C.1 C.2.1 hd (kk r h' e H locs ls hz M hS hls)
theorem aw_isub (C : CxOK K E own cc nL) {x y : Int32} (hd : decode cc pc = .ok (.isub, 1)) {d : Option (α × Mem)} (kk : Aw K E R nL Q cells slots (pc + 1) L (.int (x - y) :: st) h d) : Aw K E R nL Q cells slots pc L (.int y :: .int x :: st) h d :=
  fun r h' e H locs ls hz M hS hls => lv_isub C.1 C.2.1 hd (kk r h' e H locs ls hz M hS hls)
theorem aw_imul (C : CxOK K E own cc nL) {x y : Int32} (hd : decode cc pc = .ok (.imul, 1)) {d : Option (α × Mem)} (kk : Aw K E R nL Q cells slots (pc + 1) L (.int (x * y) :: st) h d) : Aw K E R nL Q cells slots pc L (.int y :: .int x :: st) h d :=
  fun r h' e H locs ls hz M hS hls => lv_imul C.1 C.2.1 hd (kk r h' e H locs ls hz M hS hls)
theorem aw_iand (C : CxOK K E own cc nL) {x y : Int32} (hd : decode cc pc = .ok (.iand, 1)) {d : Option (α × Mem)} (kk : Aw K E R nL Q cells slots (pc + 1) L (.int (x &&& y) :: st) h d) : Aw K E R nL Q cells slots pc L (.int y :: .int x :: st) h d :=
  fun r h' e H locs ls hz M hS hls => lv_iand C.1 C.2.1 hd (kk r h' e H locs ls hz M hS hls)
theorem aw_ior (C : CxOK K E own cc nL) {x y : Int32} (hd : decode cc pc = .ok (.ior, 1)) {d : Option (α × Mem)} (kk : Aw K E R nL Q cells slots (pc + 1) L (.int (x ||| y) :: st) h d) : Aw K E R nL Q cells slots pc L (.int y :: .int x :: st) h d :=
  fun r h' e H locs ls hz M hS hls => lv_ior C.1 C.2.1 hd (kk r h' e H locs ls hz M hS hls)
theorem aw_ixor (C : CxOK K E own cc nL) {x y : Int32} (hd : decode cc pc = .ok (.ixor, 1)) {d : Option (α × Mem)} (kk : Aw K E R nL Q cells slots (pc + 1) L (.int (x ^^^ y) :: st) h d) : Aw K E R nL Q cells slots pc L (.int y :: .int x :: st) h d :=
  fun r h' e H locs ls hz M hS hls => lv_ixor C.1 C.2.1 hd (kk r h' e H locs ls hz M hS hls)
theorem aw_ishr (C : CxOK K E own cc nL) {x y : Int32} (hd : decode cc pc = .ok (.ishr, 1)) {d : Option (α × Mem)} (kk : Aw K E R nL Q cells slots (pc + 1) L (.int (x >>> (y &&& 31)) :: st) h d) : Aw K E R nL Q cells slots pc L (.int y :: .int x :: st) h d :=
  fun r h' e H locs ls hz M hS hls => lv_ishr C.1 C.2.1 hd (kk r h' e H locs ls hz M hS hls)
theorem aw_ishl (C : CxOK K E own cc nL) {x y : Int32} (hd : decode cc pc = .ok (.ishl, 1)) {d : Option (α × Mem)} (kk : Aw K E R nL Q cells slots (pc + 1) L (.int (x <<< (y &&& 31)) :: st) h d) : Aw K E R nL Q cells slots pc L (.int y :: .int x :: st) h d :=
  fun r h' e H locs ls hz M hS hls => lv_ishl C.1 C.2.1 hd (kk r h' e H locs ls hz M hS hls)
theorem aw_iushr (C : CxOK K E own cc nL) {x y v : Int32} (hd : decode cc pc = .ok (.iushr, 1)) (hv : (x.toUInt32 >>> (y.toUInt32 &&& Int32.toUInt32 31)).toInt32 = v) {d : Option (α × Mem)} (kk : Aw K E R nL Q cells slots (pc + 1) L (.int v :: st) h d) : Aw K E R nL Q cells slots pc L (.int y :: .int x :: st) h d :=
  fun r h' e H locs ls hz M hS hls => lv_iushr C.1 C.2.1 hd hv (kk r h' e H locs ls hz M hS hls)
theorem aw_ladd (C : CxOK K E own cc nL) {x y : Int64} (hd : decode cc pc = .ok (.ladd, 1)) {d : Option (α × Mem)} (kk : Aw K E R nL Q cells slots (pc + 1) L (.long (x + y) :: st) h d) : Aw K E R nL Q cells slots pc L (.long y :: .long x :: st) h d :=
  fun r h' e H locs ls hz M hS hls => lv_ladd C.1 C.2.1 hd (kk r h' e H locs ls hz M hS hls)
theorem aw_lsub (C : CxOK K E own cc nL) {x y : Int64} (hd : decode cc pc = .ok (.lsub, 1)) {d : Option (α × Mem)} (kk : Aw K E R nL Q cells slots (pc + 1) L (.long (x - y) :: st) h d) : Aw K E R nL Q cells slots pc L (.long y :: .long x :: st) h d :=
  fun r h' e H locs ls hz M hS hls => lv_lsub C.1 C.2.1 hd (kk r h' e H locs ls hz M hS hls)
theorem aw_lmul (C : CxOK K E own cc nL) {x y : Int64} (hd : decode cc pc = .ok (.lmul, 1)) {d : Option (α × Mem)} (kk : Aw K E R nL Q cells slots (pc + 1) L (.long (x * y) :: st) h d) : Aw K E R nL Q cells slots pc L (.long y :: .long x :: st) h d :=
  fun r h' e H locs ls hz M hS hls => lv_lmul C.1 C.2.1 hd (kk r h' e H locs ls hz M hS hls)
theorem aw_land (C : CxOK K E own cc nL) {x y : Int64} (hd : decode cc pc = .ok (.land, 1)) {d : Option (α × Mem)} (kk : Aw K E R nL Q cells slots (pc + 1) L (.long (x &&& y) :: st) h d) : Aw K E R nL Q cells slots pc L (.long y :: .long x :: st) h d :=
  fun r h' e H locs ls hz M hS hls => lv_land C.1 C.2.1 hd (kk r h' e H locs ls hz M hS hls)
theorem aw_lor (C : CxOK K E own cc nL) {x y : Int64} (hd : decode cc pc = .ok (.lor, 1)) {d : Option (α × Mem)} (kk : Aw K E R nL Q cells slots (pc + 1) L (.long (x ||| y) :: st) h d) : Aw K E R nL Q cells slots pc L (.long y :: .long x :: st) h d :=
  fun r h' e H locs ls hz M hS hls => lv_lor C.1 C.2.1 hd (kk r h' e H locs ls hz M hS hls)
theorem aw_lxor (C : CxOK K E own cc nL) {x y : Int64} (hd : decode cc pc = .ok (.lxor, 1)) {d : Option (α × Mem)} (kk : Aw K E R nL Q cells slots (pc + 1) L (.long (x ^^^ y) :: st) h d) : Aw K E R nL Q cells slots pc L (.long y :: .long x :: st) h d :=
  fun r h' e H locs ls hz M hS hls => lv_lxor C.1 C.2.1 hd (kk r h' e H locs ls hz M hS hls)
theorem aw_lshl (C : CxOK K E own cc nL) {x : Int64} {y : Int32} (hd : decode cc pc = .ok (.lshl, 1)) {d : Option (α × Mem)} (kk : Aw K E R nL Q cells slots (pc + 1) L (.long (x <<< (y.toInt64 &&& 63)) :: st) h d) : Aw K E R nL Q cells slots pc L (.int y :: .long x :: st) h d :=
  fun r h' e H locs ls hz M hS hls => lv_lshl C.1 C.2.1 hd rfl (kk r h' e H locs ls hz M hS hls)
theorem aw_ineg (C : CxOK K E own cc nL) {x : Int32} (hd : decode cc pc = .ok (.ineg, 1)) {d : Option (α × Mem)} (kk : Aw K E R nL Q cells slots (pc + 1) L (.int (-x) :: st) h d) : Aw K E R nL Q cells slots pc L (.int x :: st) h d :=
  fun r h' e H locs ls hz M hS hls => lv_ineg C.1 C.2.1 hd (kk r h' e H locs ls hz M hS hls)
theorem aw_lneg (C : CxOK K E own cc nL) {x : Int64} (hd : decode cc pc = .ok (.lneg, 1)) {d : Option (α × Mem)} (kk : Aw K E R nL Q cells slots (pc + 1) L (.long (-x) :: st) h d) : Aw K E R nL Q cells slots pc L (.long x :: st) h d :=
  fun r h' e H locs ls hz M hS hls => lv_lneg C.1 C.2.1 hd (kk r h' e H locs ls hz M hS hls)
theorem aw_i2l (C : CxOK K E own cc nL) {x : Int32} (hd : decode cc pc = .ok (.i2l, 1)) {d : Option (α × Mem)} (kk : Aw K E R nL Q cells slots (pc + 1) L (.long x.toInt64 :: st) h d) : Aw K E R nL Q cells slots pc L (.int x :: st) h d :=
  fun r h' e H locs ls hz M hS hls => lv_i2l C.1 C.2.1 hd rfl (kk r h' e H locs ls hz M hS hls)
theorem aw_l2i (C : CxOK K E own cc nL) {x : Int64} (hd : decode cc pc = .ok (.l2i, 1)) {d : Option (α × Mem)} (kk : Aw K E R nL Q cells slots (pc + 1) L (.int x.toInt32 :: st) h d) : Aw K E R nL Q cells slots pc L (.long x :: st) h d :=
  fun r h' e H locs ls hz M hS hls => lv_l2i C.1 C.2.1 hd rfl (kk r h' e H locs ls hz M hS hls)
theorem aw_i2b (C : CxOK K E own cc nL) {x : Int32} (hd : decode cc pc = .ok (.i2b, 1)) {d : Option (α × Mem)} (kk : Aw K E R nL Q cells slots (pc + 1) L (.int x.toInt8.toInt32 :: st) h d) : Aw K E R nL Q cells slots pc L (.int x :: st) h d :=
  fun r h' e H locs ls hz M hS hls => lv_i2b C.1 C.2.1 hd rfl (kk r h' e H locs ls hz M hS hls)
theorem aw_i2s (C : CxOK K E own cc nL) {x : Int32} (hd : decode cc pc = .ok (.i2s, 1)) {d : Option (α × Mem)} (kk : Aw K E R nL Q cells slots (pc + 1) L (.int x.toInt16.toInt32 :: st) h d) : Aw K E R nL Q cells slots pc L (.int x :: st) h d :=
  fun r h' e H locs ls hz M hS hls => lv_i2s C.1 C.2.1 hd rfl (kk r h' e H locs ls hz M hS hls)
theorem aw_lcmp (C : CxOK K E own cc nL) {x y : Int64} (hd : decode cc pc = .ok (.lcmp, 1)) {d : Option (α × Mem)} (kk : Aw K E R nL Q cells slots (pc + 1) L (.int (lg_cmp x y) :: st) h d) : Aw K E R nL Q cells slots pc L (.long y :: .long x :: st) h d :=
  fun r h' e H locs ls hz M hS hls => W.lcmp C.1 C.2.1 hd (kk r h' e H locs ls hz M hS hls)
theorem aw_dup (C : CxOK K E own cc nL) {v : Value} (hv : v.category = 1) (hd : decode cc pc = .ok (.dup, 1)) {d : Option (α × Mem)} (kk : Aw K E R nL Q cells slots (pc + 1) L (v :: v :: st) h d) : Aw K E R nL Q cells slots pc L (v :: st) h d :=
  fun r h' e H locs ls hz M hS hls => lv_dup C.1 C.2.1 hd hv (kk r h' e H locs ls hz M hS hls)
theorem aw_dup2 (C : CxOK K E own cc nL) {v u : Value} (hv : v.category = 1) (hu : u.category = 1) (hd : decode cc pc = .ok (.dup2, 1)) {d : Option (α × Mem)} (kk : Aw K E R nL Q cells slots (pc + 1) L (v :: u :: v :: u :: st) h d) : Aw K E R nL Q cells slots pc L (v :: u :: st) h d :=
  fun r h' e H locs ls hz M hS hls => lv_dup2_11 C.1 C.2.1 hd hv hu (kk r h' e H locs ls hz M hS hls)
theorem aw_dup_x1 (C : CxOK K E own cc nL) {v u : Value} (hv : v.category = 1) (hu : u.category = 1) (hd : decode cc pc = .ok (.dup_x1, 1)) {d : Option (α × Mem)} (kk : Aw K E R nL Q cells slots (pc + 1) L (v :: u :: v :: st) h d) : Aw K E R nL Q cells slots pc L (v :: u :: st) h d :=
  fun r h' e H locs ls hz M hS hls => lv_dup_x1 C.1 C.2.1 hd hv hu (kk r h' e H locs ls hz M hS hls)
theorem aw_pop (C : CxOK K E own cc nL) {v : Value} (hv : v.category = 1) (hd : decode cc pc = .ok (.pop, 1)) {d : Option (α × Mem)} (kk : Aw K E R nL Q cells slots (pc + 1) L (st) h d) : Aw K E R nL Q cells slots pc L (v :: st) h d :=
  fun r h' e H locs ls hz M hS hls => lv_pop C.1 C.2.1 hd hv (kk r h' e H locs ls hz M hS hls)
theorem aw_idiv (C : CxOK K E own cc nL) {x y : Int32} (hd : decode cc pc = .ok (.idiv, 1)) {d : Option (α × Mem)} (kk : ¬ y = 0 → Aw K E R nL Q cells slots (pc + 1) L (.int (x / y) :: st) h d) : Aw K E R nL Q cells slots pc L (.int y :: .int x :: st) h (if y = 0 then none else d) := by
  intro r h' e H locs ls hz M hS hls
  by_cases hy : y = 0
  · rw [if_pos hy] at e; cases e
  · rw [if_neg hy] at e; exact lv_idiv C.1 C.2.1 hd hy (kk hy r h' e H locs ls hz M hS hls)
theorem aw_irem (C : CxOK K E own cc nL) {x y : Int32} (hd : decode cc pc = .ok (.irem, 1)) {d : Option (α × Mem)} (kk : ¬ y = 0 → Aw K E R nL Q cells slots (pc + 1) L (.int (x - x / y * y) :: st) h d) : Aw K E R nL Q cells slots pc L (.int y :: .int x :: st) h (if y = 0 then none else d) := by
  intro r h' e H locs ls hz M hS hls
  by_cases hy : y = 0
  · rw [if_pos hy] at e; cases e
  · rw [if_neg hy] at e; exact lv_irem C.1 C.2.1 hd hy (kk hy r h' e H locs ls hz M hS hls)
theorem aw_ldiv (C : CxOK K E own cc nL) {x y : Int64} (hd : decode cc pc = .ok (.ldiv, 1)) {d : Option (α × Mem)} (kk : ¬ y = 0 → Aw K E R nL Q cells slots (pc + 1) L (.long (x / y) :: st) h d) : Aw K E R nL Q cells slots pc L (.long y :: .long x :: st) h (if y = 0 then none else d) := by
  intro r h' e H locs ls hz M hS hls
  by_cases hy : y = 0
  · rw [if_pos hy] at e; cases e
  · rw [if_neg hy] at e; exact lv_ldiv C.1 C.2.1 hd hy (kk hy r h' e H locs ls hz M hS hls)
theorem aw_lrem (C : CxOK K E own cc nL) {x y : Int64} (hd : decode cc pc = .ok (.lrem, 1)) {d : Option (α × Mem)} (kk : ¬ y = 0 → Aw K E R nL Q cells slots (pc + 1) L (.long (x - x / y * y) :: st) h d) : Aw K E R nL Q cells slots pc L (.long y :: .long x :: st) h (if y = 0 then none else d) := by
  intro r h' e H locs ls hz M hS hls
  by_cases hy : y = 0
  · rw [if_pos hy] at e; cases e
  · rw [if_neg hy] at e; exact lv_lrem C.1 C.2.1 hd hy (kk hy r h' e H locs ls hz M hS hls)
theorem aw_if_eq (C : CxOK K E own cc nL) {x : Int32} {off : Int} (tgt : Nat) (hd : decode cc pc = .ok (.ifCond .eq off, 3)) (ht : (pc : Int) + off = (tgt : Int)) {d1 d2 : Option (α × Mem)} (kt : (x = 0) → Aw K E R nL Q cells slots tgt L st h d1) (kf : ¬ (x = 0) → Aw K E R nL Q cells slots (pc + 3) L st h d2) : Aw K E R nL Q cells slots pc L (.int x :: st) h (if x = 0 then d1 else d2) := by
  intro r h' e H locs ls hz M hS hls
  refine lv_if_eq C.1 C.2.1 hd ht (fun hc => ?_) (fun hc => ?_)
  · rw [if_pos hc] at e; exact kt hc r h' e H locs ls hz M hS hls
  · rw [if_neg hc] at e; exact kf hc r h' e H locs ls hz M hS hls
theorem aw_if_eq_t (C : CxOK K E own cc nL) {x : Int32} {off : Int} (tgt : Nat) (hd : decode cc pc = .ok (.ifCond .eq off, 3)) (ht : (pc : Int) + off = (tgt : Int)) (hc : x = 0) {d : Option (α × Mem)} (kt : Aw K E R nL Q cells slots tgt L st h d) : Aw K E R nL Q cells slots pc L (.int x :: st) h d := fun r h' e H locs ls hz M hS hls => lv_if_eq C.1 C.2.1 hd ht (fun _ => kt r h' e H locs ls hz M hS hls) (fun hn => absurd hc hn)
theorem aw_if_eq_f (C : CxOK K E own cc nL) {x : Int32} {off : Int} (tgt : Nat) (hd : decode cc pc = .ok (.ifCond .eq off, 3)) (ht : (pc : Int) + off = (tgt : Int)) (hc : ¬ (x = 0)) {d : Option (α × Mem)} (kf : Aw K E R nL Q cells slots (pc + 3) L st h d) : Aw K E R nL Q cells slots pc L (.int x :: st) h d := fun r h' e H locs ls hz M hS hls => lv_if_eq C.1 C.2.1 hd ht (fun hn => absurd hn hc) (fun _ => kf r h' e H locs ls hz M hS hls)
theorem aw_icmp_eq (C : CxOK K E own cc nL) {x y : Int32} {off : Int} (tgt : Nat) (hd : decode cc pc = .ok (.if_icmp .eq off, 3)) (ht : (pc : Int) + off = (tgt : Int)) {d1 d2 : Option (α × Mem)} (kt : (x = y) → Aw K E R nL Q cells slots tgt L st h d1) (kf : ¬ (x = y) → Aw K E R nL Q cells slots (pc + 3) L st h d2) : Aw K E R nL Q cells slots pc L (.int y :: .int x :: st) h (if x = y then d1 else d2) := by
  intro r h' e H locs ls hz M hS hls
  refine lv_icmp_eq C.1 C.2.1 hd ht (fun hc => ?_) (fun hc => ?_)
  · rw [if_pos hc] at e; exact kt hc r h' e H locs ls hz M hS hls
  · rw [if_neg hc] at e; exact kf hc r h' e H locs ls hz M hS hls
theorem aw_icmp_eq_t (C : CxOK K E own cc nL) {x y : Int32} {off : Int} (tgt : Nat) (hd : decode cc pc = .ok (.if_icmp .eq off, 3)) (ht : (pc : Int) + off = (tgt : Int)) (hc : x = y) {d : Option (α × Mem)} (kt : Aw K E R nL Q cells slots tgt L st h d) : Aw K E R nL Q cells slots pc L (.int y :: .int x :: st) h d := fun r h' e H locs ls hz M hS hls => lv_icmp_eq C.1 C.2.1 hd ht (fun _ => kt r h' e H locs ls hz M hS hls) (fun hn => absurd hc hn)
theorem aw_icmp_eq_f (C : CxOK K E own cc nL) {x y : Int32} {off : Int} (tgt : Nat) (hd : decode cc pc = .ok (.if_icmp .eq off, 3)) (ht : (pc : Int) + off = (tgt : Int)) (hc : ¬ (x = y)) {d : Option (α × Mem)} (kf : Aw K E R nL Q cells slots (pc + 3) L st h d) : Aw K E R nL Q cells slots pc L (.int y :: .int x :: st) h d := fun r h' e H locs ls hz M hS hls => lv_icmp_eq C.1 C.2.1 hd ht (fun hn => absurd hn hc) (fun _ => kf r h' e H locs ls hz M hS hls)
theorem aw_if_ne (C : CxOK K E own cc nL) {x : Int32} {off : Int} (tgt : Nat) (hd : decode cc pc = .ok (.ifCond .ne off, 3)) (ht : (pc : Int) + off = (tgt : Int)) {d1 d2 : Option (α × Mem)} (kf : (x = 0) → Aw K E R nL Q cells slots (pc + 3) L st h d1) (kt : ¬ (x = 0) → Aw K E R nL Q cells slots tgt L st h d2) : Aw K E R nL Q cells slots pc L (.int x :: st) h (if x = 0 then d1 else d2) := by
  intro r h' e H locs ls hz M hS hls
  refine lv_if_ne C.1 C.2.1 hd ht (fun hc => ?_) (fun hc => ?_)
  · rw [if_neg hc] at e; exact kt hc r h' e H locs ls hz M hS hls
  · rw [if_pos hc] at e; exact kf hc r h' e H locs ls hz M hS hls
theorem aw_if_ne_t (C : CxOK K E own cc nL) {x : Int32} {off : Int} (tgt : Nat) (hd : decode cc pc = .ok (.ifCond .ne off, 3)) (ht : (pc : Int) + off = (tgt : Int)) (hc : ¬ (x = 0)) {d : Option (α × Mem)} (kt : Aw K E R nL Q cells slots tgt L st h d) : Aw K E R nL Q cells slots pc L (.int x :: st) h d := fun r h' e H locs ls hz M hS hls => lv_if_ne C.1 C.2.1 hd ht (fun _ => kt r h' e H locs ls hz M hS hls) (fun hn => absurd hn hc)
theorem aw_if_ne_f (C : CxOK K E own cc nL) {x : Int32} {off : Int} (tgt : Nat) (hd : decode cc pc = .ok (.ifCond .ne off, 3)) (ht : (pc : Int) + off = (tgt : Int)) (hc : x = 0) {d : Option (α × Mem)} (kf : Aw K E R nL Q cells slots (pc + 3) L st h d) : Aw K E R nL Q cells slots pc L (.int x :: st) h d := fun r h' e H locs ls hz M hS hls => lv_if_ne C.1 C.2.1 hd ht (fun hn => absurd hc hn) (fun _ => kf r h' e H locs ls hz M hS hls)
theorem aw_icmp_ne (C : CxOK K E own cc nL) {x y : Int32} {off : Int} (tgt : Nat) (hd : decode cc pc = .ok (.if_icmp .ne off, 3)) (ht : (pc : Int) + off = (tgt : Int)) {d1 d2 : Option (α × Mem)} (kf : (x = y) → Aw K E R nL Q cells slots (pc + 3) L st h d1) (kt : ¬ (x = y) → Aw K E R nL Q cells slots tgt L st h d2) : Aw K E R nL Q cells slots pc L (.int y :: .int x :: st) h (if x = y then d1 else d2) := by
  intro r h' e H locs ls hz M hS hls
  refine lv_icmp_ne C.1 C.2.1 hd ht (fun hc => ?_) (fun hc => ?_)
  · rw [if_neg hc] at e; exact kt hc r h' e H locs ls hz M hS hls
  · rw [if_pos hc] at e; exact kf hc r h' e H locs ls hz M hS hls
theorem aw_icmp_ne_t (C : CxOK K E own cc nL) {x y : Int32} {off : Int} (tgt : Nat) (hd : decode cc pc = .ok (.if_icmp .ne off, 3)) (ht : (pc : Int) + off = (tgt : Int)) (hc : ¬ (x = y)) {d : Option (α × Mem)} (kt : Aw K E R nL Q cells slots tgt L st h d) : Aw K E R nL Q cells slots pc L (.int y :: .int x :: st) h d := fun r h' e H locs ls hz M hS hls => lv_icmp_ne C.1 C.2.1 hd ht (fun _ => kt r h' e H locs ls hz M hS hls) (fun hn => absurd hn hc)
theorem aw_icmp_ne_f (C : CxOK K E own cc nL) {x y : Int32} {off : Int} (tgt : Nat) (hd : decode cc pc = .ok (.if_icmp .ne off, 3)) (ht : (pc : Int) + off = (tgt : Int)) (hc : x = y) {d : Option (α × Mem)} (kf : Aw K E R nL Q cells slots (pc + 3) L st h d) : Aw K E R nL Q cells slots pc L (.int y :: .int x :: st) h d := fun r h' e H locs ls hz M hS hls => lv_icmp_ne C.1 C.2.1 hd ht (fun hn => absurd hc hn) (fun _ => kf r h' e H locs ls hz M hS hls)
theorem aw_if_lt (C : CxOK K E own cc nL) {x : Int32} {off : Int} (tgt : Nat) (hd : decode cc pc = .ok (.ifCond .lt off, 3)) (ht : (pc : Int) + off = (tgt : Int)) {d1 d2 : Option (α × Mem)} (kt : (x < 0) → Aw K E R nL Q cells slots tgt L st h d1) (kf : ¬ (x < 0) → Aw K E R nL Q cells slots (pc + 3) L st h d2) : Aw K E R nL Q cells slots pc L (.int x :: st) h (if x < 0 then d1 else d2) := by
  intro r h' e H locs ls hz M hS hls
  refine lv_if_lt C.1 C.2.1 hd ht (fun hc => ?_) (fun hc => ?_)
  · rw [if_pos hc] at e; exact kt hc r h' e H locs ls hz M hS hls
  · rw [if_neg hc] at e; exact kf hc r h' e H locs ls hz M hS hls
theorem aw_if_lt_t (C : CxOK K E own cc nL) {x : Int32} {off : Int} (tgt : Nat) (hd : decode cc pc = .ok (.ifCond .lt off, 3)) (ht : (pc : Int) + off = (tgt : Int)) (hc : x < 0) {d : Option (α × Mem)} (kt : Aw K E R nL Q cells slots tgt L st h d) : Aw K E R nL Q cells slots pc L (.int x :: st) h d := fun r h' e H locs ls hz M hS hls => lv_if_lt C.1 C.2.1 hd ht (fun _ => kt r h' e H locs ls hz M hS hls) (fun hn => absurd hc hn)
theorem aw_if_lt_f (C : CxOK K E own cc nL) {x : Int32} {off : Int} (tgt : Nat) (hd : decode cc pc = .ok (.ifCond .lt off, 3)) (ht : (pc : Int) + off = (tgt : Int)) (hc : ¬ (x < 0)) {d : Option (α × Mem)} (kf : Aw K E R nL Q cells slots (pc + 3) L st h d) : Aw K E R nL Q cells slots pc L (.int x :: st) h d := fun r h' e H locs ls hz M hS hls => lv_if_lt C.1 C.2.1 hd ht (fun hn => absurd hn hc) (fun _ => kf r h' e H locs ls hz M hS hls)
theorem aw_icmp_lt (C : CxOK K E own cc nL) {x y : Int32} {off : Int} (tgt : Nat) (hd : decode cc pc = .ok (.if_icmp .lt off, 3)) (ht : (pc : Int) + off = (tgt : Int)) {d1 d2 : Option (α × Mem)} (kt : (x < y) → Aw K E R nL Q cells slots tgt L st h d1) (kf : ¬ (x < y) → Aw K E R nL Q cells slots (pc + 3) L st h d2) : Aw K E R nL Q cells slots pc L (.int y :: .int x :: st) h (if x < y then d1 else d2) := by
  intro r h' e H locs ls hz M hS hls
  refine lv_icmp_lt C.1 C.2.1 hd ht (fun hc => ?_) (fun hc => ?_)
  · rw [if_pos hc] at e; exact kt hc r h' e H locs ls hz M hS hls
  · rw [if_neg hc] at e; exact kf hc r h' e H locs ls hz M hS hls
theorem aw_icmp_lt_t (C : CxOK K E own cc nL) {x y : Int32} {off : Int} (tgt : Nat) (hd : decode cc pc = .ok (.if_icmp .lt off, 3)) (ht : (pc : Int) + off = (tgt : Int)) (hc : x < y) {d : Option (α × Mem)} (kt : Aw K E R nL Q cells slots tgt L st h d) : Aw K E R nL Q cells slots pc L (.int y :: .int x :: st) h d := fun r h' e H locs ls hz M hS hls => lv_icmp_lt C.1 C.2.1 hd ht (fun _ => kt r h' e H locs ls hz M hS hls) (fun hn => absurd hc hn)
theorem aw_icmp_lt_f (C : CxOK K E own cc nL) {x y : Int32} {off : Int} (tgt : Nat) (hd : decode cc pc = .ok (.if_icmp .lt off, 3)) (ht : (pc : Int) + off = (tgt : Int)) (hc : ¬ (x < y)) {d : Option (α × Mem)} (kf : Aw K E R nL Q cells slots (pc + 3) L st h d) : Aw K E R nL Q cells slots pc L (.int y :: .int x :: st) h d := fun r h' e H locs ls hz M hS hls => lv_icmp_lt C.1 C.2.1 hd ht (fun hn => absurd hn hc) (fun _ => kf r h' e H locs ls hz M hS hls)
theorem aw_if_ge (C : CxOK K E own cc nL) {x : Int32} {off : Int} (tgt : Nat) (hd : decode cc pc = .ok (.ifCond .ge off, 3)) (ht : (pc : Int) + off = (tgt : Int)) {d1 d2 : Option (α × Mem)} (kt : (0 ≤ x) → Aw K E R nL Q cells slots tgt L st h d1) (kf : ¬ (0 ≤ x) → Aw K E R nL Q cells slots (pc + 3) L st h d2) : Aw K E R nL Q cells slots pc L (.int x :: st) h (if 0 ≤ x then d1 else d2) := by
  intro r h' e H locs ls hz M hS hls
  refine lv_if_ge C.1 C.2.1 hd ht (fun hc => ?_) (fun hc => ?_)
  · rw [if_pos hc] at e; exact kt hc r h' e H locs ls hz M hS hls
  · rw [if_neg hc] at e; exact kf hc r h' e H locs ls hz M hS hls
theorem aw_if_ge_t (C : CxOK K E own cc nL) {x : Int32} {off : Int} (tgt : Nat) (hd : decode cc pc = .ok (.ifCond .ge off, 3)) (ht : (pc : Int) + off = (tgt : Int)) (hc : 0 ≤ x) {d : Option (α × Mem)} (kt : Aw K E R nL Q cells slots tgt L st h d) : Aw K E R nL Q cells slots pc L (.int x :: st) h d := fun r h' e H locs ls hz M hS hls => lv_if_ge C.1 C.2.1 hd ht (fun _ => kt r h' e H locs ls hz M hS hls) (fun hn => absurd hc hn)
theorem aw_if_ge_f (C : CxOK K E own cc nL) {x : Int32} {off : Int} (tgt : Nat) (hd : decode cc pc = .ok (.ifCond .ge off, 3)) (ht : (pc : Int) + off = (tgt : Int)) (hc : ¬ (0 ≤ x)) {d : Option (α × Mem)} (kf : Aw K E R nL Q cells slots (pc + 3) L st h d) : Aw K E R nL Q cells slots pc L (.int x :: st) h d := fun r h' e H locs ls hz M hS hls => lv_if_ge C.1 C.2.1 hd ht (fun hn => absurd hn hc) (fun _ => kf r h' e H locs ls hz M hS hls)
theorem aw_icmp_ge (C : CxOK K E own cc nL) {x y : Int32} {off : Int} (tgt : Nat) (hd : decode cc pc = .ok (.if_icmp .ge off, 3)) (ht : (pc : Int) + off = (tgt : Int)) {d1 d2 : Option (α × Mem)} (kt : (y ≤ x) → Aw K E R nL Q cells slots tgt L st h d1) (kf : ¬ (y ≤ x) → Aw K E R nL Q cells slots (pc + 3) L st h d2) : Aw K E R nL Q cells slots pc L (.int y :: .int x :: st) h (if y ≤ x then d1 else d2) := by
  intro r h' e H locs ls hz M hS hls
  refine lv_icmp_ge C.1 C.2.1 hd ht (fun hc => ?_) (fun hc => ?_)
  · rw [if_pos hc] at e; exact kt hc r h' e H locs ls hz M hS hls
  · rw [if_neg hc] at e; exact kf hc r h' e H locs ls hz M hS hls
theorem aw_icmp_ge_t (C : CxOK K E own cc nL) {x y : Int32} {off : Int} (tgt : Nat) (hd : decode cc pc = .ok (.if_icmp .ge off, 3)) (ht : (pc : Int) + off = (tgt : Int)) (hc : y ≤ x) {d : Option (α × Mem)} (kt : Aw K E R nL Q cells slots tgt L st h d) : Aw K E R nL Q cells slots pc L (.int y :: .int x :: st) h d := fun r h' e H locs ls hz M hS hls => lv_icmp_ge C.1 C.2.1 hd ht (fun _ => kt r h' e H locs ls hz M hS hls) (fun hn => absurd hc hn)
theorem aw_icmp_ge_f (C : CxOK K E own cc nL) {x y : Int32} {off : Int} (tgt : Nat) (hd : decode cc pc = .ok (.if_icmp .ge off, 3)) (ht : (pc : Int) + off = (tgt : Int)) (hc : ¬ (y ≤ x)) {d : Option (α × Mem)} (kf : Aw K E R nL Q cells slots (pc + 3) L st h d) : Aw K E R nL Q cells slots pc L (.int y :: .int x :: st) h d := fun r h' e H locs ls hz M hS hls => lv_icmp_ge C.1 C.2.1 hd ht (fun hn => absurd hn hc) (fun _ => kf r h' e H locs ls hz M hS hls)
theorem aw_if_gt (C : CxOK K E own cc nL) {x : Int32} {off : Int} (tgt : Nat) (hd : decode cc pc = .ok (.ifCond .gt off, 3)) (ht : (pc : Int) + off = (tgt : Int)) {d1 d2 : Option (α × Mem)} (kt : (0 < x) → Aw K E R nL Q cells slots tgt L st h d1) (kf : ¬ (0 < x) → Aw K E R nL Q cells slots (pc + 3) L st h d2) : Aw K E R nL Q cells slots pc L (.int x :: st) h (if 0 < x then d1 else d2) := by
  intro r h' e H locs ls hz M hS hls
  refine lv_if_gt C.1 C.2.1 hd ht (fun hc => ?_) (fun hc => ?_)
  · rw [if_pos hc] at e; exact kt hc r h' e H locs ls hz M hS hls
  · rw [if_neg hc] at e; exact kf hc r h' e H locs ls hz M hS hls
theorem aw_if_gt_t (C : CxOK K E own cc nL) {x : Int32} {off : Int} (tgt : Nat) (hd : decode cc pc = .ok (.ifCond .gt off, 3)) (ht : (pc : Int) + off = (tgt : Int)) (hc : 0 < x) {d : Option (α × Mem)} (kt : Aw K E R nL Q cells slots tgt L st h d) : Aw K E R nL Q cells slots pc L (.int x :: st) h d := fun r h' e H locs ls hz M hS hls => lv_if_gt C.1 C.2.1 hd ht (fun _ => kt r h' e H locs ls hz M hS hls) (fun hn => absurd hc hn)
theorem aw_if_gt_f (C : CxOK K E own cc nL) {x : Int32} {off : Int} (tgt : Nat) (hd : decode cc pc = .ok (.ifCond .gt off, 3)) (ht : (pc : Int) + off = (tgt : Int)) (hc : ¬ (0 < x)) {d : Option (α × Mem)} (kf : Aw K E R nL Q cells slots (pc + 3) L st h d) : Aw K E R nL Q cells slots pc L (.int x :: st) h d := fun r h' e H locs ls hz M hS hls => lv_if_gt C.1 C.2.1 hd ht (fun hn => absurd hn hc) (fun _ => kf r h' e H locs ls hz M hS hls)
theorem aw_icmp_gt (C : CxOK K E own cc nL) {x y : Int32} {off : Int} (tgt : Nat) (hd : decode cc pc = .ok (.if_icmp .gt off, 3)) (ht : (pc : Int) + off = (tgt : Int)) {d1 d2 : Option (α × Mem)} (kt : (y < x) → Aw K E R nL Q cells slots tgt L st h d1) (kf : ¬ (y < x) → Aw K E R nL Q cells slots (pc + 3) L st h d2) : Aw K E R nL Q cells slots pc L (.int y :: .int x :: st) h (if y < x then d1 else d2) := by
  intro r h' e H locs ls hz M hS hls
  refine lv_icmp_gt C.1 C.2.1 hd ht (fun hc => ?_) (fun hc => ?_)
  · rw [if_pos hc] at e; exact kt hc r h' e H locs ls hz M hS hls
  · rw [if_neg hc] at e; exact kf hc r h' e H locs ls hz M hS hls
theorem aw_icmp_gt_t (C : CxOK K E own cc nL) {x y : Int32} {off : Int} (tgt : Nat) (hd : decode cc pc = .ok (.if_icmp .gt off, 3)) (ht : (pc : Int) + off = (tgt : Int)) (hc : y < x) {d : Option (α × Mem)} (kt : Aw K E R nL Q cells slots tgt L st h d) : Aw K E R nL Q cells slots pc L (.int y :: .int x :: st) h d := fun r h' e H locs ls hz M hS hls => lv_icmp_gt C.1 C.2.1 hd ht (fun _ => kt r h' e H locs ls hz M hS hls) (fun hn => absurd hc hn)
theorem aw_icmp_gt_f (C : CxOK K E own cc nL) {x y : Int32} {off : Int} (tgt : Nat) (hd : decode cc pc = .ok (.if_icmp .gt off, 3)) (ht : (pc : Int) + off = (tgt : Int)) (hc : ¬ (y < x)) {d : Option (α × Mem)} (kf : Aw K E R nL Q cells slots (pc + 3) L st h d) : Aw K E R nL Q cells slots pc L (.int y :: .int x :: st) h d := fun r h' e H locs ls hz M hS hls => lv_icmp_gt C.1 C.2.1 hd ht (fun hn => absurd hn hc) (fun _ => kf r h' e H locs ls hz M hS hls)
theorem aw_if_le (C : CxOK K E own cc nL) {x : Int32} {off : Int} (tgt : Nat) (hd : decode cc pc = .ok (.ifCond .le off, 3)) (ht : (pc : Int) + off = (tgt : Int)) {d1 d2 : Option (α × Mem)} (kt : (x ≤ 0) → Aw K E R nL Q cells slots tgt L st h d1) (kf : ¬ (x ≤ 0) → Aw K E R nL Q cells slots (pc + 3) L st h d2) : Aw K E R nL Q cells slots pc L (.int x :: st) h (if x ≤ 0 then d1 else d2) := by
  intro r h' e H locs ls hz M hS hls
  refine lv_if_le C.1 C.2.1 hd ht (fun hc => ?_) (fun hc => ?_)
  · rw [if_pos hc] at e; exact kt hc r h' e H locs ls hz M hS hls
  · rw [if_neg hc] at e; exact kf hc r h' e H locs ls hz M hS hls
theorem aw_if_le_t (C : CxOK K E own cc nL) {x : Int32} {off : Int} (tgt : Nat) (hd : decode cc pc = .ok (.ifCond .le off, 3)) (ht : (pc : Int) + off = (tgt : Int)) (hc : x ≤ 0) {d : Option (α × Mem)} (kt : Aw K E R nL Q cells slots tgt L st h d) : Aw K E R nL Q cells slots pc L (.int x :: st) h d := fun r h' e H locs ls hz M hS hls => lv_if_le C.1 C.2.1 hd ht (fun _ => kt r h' e H locs ls hz M hS hls) (fun hn => absurd hc hn)
theorem aw_if_le_f (C : CxOK K E own cc nL) {x : Int32} {off : Int} (tgt : Nat) (hd : decode cc pc = .ok (.ifCond .le off, 3)) (ht : (pc : Int) + off = (tgt : Int)) (hc : ¬ (x ≤ 0)) {d : Option (α × Mem)} (kf : Aw K E R nL Q cells slots (pc + 3) L st h d) : Aw K E R nL Q cells slots pc L (.int x :: st) h d := fun r h' e H locs ls hz M hS hls => lv_if_le C.1 C.2.1 hd ht (fun hn => absurd hn hc) (fun _ => kf r h' e H locs ls hz M hS hls)
theorem aw_icmp_le (C : CxOK K E own cc nL) {x y : Int32} {off : Int} (tgt : Nat) (hd : decode cc pc = .ok (.if_icmp .le off, 3)) (ht : (pc : Int) + off = (tgt : Int)) {d1 d2 : Option (α × Mem)} (kt : (x ≤ y) → Aw K E R nL Q cells slots tgt L st h d1) (kf : ¬ (x ≤ y) → Aw K E R nL Q cells slots (pc + 3) L st h d2) : Aw K E R nL Q cells slots pc L (.int y :: .int x :: st) h (if x ≤ y then d1 else d2) := by
  intro r h' e H locs ls hz M hS hls
  refine lv_icmp_le C.1 C.2.1 hd ht (fun hc => ?_) (fun hc => ?_)
  · rw [if_pos hc] at e; exact kt hc r h' e H locs ls hz M hS hls
  · rw [if_neg hc] at e; exact kf hc r h' e H locs ls hz M hS hls
theorem aw_icmp_le_t (C : CxOK K E own cc nL) {x y : Int32} {off : Int} (tgt : Nat) (hd : decode cc pc = .ok (.if_icmp .le off, 3)) (ht : (pc : Int) + off = (tgt : Int)) (hc : x ≤ y) {d : Option (α × Mem)} (kt : Aw K E R nL Q cells slots tgt L st h d) : Aw K E R nL Q cells slots pc L (.int y :: .int x :: st) h d := fun r h' e H locs ls hz M hS hls => lv_icmp_le C.1 C.2.1 hd ht (fun _ => kt r h' e H locs ls hz M hS hls) (fun hn => absurd hc hn)
theorem aw_icmp_le_f (C : CxOK K E own cc nL) {x y : Int32} {off : Int} (tgt : Nat) (hd : decode cc pc = .ok (.if_icmp .le off, 3)) (ht : (pc : Int) + off = (tgt : Int)) (hc : ¬ (x ≤ y)) {d : Option (α × Mem)} (kf : Aw K E R nL Q cells slots (pc + 3) L st h d) : Aw K E R nL Q cells slots pc L (.int y :: .int x :: st) h d := fun r h' e H locs ls hz M hS hls => lv_icmp_le C.1 C.2.1 hd ht (fun hn => absurd hn hc) (fun _ => kf r h' e H locs ls hz M hS hls)
theorem aw_goto (C : CxOK K E own cc nL) {off : Int} (tgt : Nat) (hd : decode cc pc = .ok (.goto off, 3)) (ht : (pc : Int) + off = (tgt : Int)) {d : Option (α × Mem)} (kk : Aw K E R nL Q cells slots tgt L st h d) : Aw K E R nL Q cells slots pc L st h d :=
  fun r h' e H locs ls hz M hS hls => lv_goto C.1 C.2.1 hd ht (kk r h' e H locs ls hz M hS hls)
theorem aw_ifnull_f (C : CxOK K E own cc nL) {x : Nat} {off : Int} (hd : decode cc pc = .ok (.ifnull off, 3)) {d : Option (α × Mem)} (kk : Aw K E R nL Q cells slots (pc + 3) L st h d) : Aw K E R nL Q cells slots pc L (.ref x :: st) h d :=
  fun r h' e H locs ls hz M hS hls => lv_ifnull C.1 C.2.1 hd (kk r h' e H locs ls hz M hS hls)
theorem aw_ifnull_t (C : CxOK K E own cc nL) {off : Int} (tgt : Nat) (hd : decode cc pc = .ok (.ifnull off, 3)) (ht : (pc : Int) + off = (tgt : Int)) {d : Option (α × Mem)} (kk : Aw K E R nL Q cells slots tgt L st h d) : Aw K E R nL Q cells slots pc L (.null :: st) h d :=
  fun r h' e H locs ls hz M hS hls => lv_ifnullN C.1 C.2.1 hd ht (kk r h' e H locs ls hz M hS hls)
theorem aw_ifnonnull_f (C : CxOK K E own cc nL) {off : Int} (hd : decode cc pc = .ok (.ifnonnull off, 3)) {d : Option (α × Mem)} (kk : Aw K E R nL Q cells slots (pc + 3) L st h d) : Aw K E R nL Q cells slots pc L (.null :: st) h d :=
  fun r h' e H locs ls hz M hS hls => lv_ifnonnullN C.1 C.2.1 hd (kk r h' e H locs ls hz M hS hls)
theorem aw_ifnonnull_t (C : CxOK K E own cc nL) {x : Nat} {off : Int} (tgt : Nat) (hd : decode cc pc = .ok (.ifnonnull off, 3)) (ht : (pc : Int) + off = (tgt : Int)) {d : Option (α × Mem)} (kk : Aw K E R nL Q cells slots tgt L st h d) : Aw K E R nL Q cells slots pc L (.ref x :: st) h d :=
  fun r h' e H locs ls hz M hS hls => lv_ifnonnull C.1 C.2.1 hd ht (kk r h' e H locs ls hz M hS hls)
theorem aw_aload_nN (C : CxOK K E own cc nL) {k : Fin 4} {i : Nat} (hd : decode cc pc = .ok (.aload_n k, 1)) (hi : (k : Nat) = i) (j : Nat) (hj : L[j]? = some (i, .null)) {d : Option (α × Mem)} (kk : Aw K E R nL Q cells slots (pc + 1) L (.null :: st) h d) : Aw K E R nL Q cells slots pc L st h d :=
  fun r h' e H locs ls hz M hS hls => lv_aload_nN C.1 C.2.1 hd hi (lv_at hls j hj) (kk r h' e H locs ls hz M hS hls)
theorem aw_aloadN (C : CxOK K E own cc nL) {i : Nat} (hd : decode cc pc = .ok (.aload i, 2)) (j : Nat) (hj : L[j]? = some (i, .null)) {d : Option (α × Mem)} (kk : Aw K E R nL Q cells slots (pc + 2) L (.null :: st) h d) : Aw K E R nL Q cells slots pc L st h d :=
  fun r h' e H locs ls hz M hS hls => lv_aloadN C.1 C.2.1 hd (lv_at hls j hj) (kk r h' e H locs ls hz M hS hls)
theorem aw_astore_nN (C : CxOK K E own cc nL) {k : Fin 4} {i : Nat} {L' : List (Nat × Value)} (hd : decode cc pc = .ok (.astore_n k, 1)) (hi : (k : Nat) = i) (hn : i < nL) (hl : (i, Value.null) :: L.filter (fun q => !(q.1 == i) && !(q.1 + 1 == i && q.2.category == 2)) = L') {d : Option (α × Mem)} (kk : Aw K E R nL Q cells slots (pc + 1) L' st h d) : Aw K E R nL Q cells slots pc L (.null :: st) h d :=
  fun r h' e H locs ls hz M hS hls => lv_astore_nN C.1 C.2.1 hd hi hls hn hl (fun ls' hls' => kk r h' e H locs ls' hz M hS hls')
theorem aw_astoreN (C : CxOK K E own cc nL) {i : Nat} {L' : List (Nat × Value)} (hd : decode cc pc = .ok (.astore i, 2)) (hn : i < nL) (hl : (i, Value.null) :: L.filter (fun q => !(q.1 == i) && !(q.1 + 1 == i && q.2.category == 2)) = L') {d : Option (α × Mem)} (kk : Aw K E R nL Q cells slots (pc + 2) L' st h d) : Aw K E R nL Q cells slots pc L (.null :: st) h d :=
  fun r h' e H locs ls hz M hS hls => lv_astoreN C.1 C.2.1 hd hls hn hl (fun ls' hls' => kk r h' e H locs ls' hz M hS hls')
theorem aw_loop {σ : Type} (Lf : σ → List (Nat × Value)) (hf : σ → Mem) (f : (σ → Option (α × Mem)) → σ → Option (α × Mem)) (hb : ∀ k, (∀ s, Aw K E R nL Q cells slots pc (Lf s) [] (hf s) (k s)) → ∀ s, Aw K E R nL Q cells slots pc (Lf s) [] (hf s) (f k s)) : ∀ n s, Aw K E R nL Q cells slots pc (Lf s) [] (hf s) (lpF f n s) := by
  intro n
  induction n with
  | zero => exact fun s => aw_none
  | succ n ih => exact fun s => hb _ ih s
theorem aw_jn {σ : Type} (pc2 : Nat) (Lf : σ → List (Nat × Value)) (sf : σ → List Value) (hf : σ → Mem) {f : σ → Option (α × Mem)} {g : (σ → Option (α × Mem)) → Option (α × Mem)} (h1 : ∀ s, Aw K E R nL Q cells slots pc2 (Lf s) (sf s) (hf s) (f s)) (h2 : ∀ k, (∀ s, Aw K E R nL Q cells slots pc2 (Lf s) (sf s) (hf s) (k s)) → Aw K E R nL Q cells slots pc L st h (g k)) : Aw K E R nL Q cells slots pc L st h (jn f g) := h2 f h1
end AW
end
section
def s_find (U : State) (ty : FieldType) (cA : ClassId) : Prop := U.vm.findClass ("[" ++ ty.toString) = some cA
section AH
variable {α : Type} {K : Kx} {E : Ev} {R : Room} {nL : Nat} {Q : α → Mem → State → Prop} {cells slots pc : Nat} {L : List (Nat × Value)} {st : List Value} {h : Mem} {own : String} {cc : ByteArray}
theorem aw_getI (C : CxOK K E own cc nL) {index c k a : Nat} (hf : FL own index c k 0) (hd : decode cc pc = .ok (.getfield index, 3)) {d : Int32 → Option (α × Mem)} (kk : ∀ v, gI c h a k = some v → Aw K E R nL Q cells slots (pc + 3) L (.int v :: st) h (d v)) : Aw K E R nL Q cells slots pc L (rf E a :: st) h ((gI c h a k).bind d) := by
  intro r h' e H locs ls hz M hS hls
  by_cases hk : mKd h a = c
  · have hg : gI c h a k = some (mI h a k) := by unfold gI; rw [if_pos hk]
    rw [hg] at e
    obtain ⟨Cn, T, N, ty, ⟨hc, hc11, hin, hty, hnm, hlen, hdf⟩, hkN, hft, hw⟩ := hf
    have he := M.at (a := a) (by omega)
    rw [encE_o hk hc11] at he
    refine va_get (D := eD E) (ci := c) (C := Cn) (T := T) (N := N) (v := .int (mI h a k)) C.1 C.2.1 C.2.2.2.2.1 hin C.2.2.2.1 C.2.2.2.2.2.1 M.1 (a - 1) he hc k hkN (C.2.2.2.2.1 _ hw) (fun _ h9 => h9) (encO_at hft) hd ?_
    exact kk _ hg r h' e H locs ls hz M hS hls
  · have hg : gI c h a k = none := by unfold gI; rw [if_neg hk]
    rw [hg] at e; cases e
theorem aw_getJ (C : CxOK K E own cc nL) {index c k a : Nat} (hf : FL own index c k 1) (hd : decode cc pc = .ok (.getfield index, 3)) {d : Int64 → Option (α × Mem)} (kk : ∀ v, gJ c h a k = some v → Aw K E R nL Q cells slots (pc + 3) L (.long v :: st) h (d v)) : Aw K E R nL Q cells slots pc L (rf E a :: st) h ((gJ c h a k).bind d) := by
  intro r h' e H locs ls hz M hS hls
  by_cases hk : mKd h a = c
  · have hg : gJ c h a k = some (mL h a k) := by unfold gJ; rw [if_pos hk]
    rw [hg] at e
    obtain ⟨Cn, T, N, ty, ⟨hc, hc11, hin, hty, hnm, hlen, hdf⟩, hkN, hft, hw⟩ := hf
    have he := M.at (a := a) (by omega)
    rw [encE_o hk hc11] at he
    refine va_get (D := eD E) (ci := c) (C := Cn) (T := T) (N := N) (v := .long (mL h a k)) C.1 C.2.1 C.2.2.2.2.1 hin C.2.2.2.1 C.2.2.2.2.2.1 M.1 (a - 1) he hc k hkN (C.2.2.2.2.1 _ hw) (fun _ h9 => h9) (encO_at hft) hd ?_
    exact kk _ hg r h' e H locs ls hz M hS hls
  · have hg : gJ c h a k = none := by unfold gJ; rw [if_neg hk]
    rw [hg] at e; cases e
theorem aw_getR (C : CxOK K E own cc nL) {index c k a : Nat} (hf : FL own index c k 2) (hd : decode cc pc = .ok (.getfield index, 3)) {d : Nat → Option (α × Mem)} (kk : ∀ v, gR c h a k = some v → Aw K E R nL Q cells slots (pc + 3) L (rf E v :: st) h (d v)) : Aw K E R nL Q cells slots pc L (rf E a :: st) h ((gR c h a k).bind d) := by
  intro r h' e H locs ls hz M hS hls
  by_cases hk : mKd h a = c ∧ mR h a k ≠ 0
  · have hg : gR c h a k = some (mR h a k) := by unfold gR; rw [if_pos hk]
    rw [hg] at e
    obtain ⟨Cn, T, N, ty, ⟨hc, hc11, hin, hty, hnm, hlen, hdf⟩, hkN, hft, hw⟩ := hf
    have he := M.at (a := a) (by omega)
    rw [encE_o hk.1 hc11] at he
    refine va_get (D := eD E) (ci := c) (C := Cn) (T := T) (N := N) (v := rf E (mR h a k)) C.1 C.2.1 C.2.2.2.2.1 hin C.2.2.2.1 C.2.2.2.2.2.1 M.1 (a - 1) he hc k hkN (C.2.2.2.2.1 _ hw) (fun _ h9 => h9) ((encO_at hft).trans (congrArg some (rv_rf E hk.2))) hd ?_
    exact kk _ hg r h' e H locs ls hz M hS hls
  · have hg : gR c h a k = none := by unfold gR; rw [if_neg hk]
    rw [hg] at e; cases e
theorem aw_putI (C : CxOK K E own cc nL) {index c k a : Nat} {ft : FieldType} {v : Int32} (hf : FW own index c k 0 ft) (hn : narrow ft (.int v) = .int v) (hfi : fits ft (.int v) = true) (hd : decode cc pc = .ok (.putfield index, 3)) {d : Mem → Option (α × Mem)} (kk : ∀ h1, pI c h a k v = some h1 → Aw K E R nL Q cells slots (pc + 3) L st h1 (d h1)) : Aw K E R nL Q cells slots pc L (.int v :: rf E a :: st) h ((pI c h a k v).bind d) := by
  intro r h' e H locs ls hz M hS hls
  by_cases hk : mKd h a = c
  · have hg : pI c h a k v = some (sI h a (up1 (mI h a) k v)) := by unfold pI; rw [if_pos hk]
    rw [hg] at e
    obtain ⟨Cn, T, N, ty, ⟨hc, hc11, hin, hty, hnm, hlen, hdf⟩, hkN, hft, hw, hfin, hyt⟩ := hf
    have h15 : mKd h a < 15 := by omega
    have he := M.at h15
    rw [encE_o hk hc11] at he
    have hk' : mKd (sI h a (up1 (mI h a) k v)) a = c := hk
    have key : (enc E h).set (a - 1) (E.1 + a, .inr (c, (encO E h a c).set k (.int v))) = enc E (sI h a (up1 (mI h a) k v)) := by
      refine enc_set (E := E) (h := h) (h' := sI h a (up1 (mI h a) k v)) rfl (M.2 a h15).1 (fun b hb => encE_nI _ hb) ?_
      rw [encE_o hk' hc11, encO_set hft (v := .int v) ?_ ?_]
      · intro j u hu hj
        have e1 : mI (sI h a (up1 (mI h a) k v)) a j = mI h a j := by rw [mI_sI, up1_s, up1_n _ _ hj]
        unfold fv
        rw [e1]
        rfl
      · have e1 : mI (sI h a (up1 (mI h a) k v)) a k = v := by rw [mI_sI, up1_s, up1_s]
        show (Value.int (mI (sI h a (up1 (mI h a) k v)) a k)) = Value.int v
        rw [e1]
    refine va_put (D := eD E) (ci := c) (C := Cn) (T := T) (N := N) (v := .int v) (ty := ft) C.1 C.2.1 C.2.2.2.2.1 hin ty hty hnm C.2.2.2.1 C.2.2.2.2.2.1 M.1 (enc_D E h) hS (a - 1) he hc k hkN (C.2.2.2.2.1 _ hw) (fun _ h9 => h9) hfin (by rw [hty k hkN, hyt]) hn hfi (by rw [encO_len, hlen]; exact hkN) hd (fun H1 locs1 hP hD hS1 => ?_)
    rw [key] at hP
    exact kk _ hg r h' e H1 locs1 ls hz ⟨hP, M.2⟩ hS1 hls
  · have hg : pI c h a k v = none := by unfold pI; rw [if_neg hk]
    rw [hg] at e; cases e
theorem aw_putJ (C : CxOK K E own cc nL) {index c k a : Nat} {ft : FieldType} {v : Int64} (hf : FW own index c k 1 ft) (hn : narrow ft (.long v) = .long v) (hfi : fits ft (.long v) = true) (hd : decode cc pc = .ok (.putfield index, 3)) {d : Mem → Option (α × Mem)} (kk : ∀ h1, pJ c h a k v = some h1 → Aw K E R nL Q cells slots (pc + 3) L st h1 (d h1)) : Aw K E R nL Q cells slots pc L (.long v :: rf E a :: st) h ((pJ c h a k v).bind d) := by
  intro r h' e H locs ls hz M hS hls
  by_cases hk : mKd h a = c
  · have hg : pJ c h a k v = some (sL h a (up1 (mL h a) k v)) := by unfold pJ; rw [if_pos hk]
    rw [hg] at e
    obtain ⟨Cn, T, N, ty, ⟨hc, hc11, hin, hty, hnm, hlen, hdf⟩, hkN, hft, hw, hfin, hyt⟩ := hf
    have h15 : mKd h a < 15 := by omega
    have he := M.at h15
    rw [encE_o hk hc11] at he
    have hk' : mKd (sL h a (up1 (mL h a) k v)) a = c := hk
    have key : (enc E h).set (a - 1) (E.1 + a, .inr (c, (encO E h a c).set k (.long v))) = enc E (sL h a (up1 (mL h a) k v)) := by
      refine enc_set (E := E) (h := h) (h' := sL h a (up1 (mL h a) k v)) rfl (M.2 a h15).1 (fun b hb => encE_nL _ hb) ?_
      rw [encE_o hk' hc11, encO_set hft (v := .long v) ?_ ?_]
      · intro j u hu hj
        have e1 : mL (sL h a (up1 (mL h a) k v)) a j = mL h a j := by rw [mL_sL, up1_s, up1_n _ _ hj]
        unfold fv
        rw [e1]
        rfl
      · have e1 : mL (sL h a (up1 (mL h a) k v)) a k = v := by rw [mL_sL, up1_s, up1_s]
        show (Value.long (mL (sL h a (up1 (mL h a) k v)) a k)) = Value.long v
        rw [e1]
    refine va_put (D := eD E) (ci := c) (C := Cn) (T := T) (N := N) (v := .long v) (ty := ft) C.1 C.2.1 C.2.2.2.2.1 hin ty hty hnm C.2.2.2.1 C.2.2.2.2.2.1 M.1 (enc_D E h) hS (a - 1) he hc k hkN (C.2.2.2.2.1 _ hw) (fun _ h9 => h9) hfin (by rw [hty k hkN, hyt]) hn hfi (by rw [encO_len, hlen]; exact hkN) hd (fun H1 locs1 hP hD hS1 => ?_)
    rw [key] at hP
    exact kk _ hg r h' e H1 locs1 ls hz ⟨hP, M.2⟩ hS1 hls
  · have hg : pJ c h a k v = none := by unfold pJ; rw [if_neg hk]
    rw [hg] at e; cases e
theorem aw_putR (C : CxOK K E own cc nL) (hnm2 : (kMe K).name = "<init>") {index c k a : Nat} {ft : FieldType} {v : Nat} (hf : FF own index c k 2 ft) (hn : narrow ft (rf E v) = rf E v) (hfi : fits ft (rf E v) = true) (hd : decode cc pc = .ok (.putfield index, 3)) {d : Mem → Option (α × Mem)} (kk : ∀ h1, pR c h a k v = some h1 → Aw K E R nL Q cells slots (pc + 3) L st h1 (d h1)) : Aw K E R nL Q cells slots pc L (rf E v :: rf E a :: st) h ((pR c h a k v).bind d) := by
  intro r h' e H locs ls hz M hS hls
  by_cases hk : mKd h a = c ∧ v ≠ 0
  · have hg : pR c h a k v = some (sR h a (up1 (mR h a) k v)) := by unfold pR; rw [if_pos hk]
    rw [hg] at e
    obtain ⟨Cn, T, N, ty, ⟨hc, hc11, hin, hty, hnm, hlen, hdf⟩, hkN, hft, hw, hfin, hdecl, hyt⟩ := hf
    have h15 : mKd h a < 15 := by omega
    have he := M.at h15
    rw [encE_o hk.1 hc11] at he
    have hk' : mKd (sR h a (up1 (mR h a) k v)) a = c := hk.1
    have key : (enc E h).set (a - 1) (E.1 + a, .inr (c, (encO E h a c).set k (rf E v))) = enc E (sR h a (up1 (mR h a) k v)) := by
      refine enc_set (E := E) (h := h) (h' := sR h a (up1 (mR h a) k v)) rfl (M.2 a h15).1 (fun b hb => encE_nR _ hb) ?_
      rw [encE_o hk' hc11, encO_set hft (v := rf E v) ?_ ?_]
      · intro j u hu hj
        have e1 : mR (sR h a (up1 (mR h a) k v)) a j = mR h a j := by rw [mR_sR, up1_s, up1_n _ _ hj]
        unfold fv
        rw [e1]
        rfl
      · have e1 : mR (sR h a (up1 (mR h a) k v)) a k = v := by rw [mR_sR, up1_s, up1_s]
        show rv E (mR (sR h a (up1 (mR h a) k v)) a k) = rf E v
        rw [e1, rv_rf E hk.2]
    refine va_putF (D := eD E) (ci := c) (C := Cn) (T := T) (N := N) (v := rf E v) (ty := ft) C.1 C.2.1 C.2.2.2.2.1 hin ty hty hnm C.2.2.2.1 C.2.2.2.2.2.1 M.1 (enc_D E h) hS (a - 1) he hc k hkN (C.2.2.2.2.1 _ hw) (fun _ h9 => h9) hfin hnm2 hdecl (by rw [hty k hkN, hyt]) hn hfi (by rw [encO_len, hlen]; exact hkN) hd (fun H1 locs1 hP hD hS1 => ?_)
    rw [key] at hP
    exact kk _ hg r h' e H1 locs1 ls hz ⟨hP, M.2⟩ hS1 hls
  · have hg : pR c h a k v = none := by unfold pR; rw [if_neg hk]
    rw [hg] at e; cases e
theorem aw_iaload (C : CxOK K E own cc nL) {a : Nat} {i : Int32} (hd : decode cc pc = .ok (.iaload, 1)) {d : Int32 → Option (α × Mem)} (kk : ∀ v, xI 11 h a i = some v → Aw K E R nL Q cells slots (pc + 1) L (.int v :: st) h (d v)) : Aw K E R nL Q cells slots pc L (.int i :: rf E a :: st) h ((xI 11 h a i).bind d) := by
  intro r h' e H locs ls hz M hS hls
  by_cases hk : mKd h a = 11 ∧ ¬ i < 0 ∧ i.toNatClampNeg < mLn h a
  · have hg : xI 11 h a i = some (mI h a i.toNatClampNeg) := by unfold xI; rw [if_pos hk]
    rw [hg] at e
    have he := M.at (a := a) (by omega)
    rw [encE_i hk.1] at he
    exact va_iald (D := eD E) C.1 C.2.1 C.2.2.2.2.2.1 M.1 (a - 1) 0 he rfl (inB_vp hk.2) hd (kk _ hg r h' e H locs ls hz M hS hls)
  · have hg : xI 11 h a i = none := by unfold xI; rw [if_neg hk]
    rw [hg] at e; cases e
theorem aw_baload (C : CxOK K E own cc nL) {a : Nat} {i : Int32} (hd : decode cc pc = .ok (.baload, 1)) {d : Int32 → Option (α × Mem)} (kk : ∀ v, xI 13 h a i = some v → Aw K E R nL Q cells slots (pc + 1) L (.int v :: st) h (d v)) : Aw K E R nL Q cells slots pc L (.int i :: rf E a :: st) h ((xI 13 h a i).bind d) := by
  intro r h' e H locs ls hz M hS hls
  by_cases hk : mKd h a = 13 ∧ ¬ i < 0 ∧ i.toNatClampNeg < mLn h a
  · have hg : xI 13 h a i = some (mI h a i.toNatClampNeg) := by unfold xI; rw [if_pos hk]
    rw [hg] at e
    have he := M.at (a := a) (by omega)
    rw [encE_z hk.1] at he
    exact va_zald (D := eD E) C.1 C.2.1 C.2.2.2.2.2.1 M.1 (a - 1) 2 he rfl (inB_vp hk.2) hd (kk _ hg r h' e H locs ls hz M hS hls)
  · have hg : xI 13 h a i = none := by unfold xI; rw [if_neg hk]
    rw [hg] at e; cases e
theorem aw_laload (C : CxOK K E own cc nL) {a : Nat} {i : Int32} (hd : decode cc pc = .ok (.laload, 1)) {d : Int64 → Option (α × Mem)} (kk : ∀ v, xJ h a i = some v → Aw K E R nL Q cells slots (pc + 1) L (.long v :: st) h (d v)) : Aw K E R nL Q cells slots pc L (.int i :: rf E a :: st) h ((xJ h a i).bind d) := by
  intro r h' e H locs ls hz M hS hls
  by_cases hk : mKd h a = 12 ∧ ¬ i < 0 ∧ i.toNatClampNeg < mLn h a
  · have hg : xJ h a i = some (mL h a i.toNatClampNeg) := by unfold xJ; rw [if_pos hk]
    rw [hg] at e
    have he := M.at (a := a) (by omega)
    rw [encE_l hk.1] at he
    exact va_lald (D := eD E) C.1 C.2.1 C.2.2.2.2.2.1 M.1 (a - 1) 1 he rfl (inB_vp hk.2) hd (kk _ hg r h' e H locs ls hz M hS hls)
  · have hg : xJ h a i = none := by unfold xJ; rw [if_neg hk]
    rw [hg] at e; cases e
theorem aw_aaload (C : CxOK K E own cc nL) {a : Nat} {i : Int32} (hd : decode cc pc = .ok (.aaload, 1)) {d : Nat → Option (α × Mem)} (kk : ∀ v, xR h a i = some v → Aw K E R nL Q cells slots (pc + 1) L (rf E v :: st) h (d v)) : Aw K E R nL Q cells slots pc L (.int i :: rf E a :: st) h ((xR h a i).bind d) := by
  intro r h' e H locs ls hz M hS hls
  by_cases hk : mKd h a = 14 ∧ (¬ i < 0 ∧ i.toNatClampNeg < mLn h a) ∧ mR h a i.toNatClampNeg ≠ 0
  · have hg : xR h a i = some (mR h a i.toNatClampNeg) := by unfold xR; rw [if_pos hk]
    rw [hg] at e
    have he := M.at (a := a) (by omega)
    rw [encE_t hk.1] at he
    have kk' := kk _ hg r h' e H locs ls hz M hS hls
    rw [show rf E (mR h a i.toNatClampNeg) = va_rf (rq E (mR h a i.toNatClampNeg)) from by rw [rv_rq, rv_rf E hk.2.2]] at kk'
    exact va_aldq (D := eD E) C.1 C.2.1 C.2.2.2.2.2.1 M.1 (a - 1) 3 he rfl (inB_vp hk.2.1) hd kk'
  · have hg : xR h a i = none := by unfold xR; rw [if_neg hk]
    rw [hg] at e; cases e
theorem aw_iastore (C : CxOK K E own cc nL) {a : Nat} {i : Int32} {v : Int32} (hd : decode cc pc = .ok (.iastore, 1)) {d : Mem → Option (α × Mem)} (kk : ∀ h1, yI 11 h a i v = some h1 → Aw K E R nL Q cells slots (pc + 1) L st h1 (d h1)) : Aw K E R nL Q cells slots pc L (.int v :: .int i :: rf E a :: st) h ((yI 11 h a i v).bind d) := by
  intro r h' e H locs ls hz M hS hls
  by_cases hk : mKd h a = 11 ∧ ¬ i < 0 ∧ i.toNatClampNeg < mLn h a
  · have hg : yI 11 h a i v = some (sI h a (up1 (mI h a) i.toNatClampNeg v)) := by unfold yI; rw [if_pos hk]
    rw [hg] at e
    have h15 : mKd h a < 15 := by omega
    have he := M.at h15
    rw [encE_i hk.1] at he
    have hk' : mKd (sI h a (up1 (mI h a) i.toNatClampNeg v)) a = 11 := hk.1
    have key : (enc E h).set (a - 1) (E.1 + a, .inl (eI E, mLn h a, .inl (upd (mI h a) i.toNatClampNeg v))) = enc E (sI h a (up1 (mI h a) i.toNatClampNeg v)) := by
      refine enc_set (E := E) (h := h) (h' := sI h a (up1 (mI h a) i.toNatClampNeg v)) rfl (M.2 a h15).1 (fun b hb => encE_nI _ hb) ?_
      rw [encE_i hk', mI_sI, up1_s]
      rfl
    refine va_iast (D := eD E) C.1 C.2.1 C.2.2.2.2.2.1 M.1 (enc_D E h) hS (a - 1) 0 he rfl (inB_vp hk.2) hd (fun H1 locs1 hP hD hS1 => ?_)
    skip
    rw [key] at hP
    exact kk _ hg r h' e H1 locs1 ls hz ⟨hP, M.2⟩ hS1 hls
  · have hg : yI 11 h a i v = none := by unfold yI; rw [if_neg hk]
    rw [hg] at e; cases e
theorem aw_bastore (C : CxOK K E own cc nL) {a : Nat} {i : Int32} {v : Int32} (hv : vp_nar .boolean v = v) (hd : decode cc pc = .ok (.bastore, 1)) {d : Mem → Option (α × Mem)} (kk : ∀ h1, yI 13 h a i v = some h1 → Aw K E R nL Q cells slots (pc + 1) L st h1 (d h1)) : Aw K E R nL Q cells slots pc L (.int v :: .int i :: rf E a :: st) h ((yI 13 h a i v).bind d) := by
  intro r h' e H locs ls hz M hS hls
  by_cases hk : mKd h a = 13 ∧ ¬ i < 0 ∧ i.toNatClampNeg < mLn h a
  · have hg : yI 13 h a i v = some (sI h a (up1 (mI h a) i.toNatClampNeg v)) := by unfold yI; rw [if_pos hk]
    rw [hg] at e
    have h15 : mKd h a < 15 := by omega
    have he := M.at h15
    rw [encE_z hk.1] at he
    have hk' : mKd (sI h a (up1 (mI h a) i.toNatClampNeg v)) a = 13 := hk.1
    have key : (enc E h).set (a - 1) (E.1 + a, .inl (eZ E, mLn h a, .inl (upd (mI h a) i.toNatClampNeg v))) = enc E (sI h a (up1 (mI h a) i.toNatClampNeg v)) := by
      refine enc_set (E := E) (h := h) (h' := sI h a (up1 (mI h a) i.toNatClampNeg v)) rfl (M.2 a h15).1 (fun b hb => encE_nI _ hb) ?_
      rw [encE_z hk', mI_sI, up1_s]
      rfl
    refine va_zast (D := eD E) C.1 C.2.1 C.2.2.2.2.2.1 M.1 (enc_D E h) hS (a - 1) 2 he rfl (inB_vp hk.2) hd (fun H1 locs1 hP hD hS1 => ?_)
    rw [hv] at hP
    rw [key] at hP
    exact kk _ hg r h' e H1 locs1 ls hz ⟨hP, M.2⟩ hS1 hls
  · have hg : yI 13 h a i v = none := by unfold yI; rw [if_neg hk]
    rw [hg] at e; cases e
theorem aw_lastore (C : CxOK K E own cc nL) {a : Nat} {i : Int32} {v : Int64} (hd : decode cc pc = .ok (.lastore, 1)) {d : Mem → Option (α × Mem)} (kk : ∀ h1, yJ h a i v = some h1 → Aw K E R nL Q cells slots (pc + 1) L st h1 (d h1)) : Aw K E R nL Q cells slots pc L (.long v :: .int i :: rf E a :: st) h ((yJ h a i v).bind d) := by
  intro r h' e H locs ls hz M hS hls
  by_cases hk : mKd h a = 12 ∧ ¬ i < 0 ∧ i.toNatClampNeg < mLn h a
  · have hg : yJ h a i v = some (sL h a (up1 (mL h a) i.toNatClampNeg v)) := by unfold yJ; rw [if_pos hk]
    rw [hg] at e
    have h15 : mKd h a < 15 := by omega
    have he := M.at h15
    rw [encE_l hk.1] at he
    have hk' : mKd (sL h a (up1 (mL h a) i.toNatClampNeg v)) a = 12 := hk.1
    have key : (enc E h).set (a - 1) (E.1 + a, .inl (eJ E, mLn h a, .inr (.inl (vp_updL (mL h a) i.toNatClampNeg v)))) = enc E (sL h a (up1 (mL h a) i.toNatClampNeg v)) := by
      refine enc_set (E := E) (h := h) (h' := sL h a (up1 (mL h a) i.toNatClampNeg v)) rfl (M.2 a h15).1 (fun b hb => encE_nL _ hb) ?_
      rw [encE_l hk', mL_sL, up1_s]
      rfl
    refine va_last (D := eD E) C.1 C.2.1 C.2.2.2.2.2.1 M.1 (enc_D E h) hS (a - 1) 1 he rfl (inB_vp hk.2) hd (fun H1 locs1 hP hD hS1 => ?_)
    skip
    rw [key] at hP
    exact kk _ hg r h' e H1 locs1 ls hz ⟨hP, M.2⟩ hS1 hls
  · have hg : yJ h a i v = none := by unfold yJ; rw [if_neg hk]
    rw [hg] at e; cases e
theorem aw_aastore (C : CxOK K E own cc nL) {a v : Nat} {i : Int32} (hd : decode cc pc = .ok (.aastore, 1)) {d : Mem → Option (α × Mem)} (kk : ∀ h1, yR h a i v = some h1 → Aw K E R nL Q cells slots (pc + 1) L st h1 (d h1)) : Aw K E R nL Q cells slots pc L (rf E v :: .int i :: rf E a :: st) h ((yR h a i v).bind d) := by
  intro r h' e H locs ls hz M hS hls
  by_cases hk : mKd h a = 14 ∧ (¬ i < 0 ∧ i.toNatClampNeg < mLn h a) ∧ mKd h v = 7
  · have hg : yR h a i v = some (sR h a (up1 (mR h a) i.toNatClampNeg v)) := by unfold yR; rw [if_pos hk]
    rw [hg] at e
    have h15 : mKd h a < 15 := by omega
    have he := M.at h15
    have hev := M.at (a := v) (by omega)
    rw [encE_t hk.1] at he
    rw [encE_o hk.2.2 (by omega)] at hev
    have hk' : mKd (sR h a (up1 (mR h a) i.toNatClampNeg v)) a = 14 := hk.1
    have hv0 : v ≠ 0 := by have := (M.2 v (by omega)).1; omega
    have key : (enc E h).set (a - 1) (E.1 + a, .inl (eT E, mLn h a, .inr (.inr (.inr (.inr (va_up (fun j => rq E (mR h a j)) i.toNatClampNeg (some (E.1 + v)))))))) = enc E (sR h a (up1 (mR h a) i.toNatClampNeg v)) := by
      refine enc_set (E := E) (h := h) (h' := sR h a (up1 (mR h a) i.toNatClampNeg v)) rfl (M.2 a h15).1 (fun b hb => encE_nR _ hb) ?_
      rw [encE_t hk', mR_sR, up1_s]
      have : (fun j => rq E (up1 (mR h a) i.toNatClampNeg v j)) = va_up (fun j => rq E (mR h a j)) i.toNatClampNeg (some (E.1 + v)) := by
        funext j
        unfold up1 va_up
        split
        · simp [rq, hv0]
        · rfl
      rw [this]
      rfl
    refine va_astq (D := eD E) (r := (RX7, TX7, 3)) C.1 C.2.1 C.2.2.2.2.2.1 M.1 (enc_D E h) hS (a - 1) 3 (v - 1) 7 he rfl hev rfl (inB_vp hk.2.1) hd (fun H1 locs1 hP hD hS1 => ?_)
    rw [key] at hP
    exact kk _ hg r h' e H1 locs1 ls hz ⟨hP, M.2⟩ hS1 hls
  · have hg : yR h a i v = none := by unfold yR; rw [if_neg hk]
    rw [hg] at e; cases e
theorem aw_arraylength (C : CxOK K E own cc nL) {a : Nat} (hd : decode cc pc = .ok (.arraylength, 1)) {d : Int32 → Option (α × Mem)} (kk : ∀ v, aLn h a = some v → Aw K E R nL Q cells slots (pc + 1) L (.int v :: st) h (d v)) : Aw K E R nL Q cells slots pc L (rf E a :: st) h ((aLn h a).bind d) := by
  intro r h' e H locs ls hz M hS hls
  by_cases hk : 11 ≤ mKd h a ∧ mKd h a < 15
  · have hg : aLn h a = some (Int32.ofNat (mLn h a)) := by unfold aLn; rw [if_pos hk]
    rw [hg] at e
    have kk' := kk _ hg r h' e H locs ls hz M hS hls
    have he := M.at hk.2
    rcases (show mKd h a = 11 ∨ mKd h a = 12 ∨ mKd h a = 13 ∨ mKd h a = 14 by omega) with h1 | h1 | h1 | h1
    · rw [encE_i h1] at he
      exact va_alen (D := eD E) C.1 C.2.1 C.2.2.2.2.2.1 M.1 (a - 1) 0 he rfl rfl hd kk'
    · rw [encE_l h1] at he
      exact va_alen (D := eD E) C.1 C.2.1 C.2.2.2.2.2.1 M.1 (a - 1) 1 he rfl rfl hd kk'
    · rw [encE_z h1] at he
      exact va_alen (D := eD E) C.1 C.2.1 C.2.2.2.2.2.1 M.1 (a - 1) 2 he rfl rfl hd kk'
    · rw [encE_t h1] at he
      exact va_alen (D := eD E) C.1 C.2.1 C.2.2.2.2.2.1 M.1 (a - 1) 3 he rfl rfl hd kk'
  · have hg : aLn h a = none := by unfold aLn; rw [if_neg hk]
    rw [hg] at e; cases e
/-! the static tables -/
theorem aw_getsP (C : CxOK K E own cc nL) {index : Nat} (hw : Cond.fieldLink own index "TwoLetterForms" "PRIMES" "[I" ∈ WSA) (hd : decode cc pc = .ok (.getstatic index, 3)) {d : Option (α × Mem)} (kk : Aw K E R nL Q cells slots (pc + 3) L (.ref (eP E) :: st) h d) : Aw K E R nL Q cells slots pc L st h d :=
  fun r h' e H locs ls hz M hS hls => va_gets C.1 C.2.1 C.2.2.2.2.2.2.1.1.1 hS C.2.2.2.1 (C.2.2.2.2.1 _ hw) (fun _ h9 => h9) hd (kk r h' e H locs ls hz M hS hls)
theorem aw_getsPN (C : CxOK K E own cc nL) {index : Nat} {host : String} (hw : Cond.fieldLinkNest own index "TwoLetterForms" "PRIMES" "[I" host ∈ tables_1) (hd : decode cc pc = .ok (.getstatic index, 3)) {d : Option (α × Mem)} (kk : Aw K E R nL Q cells slots (pc + 3) L (.ref (eP E) :: st) h d) : Aw K E R nL Q cells slots pc L st h d :=
  fun r h' e H locs ls hz M hS hls => va_getsN C.1 C.2.1 C.2.2.2.2.2.2.1.1.1 hS C.2.2.2.1 (va_Nw.use rfl (C.2.2.2.2.2.2.2.2.1 _ hw rfl)) (fun _ h9 => h9) hd (kk r h' e H locs ls hz M hS hls)
theorem aw_getsM (C : CxOK K E own cc nL) {index : Nat} (hw : Cond.fieldLink own index "TwoLetterForms$Form" "MOVE_TURNS" "[I" ∈ WSA) (hd : decode cc pc = .ok (.getstatic index, 3)) {d : Option (α × Mem)} (kk : Aw K E R nL Q cells slots (pc + 3) L (.ref (eM E) :: st) h d) : Aw K E R nL Q cells slots pc L st h d :=
  fun r h' e H locs ls hz M hS hls => va_gets C.1 C.2.1 C.2.2.2.2.2.2.1.2.1 hS C.2.2.2.1 (C.2.2.2.2.1 _ hw) (fun _ h9 => h9) hd (kk r h' e H locs ls hz M hS hls)
theorem aw_tloadP (C : CxOK K E own cc nL) {i : Int32} (hd : decode cc pc = .ok (.iaload, 1)) {d : Int32 → Option (α × Mem)} (kk : ∀ v, xT tabP 6 i = some v → Aw K E R nL Q cells slots (pc + 1) L (.int v :: st) h (d v)) : Aw K E R nL Q cells slots pc L (.int i :: .ref (eP E) :: st) h ((xT tabP 6 i).bind d) := by
  intro r h' e H locs ls hz M hS hls
  by_cases hk : ¬ i < 0 ∧ i.toNatClampNeg < 6
  · have hg : xT tabP 6 i = some (tabP i.toNatClampNeg) := by unfold xT; rw [if_pos hk]
    rw [hg] at e
    exact va_ti (t := eP E) C.1 C.2.1 C.2.2.2.2.2.2.1.1.2 hS (inB_vp hk) rfl hd (kk _ hg r h' e H locs ls hz M hS hls)
  · have hg : xT tabP 6 i = none := by unfold xT; rw [if_neg hk]
    rw [hg] at e; cases e
theorem aw_tlenP (C : CxOK K E own cc nL) (hd : decode cc pc = .ok (.arraylength, 1)) {d : Option (α × Mem)} (kk : Aw K E R nL Q cells slots (pc + 1) L (.int 6 :: st) h d) : Aw K E R nL Q cells slots pc L (.ref (eP E) :: st) h d :=
  fun r h' e H locs ls hz M hS hls => va_tlen (t := eP E) C.1 C.2.1 C.2.2.2.2.2.2.1.1.2 hS rfl hd (kk r h' e H locs ls hz M hS hls)
theorem aw_tloadM (C : CxOK K E own cc nL) {i : Int32} (hd : decode cc pc = .ok (.iaload, 1)) {d : Int32 → Option (α × Mem)} (kk : ∀ v, xT tabM 16 i = some v → Aw K E R nL Q cells slots (pc + 1) L (.int v :: st) h (d v)) : Aw K E R nL Q cells slots pc L (.int i :: .ref (eM E) :: st) h ((xT tabM 16 i).bind d) := by
  intro r h' e H locs ls hz M hS hls
  by_cases hk : ¬ i < 0 ∧ i.toNatClampNeg < 16
  · have hg : xT tabM 16 i = some (tabM i.toNatClampNeg) := by unfold xT; rw [if_pos hk]
    rw [hg] at e
    exact va_ti (t := eM E) C.1 C.2.1 C.2.2.2.2.2.2.1.2.2 hS (inB_vp hk) rfl hd (kk _ hg r h' e H locs ls hz M hS hls)
  · have hg : xT tabM 16 i = none := by unfold xT; rw [if_neg hk]
    rw [hg] at e; cases e
theorem aw_tlenM (C : CxOK K E own cc nL) (hd : decode cc pc = .ok (.arraylength, 1)) {d : Option (α × Mem)} (kk : Aw K E R nL Q cells slots (pc + 1) L (.int 16 :: st) h d) : Aw K E R nL Q cells slots pc L (.ref (eM E) :: st) h d :=
  fun r h' e H locs ls hz M hS hls => va_tlen (t := eM E) C.1 C.2.1 C.2.2.2.2.2.2.1.2.2 hS rfl hd (kk r h' e H locs ls hz M hS hls)
theorem Wf_al {h : Mem} (hw : Wf h) (c n : Nat) : Wf (alM c n h) := by
  intro a ha
  by_cases h1 : a = h.1 + 1
  · subst h1
    exact ⟨by omega, Nat.le_refl _⟩
  · have h2 : mKd (alM c n h) a = mKd h a := by show up1 h.2.1 (h.1 + 1) c a = h.2.1 a; rw [up1_n _ _ h1]
    rw [h2] at ha
    have h3 := hw a ha
    have h4 : mSz (alM c n h) = mSz h + 1 := rfl
    exact ⟨h3.1, by omega⟩
theorem encE_al {E : Ev} {h : Mem} (c n : Nat) {b : Nat} (hb : b ≠ mSz h + 1) : encE E (alM c n h) b = encE E h b := by
  have hb' : b ≠ h.1 + 1 := hb
  have e1 : mKd (alM c n h) b = mKd h b := up1_n _ _ hb'
  have e2 : mLn (alM c n h) b = mLn h b := up1_n _ _ hb'
  have e3 : mI (alM c n h) b = mI h b := up1_n _ _ hb'
  have e4 : mL (alM c n h) b = mL h b := up1_n _ _ hb'
  have e5 : mR (alM c n h) b = mR h b := up1_n _ _ hb'
  unfold encE encO fv
  rw [e1, e2, e3, e4, e5]
theorem al_kd (c n : Nat) (h : Mem) : mKd (alM c n h) (mSz h + 1) = c := up1_s _ _ _
theorem al_ln (c n : Nat) (h : Mem) : mLn (alM c n h) (mSz h + 1) = n := up1_s _ _ _
theorem al_I (c n : Nat) (h : Mem) : mI (alM c n h) (mSz h + 1) = fun _ => 0 := up1_s _ _ _
theorem al_L (c n : Nat) (h : Mem) : mL (alM c n h) (mSz h + 1) = fun _ => 0 := up1_s _ _ _
theorem al_R (c n : Nat) (h : Mem) : mR (alM c n h) (mSz h + 1) = fun _ => 0 := up1_s _ _ _
/-- a new cell's address is the next one: the heap holds no more than was counted, and what is there lies apart -/
theorem al_addr {E : Ev} {h : Mem} {H1 : Heap} {q : Nat} {e : va_E} {D : va_G} {n : Nat} (hD : va_D (AB E) (enc E h ++ [(q, e)])) (hP : va_P D vwCl (enc E h ++ [(q, e)]) H1) (hsz : H1.size ≤ n) (hn : n = E.1 + 1 + mSz h + 1) : q = E.1 + 1 + mSz h := by
  have hq : (enc E h ++ [(q, e)])[mSz h]? = some (q, e) := by
    rw [List.getElem?_append_right (by rw [enc_len]; omega), enc_len, Nat.sub_self]
    rfl
  have h1 : q < H1.size := (hP _ _ hq).lt
  have h2 : E.1 + 1 ≤ q := hD.2 _ _ hq
  by_cases h3 : q < E.1 + 1 + mSz h
  · exfalso
    have h4 : q - (E.1 + 1) < mSz h := by omega
    have h5 := enc_at E h (a := q - (E.1 + 1) + 1) (by omega) (by omega)
    rw [Nat.add_sub_cancel] at h5
    have h6 : (enc E h ++ [(q, e)])[q - (E.1 + 1)]? = some (E.1 + (q - (E.1 + 1) + 1), encE E h (q - (E.1 + 1) + 1)) := by
      rw [List.getElem?_append_left (by rw [enc_len]; exact h4)]
      exact h5
    have h7 := hD.1 _ _ _ _ h6 hq (show E.1 + (q - (E.1 + 1) + 1) = q by omega)
    omega
  · omega
theorem aw_new (C : CxOK K E own cc nL) {c index N : Nat} {Cn : String} {T : u_T} {ty : Nat → FieldType} (hcl : ClOK c Cn T N ty) (hw1 : Cond.classLink own index Cn ∈ WSA) (hw2 : Cond.instantiable Cn N ∈ WSA) (hw3 : Cond.initialized Cn ∈ WSA) (hE : E.1 + 1 ≤ (kS K).heap.size) (hcells : cells + 1 ≤ R.cells) (hslots : slots + N ≤ R.slots) (hd : decode cc pc = .ok (.new index, 3)) {d : Nat → Mem → Option (α × Mem)} (kk : ∀ a h1, a = mSz h + 1 → h1 = alM c N h → Aw K E R nL Q (cells + 1) (slots + N) (pc + 3) L (rf E a :: st) h1 (d a h1)) : Aw K E R nL Q cells slots pc L st h (nwO c N h d) := by
  intro r h' e H locs ls hz M hS hls
  have hcl' := hcl
  obtain ⟨hc, hc11, hin, hty, hnm, hlen, hdf⟩ := hcl'
  have hA : ∀ q, (kS K).heap.size ≤ q → AB E q := fun q hq => Nat.le_trans hE hq
  refine va_new (D := eD E) (ci := c) (fs := encO E (alM c N h) (mSz h + 1) c) C.1 C.2.1 C.2.2.2.2.1 hin ty hty C.2.2.2.1 (C.2.2.2.2.1 _ hw1) (C.2.2.2.2.1 _ hw2) (C.2.2.2.2.1 _ hw3) C.2.2.2.2.2.1 M.1 (enc_D E h) hS hA hc ?_ hcells hslots hd (fun q H1 hP hD hS1 => ?_)
  · intro j hj
    rw [hdf j hj]
    have hj2 : j < (FTY.getD c []).length := by rw [hlen]; exact hj
    obtain ⟨t, ht⟩ : ∃ t, (FTY.getD c [])[j]? = some t := ⟨_, List.getElem?_eq_getElem hj2⟩
    have hgd : (FTY.getD c []).getD j 0 = t := by show ((FTY.getD c [])[j]?).getD 0 = t; rw [ht]; rfl
    rw [hgd]
    unfold vp_V
    show _ = ((encO E (alM c N h) (mSz h + 1) c)[j]?).getD .null
    rw [encO_at ht]
    show _ = fv E t _ _ _
    unfold fv
    rw [al_I, al_L, al_R]
    rfl
  · intro T hT X
    have hs := X.heapSize
    rw [hT] at hs
    have hq := al_addr hD hP hs (by omega)
    subst hq
    have key : enc E h ++ [(E.1 + 1 + mSz h, .inr (c, encO E (alM c N h) (mSz h + 1) c))] = enc E (alM c N h) := enc_push rfl (fun b h1 h2 => encE_al c N (by omega)) (encE_o (al_kd c N h) hc11)
    rw [key] at hP
    have := kk (mSz h + 1) (alM c N h) rfl rfl r h' e H1 locs ls (by show _ = E.1 + 1 + (mSz h + 1); omega) ⟨hP, Wf_al M.2 c N⟩ hS1 hls
    rw [show rf E (mSz h + 1) = .ref (E.1 + 1 + mSz h) from congrArg Value.ref (show E.1 + (mSz h + 1) = E.1 + 1 + mSz h by omega)] at this
    exact this T hT X
theorem aw_newAI (C : CxOK K E own cc nL) {cap : Nat} {n : Int32} (hw : Cond.arrayClass .int ∈ WSA) (hE : E.1 + 1 ≤ (kS K).heap.size) (hcap : cap ≤ 100000) (hcells : cells + 1 ≤ R.cells) (hslots : slots + cap ≤ R.slots) (hd : decode cc pc = .ok (.newarray .int, 2)) {d : Nat → Mem → Option (α × Mem)} (kk : ∀ a h1, a = mSz h + 1 → h1 = alM 11 n.toNatClampNeg h → Aw K E R nL Q (cells + 1) (slots + cap) (pc + 2) L (rf E a :: st) h1 (d a h1)) : Aw K E R nL Q cells slots pc L (.int n :: st) h (nwA 11 cap n h d) := by
  intro r h' e H locs ls hz M hS hls
  by_cases hk : ¬ n < 0 ∧ n.toNatClampNeg ≤ cap
  · have e' : d (mSz h + 1) (alM 11 n.toNatClampNeg h) = some (r, h') := by unfold nwA at e; rw [if_pos hk] at e; exact e
    have hA : ∀ q, (kS K).heap.size ≤ q → AB E q := fun q hq => Nat.le_trans hE hq
    refine va_newa (D := eD E) (atype := .int) (ty := .int) (a0 := (n.toNatClampNeg, .inl (fun _ => 0))) C.1 C.2.1 (C.2.2.2.2.1 _ hw) rfl C.2.2.2.2.2.1 M.1 (enc_D E h) hS hA (fun cA => ?_) hk.1 rfl ?_ hcells (by omega) hd (fun q cA H1 hK1 hP hD hS1 => ?_)
    · first | rw [vp_cell_i] | rw [vp_cell_l]
      rfl
    · show _ * 4 ≤ 536870912
      omega
    · intro T hT X
      have hcA : cA = eI E := by
        have h1 : s_find (kS K) .int cA := (hK1.2 4 (cA, .int) rfl).2
        have h2 : s_find (kS K) .int (eI E) := (C.2.2.2.2.2.1.2 0 (eI E, .int) rfl).2
        exact Option.some.inj (h1.symm.trans h2)
      subst hcA
      have hs := X.heapSize
      rw [hT] at hs
      have hq := al_addr hD hP hs (by omega)
      subst hq
      have key : enc E h ++ [(E.1 + 1 + mSz h, .inl (eI E, n.toNatClampNeg, .inl (fun _ => 0)))] = enc E (alM 11 n.toNatClampNeg h) := enc_push rfl (fun b h1 h2 => encE_al _ _ (by omega)) (by rw [encE_i (al_kd _ _ h), al_ln]; first | rw [al_I] | rw [al_L])
      rw [key] at hP
      have hz2 : (kS K).heap.size + (cells + 1) = E.1 + 1 + mSz (alM 11 n.toNatClampNeg h) := by
        show _ = E.1 + 1 + (mSz h + 1)
        omega
      have := (kk (mSz h + 1) (alM 11 n.toNatClampNeg h) rfl rfl r h' e' H1 locs ls hz2 ⟨hP, Wf_al M.2 _ _⟩ hS1 hls)
      rw [show rf E (mSz h + 1) = .ref (E.1 + 1 + mSz h) from congrArg Value.ref (show E.1 + (mSz h + 1) = E.1 + 1 + mSz h by omega)] at this
      exact this T hT (stand_widen X (Nat.le_refl _) (by omega))
  · unfold nwA at e
    rw [if_neg hk] at e; cases e
theorem aw_newAJ (C : CxOK K E own cc nL) {cap : Nat} {n : Int32} (hw : Cond.arrayClass .long ∈ WSA) (hE : E.1 + 1 ≤ (kS K).heap.size) (hcap : cap ≤ 100000) (hcells : cells + 1 ≤ R.cells) (hslots : slots + cap ≤ R.slots) (hd : decode cc pc = .ok (.newarray .long, 2)) {d : Nat → Mem → Option (α × Mem)} (kk : ∀ a h1, a = mSz h + 1 → h1 = alM 12 n.toNatClampNeg h → Aw K E R nL Q (cells + 1) (slots + cap) (pc + 2) L (rf E a :: st) h1 (d a h1)) : Aw K E R nL Q cells slots pc L (.int n :: st) h (nwA 12 cap n h d) := by
  intro r h' e H locs ls hz M hS hls
  by_cases hk : ¬ n < 0 ∧ n.toNatClampNeg ≤ cap
  · have e' : d (mSz h + 1) (alM 12 n.toNatClampNeg h) = some (r, h') := by unfold nwA at e; rw [if_pos hk] at e; exact e
    have hA : ∀ q, (kS K).heap.size ≤ q → AB E q := fun q hq => Nat.le_trans hE hq
    refine va_newa (D := eD E) (atype := .long) (ty := .long) (a0 := (n.toNatClampNeg, .inr (.inl (fun _ => 0)))) C.1 C.2.1 (C.2.2.2.2.1 _ hw) rfl C.2.2.2.2.2.1 M.1 (enc_D E h) hS hA (fun cA => ?_) hk.1 rfl ?_ hcells (by omega) hd (fun q cA H1 hK1 hP hD hS1 => ?_)
    · first | rw [vp_cell_i] | rw [vp_cell_l]
      rfl
    · show _ * 8 ≤ 536870912
      omega
    · intro T hT X
      have hcA : cA = eJ E := by
        have h1 : s_find (kS K) .long cA := (hK1.2 4 (cA, .long) rfl).2
        have h2 : s_find (kS K) .long (eJ E) := (C.2.2.2.2.2.1.2 1 (eJ E, .long) rfl).2
        exact Option.some.inj (h1.symm.trans h2)
      subst hcA
      have hs := X.heapSize
      rw [hT] at hs
      have hq := al_addr hD hP hs (by omega)
      subst hq
      have key : enc E h ++ [(E.1 + 1 + mSz h, .inl (eJ E, n.toNatClampNeg, .inr (.inl (fun _ => 0))))] = enc E (alM 12 n.toNatClampNeg h) := enc_push rfl (fun b h1 h2 => encE_al _ _ (by omega)) (by rw [encE_l (al_kd _ _ h), al_ln]; first | rw [al_I] | rw [al_L])
      rw [key] at hP
      have hz2 : (kS K).heap.size + (cells + 1) = E.1 + 1 + mSz (alM 12 n.toNatClampNeg h) := by
        show _ = E.1 + 1 + (mSz h + 1)
        omega
      have := (kk (mSz h + 1) (alM 12 n.toNatClampNeg h) rfl rfl r h' e' H1 locs ls hz2 ⟨hP, Wf_al M.2 _ _⟩ hS1 hls)
      rw [show rf E (mSz h + 1) = .ref (E.1 + 1 + mSz h) from congrArg Value.ref (show E.1 + (mSz h + 1) = E.1 + 1 + mSz h by omega)] at this
      exact this T hT (stand_widen X (Nat.le_refl _) (by omega))
  · unfold nwA at e
    rw [if_neg hk] at e; cases e
theorem aw_newAZ (C : CxOK K E own cc nL) {cap : Nat} {n : Int32} (hw : Cond.arrayClass .boolean ∈ WSA) (hE : E.1 + 1 ≤ (kS K).heap.size) (hcap : cap ≤ 100000) (hcells : cells + 1 ≤ R.cells) (hslots : slots + cap ≤ R.slots) (hd : decode cc pc = .ok (.newarray .boolean, 2)) {d : Nat → Mem → Option (α × Mem)} (kk : ∀ a h1, a = mSz h + 1 → h1 = alM 13 n.toNatClampNeg h → Aw K E R nL Q (cells + 1) (slots + cap) (pc + 2) L (rf E a :: st) h1 (d a h1)) : Aw K E R nL Q cells slots pc L (.int n :: st) h (nwA 13 cap n h d) := by
  intro r h' e H locs ls hz M hS hls
  by_cases hk : ¬ n < 0 ∧ n.toNatClampNeg ≤ cap
  · have e' : d (mSz h + 1) (alM 13 n.toNatClampNeg h) = some (r, h') := by unfold nwA at e; rw [if_pos hk] at e; exact e
    have hA : ∀ q, (kS K).heap.size ≤ q → AB E q := fun q hq => Nat.le_trans hE hq
    refine va_newa (D := eD E) (atype := .boolean) (ty := .boolean) (a0 := (n.toNatClampNeg, .inl (fun _ => 0))) C.1 C.2.1 (C.2.2.2.2.1 _ hw) rfl C.2.2.2.2.2.1 M.1 (enc_D E h) hS hA (fun cA => ?_) hk.1 rfl ?_ hcells (by omega) hd (fun q cA H1 hK1 hP hD hS1 => ?_)
    · first | rw [vp_cell_i] | rw [vp_cell_l]
      rfl
    · show _ * 1 ≤ 536870912
      omega
    · intro T hT X
      have hcA : cA = eZ E := by
        have h1 : s_find (kS K) .boolean cA := (hK1.2 4 (cA, .boolean) rfl).2
        have h2 : s_find (kS K) .boolean (eZ E) := (C.2.2.2.2.2.1.2 2 (eZ E, .boolean) rfl).2
        exact Option.some.inj (h1.symm.trans h2)
      subst hcA
      have hs := X.heapSize
      rw [hT] at hs
      have hq := al_addr hD hP hs (by omega)
      subst hq
      have key : enc E h ++ [(E.1 + 1 + mSz h, .inl (eZ E, n.toNatClampNeg, .inl (fun _ => 0)))] = enc E (alM 13 n.toNatClampNeg h) := enc_push rfl (fun b h1 h2 => encE_al _ _ (by omega)) (by rw [encE_z (al_kd _ _ h), al_ln]; first | rw [al_I] | rw [al_L])
      rw [key] at hP
      have hz2 : (kS K).heap.size + (cells + 1) = E.1 + 1 + mSz (alM 13 n.toNatClampNeg h) := by
        show _ = E.1 + 1 + (mSz h + 1)
        omega
      have := (kk (mSz h + 1) (alM 13 n.toNatClampNeg h) rfl rfl r h' e' H1 locs ls hz2 ⟨hP, Wf_al M.2 _ _⟩ hS1 hls)
      rw [show rf E (mSz h + 1) = .ref (E.1 + 1 + mSz h) from congrArg Value.ref (show E.1 + (mSz h + 1) = E.1 + 1 + mSz h by omega)] at this
      exact this T hT (stand_widen X (Nat.le_refl _) (by omega))
  · unfold nwA at e
    rw [if_neg hk] at e; cases e
theorem aw_newq (C : CxOK K E own cc nL) {index cap : Nat} {n : Int32} (hw1 : Cond.classLink own index "TwoLetterForms$Tape" ∈ WSA) (hE : E.1 + 1 ≤ (kS K).heap.size) (hcap : cap ≤ 100000) (hcells : cells + 1 ≤ R.cells) (hslots : slots + cap ≤ R.slots) (hd : decode cc pc = .ok (.anewarray index, 3)) {d : Nat → Mem → Option (α × Mem)} (kk : ∀ a h1, a = mSz h + 1 → h1 = alM 14 n.toNatClampNeg h → Aw K E R nL Q (cells + 1) (slots + cap) (pc + 3) L (rf E a :: st) h1 (d a h1)) : Aw K E R nL Q cells slots pc L (.int n :: st) h (nwA 14 cap n h d) := by
  intro r h' e H locs ls hz M hS hls
  by_cases hk : ¬ n < 0 ∧ n.toNatClampNeg ≤ cap
  · have e' : d (mSz h + 1) (alM 14 n.toNatClampNeg h) = some (r, h') := by unfold nwA at e; rw [if_pos hk] at e; exact e
    have hA : ∀ q, (kS K).heap.size ≤ q → AB E q := fun q hq => Nat.le_trans hE hq
    refine va_newq (D := eD E) C.1 C.2.1 C.2.2.2.1 (C.2.2.2.2.1 _ hw1) C.2.2.2.2.2.2.2.2.2 C.2.2.2.2.2.1 M.1 (enc_D E h) hS hA hk.1 rfl (by omega) hcells (by omega) hd (fun q cA H1 hK1 hP hD hS1 => ?_)
    intro T hT X
    have hcA : cA = eT E := by
      obtain ⟨_, _, _, _, _, h1⟩ := (hK1.2 4 (cA, .object "TwoLetterForms$Tape") rfl).2
      obtain ⟨_, _, _, _, _, h2⟩ := (C.2.2.2.2.2.1.2 3 (eT E, .object "TwoLetterForms$Tape") rfl).2
      exact Option.some.inj (h1.symm.trans h2)
    subst hcA
    have hs := X.heapSize
    rw [hT] at hs
    have hq := al_addr hD hP hs (by omega)
    subst hq
    have key : enc E h ++ [(E.1 + 1 + mSz h, .inl (eT E, n.toNatClampNeg, .inr (.inr (.inr (.inr (fun _ => none))))))] = enc E (alM 14 n.toNatClampNeg h) := enc_push rfl (fun b h1 h2 => encE_al _ _ (by omega)) (by rw [encE_t (al_kd _ _ h), al_ln, al_R]; rfl)
    rw [key] at hP
    have hz2 : (kS K).heap.size + (cells + 1) = E.1 + 1 + mSz (alM 14 n.toNatClampNeg h) := by
      show _ = E.1 + 1 + (mSz h + 1)
      omega
    have := (kk (mSz h + 1) (alM 14 n.toNatClampNeg h) rfl rfl r h' e' H1 locs ls hz2 ⟨hP, Wf_al M.2 _ _⟩ hS1 hls)
    rw [show rf E (mSz h + 1) = .ref (E.1 + 1 + mSz h) from congrArg Value.ref (show E.1 + (mSz h + 1) = E.1 + 1 + mSz h by omega)] at this
    exact this T hT (stand_widen X (Nat.le_refl _) (by omega))
  · unfold nwA at e
    rw [if_neg hk] at e; cases e
end AH
end
section
/-! a method's contract over the memory; calls and returns -/
def PcM (E : Ev) (av : List Value) (h : Mem) : Array Value → State → Prop := fun v U => v = av.toArray ∧ Sm E h U.heap ∧ U.heap.size = E.1 + 1 + mSz h ∧ va_K (eD E) vwCl (tys E) U ∧ StOK E U U.heap ∧ NwOK U
def QcM (E : Ev) (n : Nat) (r : Option Value) (h' : Mem) : Array Value → State → Outcome → State → Prop := fun _ st oc t => (oc = .returned r ∧ Sm E h' t.heap ∧ mSz h' = n) ∧ va_F (AB E) st t
def AMet {α : Type} (E : Ev) (l : Launch) (y : MethodName) (cc : ByteArray) (nL : Nat) (ret : Option FieldType) (rm : Room) (av : List Value) (h : Mem) (rvf : α → Option Value) (d : Option (α × Mem)) : Prop :=
  ∀ r h', d = some (r, h') → Met l y (Cond.code y cc nL ret :: WSA) rm (PcM E av h) (QcM E (mSz h + rm.cells) (rvf r) h') rm.cells rm.slots (AB E)
def Qm {α : Type} (K : Kx) (E : Ev) (n : Nat) (rvf : α → Option Value) (mc ms : Nat) : α → Mem → State → Prop := fun r h' => MQ (kB K) (QcM E n (rvf r) h') (kA K) (kS K) mc ms (AB E)
/-- the model runs none of these in its bytecode's place -/
theorem mathRows : (Jvm.natives.all fun r => !(r.cls == "java/lang/Math" && ["(II)I", "(JI)I", "(JJ)J", "(J)J"].contains r.desc)) = true := by decide +kernel
theorem mathPlain {x : MethodName} (hc : x.cls = "java/lang/Math") (hd : ["(II)I", "(JI)I", "(JJ)J", "(J)J"].contains x.desc = true) : plainFor x = true := by
  unfold plainFor
  rw [Bool.or_eq_true]; right
  rw [Option.isNone_iff_eq_none, NativeRow.find?, List.find?_eq_none]
  intro r hr h
  have h1 := List.all_eq_true.mp mathRows r hr
  simp only [Bool.and_eq_true, beq_iff_eq] at h
  rw [h.1.2, h.2, hc, hd] at h1
  simp at h1
theorem ofWF {l : Launch} {y : MethodName} {ws ws' : List Cond} {rm : Room} {Pc : Array Value → State → Prop} {Qc : Array Value → State → Outcome → State → Prop} {mc ms : Nat} {free : Addr → Prop} {cc : ByteArray} {maxL : Nat} {ret : Option FieldType}
    (hy : plainFor y = true) (hw : ws = Cond.code y cc maxL ret :: ws')
    (body : ∀ p e s m args below meth c s₁, BodyLoose p l y (headSpec ws rm) cc maxL ret e s m args below meth c s₁ → c.maxLocals = maxL → Pc args s →
      W p l e (headSpec ws rm).room s m args below meth c s.heap [] 0 0 (MQ below Qc args s mc ms free) (entryFrame m args maxL)) : Met l y ws rm Pc Qc mc ms free := by
  refine MetFree.of_bodyRF (code := cc) (maxLocals := maxL) (ret := ret) hy ?_ ?_
  · intro args s m h hn
    obtain ⟨meth, c, h1, h2, h3, h4, h5, h6, -, -⟩ := Cond.code_spec hn (atoms_spec (ws := ws) h _ (by rw [hw]; exact List.mem_cons_self))
    exact ⟨meth, c, h1, h2, h3, h4, h5, h6⟩
  · intro p e s m args below meth c s₁ B hml hP _ hst
    have hh0 : s₁.heap = s.heap := by rw [B.state]; rfl
    obtain ⟨t, a1, o, b1, b2, b3⟩ := body p e s m args below meth c s₁ B hml hP s₁ hh0 (Stand.of_body B)
    exact ⟨t, o, hst.trans a1, b1, b2, ⟨b3.1, b3.2⟩⟩
theorem am_intro {α : Type} {E : Ev} {l : Launch} {y : MethodName} {cc : ByteArray} {nL : Nat} {ret : Option FieldType} {rm : Room} {av : List Value} {h : Mem} {rvf : α → Option Value} {d : Option (α × Mem)} (hy : plainFor y = true) (hsz : (lg_sl av).length ≤ nL)
    (body : ∀ K : Kx, kL K = l → CxOK K E y.cls cc nL → (kMe K).sig.returnType = ret → (kMe K).name = y.name → (kS K).heap.size = E.1 + 1 + mSz h → Aw K E rm nL (Qm K E (mSz h + rm.cells) rvf rm.cells rm.slots) 0 0 0 (lv_args 0 av) [] h d) : AMet E l y cc nL ret rm av h rvf d := by
  intro r h' e
  refine ofWF (cc := cc) (maxL := nL) (ret := ret) hy rfl ?_
  intro p e0 s m args below meth c s₁ B hml hv
  obtain ⟨rfl, hM, hz, hK, hSt, hNw⟩ := hv
  have hts := atoms_spec (ws := Cond.code y cc nL ret :: WSA) B.pre
  have hC : CxOK (p, l, e0, s, m, av.toArray, below, meth, c) E y.cls cc nL := ⟨B.exec, B.bytes, hml, findClass_of_methodNamed B.named, fun w hw => hts w (List.mem_cons_of_mem _ hw), hK, hSt, B.notSynchronized, hNw⟩
  have hl := lv_entry av (n := nL) hsz
  rw [lg_entry_eq]
  exact body (p, l, e0, s, m, av.toArray, below, meth, c) rfl hC B.returns (name_of_methodNamed B.named B.method).1 hz r h' e s.heap [] _ (by show s.heap.size + 0 = _; omega) hM va_S.rf hl
theorem PcM_blind (E : Ev) (av : List Value) (h : Mem) : FrameBlind (PcM E av h) := fun a U g mk q => ⟨q.1, q.2.1, q.2.2.1, va_K.moved (u := U) (U := U.calling g mk a) (Vm.Alike.refl U.vm) q.2.2.2.1, q.2.2.2.2.1.moved (u := U) (U := U.calling g mk a) (Vm.Alike.refl U.vm), q.2.2.2.2.2.same (u := U) (U := U.calling g mk a) rfl⟩
/-- what is known of a method that is called -/
def CalV (y : MethodName) (bytes : ByteArray) (maxL : Nat) (ret : Option FieldType) (n : Nat) : Prop := (Cond.instanceMethod y ∈ WSA ∧ Cond.selects y.cls y y ∈ WSA ∧ Cond.initialized y.cls ∈ WSA ∧ Cond.code y bytes maxL ret ∈ WSA) ∧ (y.cls ≠ "java/lang/invoke/MethodHandle" ∧ y.cls ≠ "java/lang/invoke/VarHandle" ∧ (parseMethodDescriptor y.desc).map (fun d => d.parameters.length) = some n)
def CalS (y : MethodName) (bytes : ByteArray) (maxL : Nat) (ret : Option FieldType) (n : Nat) : Prop := (Cond.static y ∈ WSA ∧ Cond.initialized y.cls ∈ WSA ∧ Cond.code y bytes maxL ret ∈ WSA) ∧ (y.cls ≠ "java/lang/invoke/MethodHandle" ∧ y.cls ≠ "java/lang/invoke/VarHandle" ∧ (parseMethodDescriptor y.desc).map (fun d => d.parameters.length) = some n)
def CalI (y : MethodName) (bytes : ByteArray) (maxL : Nat) (n : Nat) : Prop := (Cond.instanceMethod y ∈ WSA ∧ Cond.initialized y.cls ∈ WSA ∧ Cond.code y bytes maxL none ∈ WSA ∧ y.name = "<init>") ∧ (y.cls ≠ "java/lang/invoke/MethodHandle" ∧ y.cls ≠ "java/lang/invoke/VarHandle" ∧ (parseMethodDescriptor y.desc).map (fun d => d.parameters.length) = some n)
section AC
variable {α β : Type} {K : Kx} {E : Ev} {R : Room} {nL : Nat} {Q : α → Mem → State → Prop} {cells slots pc : Nat} {L : List (Nat × Value)} {rest : List Value} {h : Mem} {own : String} {cc : ByteArray} {ls : Array Slot} {H : Heap} {locs : List Loc}
variable {y : MethodName} {bytes : ByteArray} {maxL n index : Nat} {ret : Option FieldType} {rm : Room} {As : List Value} {a : Nat} {rvf : β → Option Value} {dy : Option (β × Mem)}
theorem aw_pre (C : CxOK K E own cc nL) (hz : (kS K).heap.size + cells = E.1 + 1 + mSz h) (M : Sm E h H) (hS : va_S (AB E) (kS K).heap H locs) (hHz : H.size = E.1 + 1 + mSz h) (av : List Value) : ∀ U : State, U.heap = H → (kS K).WarmedH U.vm → PcM E av h av.toArray U := by
  intro U hU hW
  refine ⟨rfl, by rw [hU]; exact M, by rw [hU]; exact hHz, va_K.moved hW.alike C.2.2.2.2.2.1, ?_, C.2.2.2.2.2.2.2.2.warm hW⟩
  rw [hU]
  exact (C.2.2.2.2.2.2.1.kept (H1 := H) hS.2.1).moved hW.alike
/-- the heap holds as many cells as were counted -/
theorem aw_size (hz : (kS K).heap.size + cells = E.1 + 1 + mSz h) (hE : E.1 + 1 ≤ (kS K).heap.size) (M : Sm E h H) (hS : va_S (AB E) (kS K).heap H locs) {T : State} (hT : T.heap = H) (X : Stand (kP K) (kL K) (kE K) R (kS K) (kM K) (kA K) (kB K) (kMe K) (kC K) T locs cells slots) : H.size = E.1 + 1 + mSz h := by
  have h1 := X.heapSize
  rw [hT] at h1
  by_cases h0 : mSz h = 0
  · have := hS.1
    omega
  · have h2 := enc_at E h (a := mSz h) (by omega) (Nat.le_refl _)
    have h3 := (M.1 _ _ h2).lt
    have h4 : E.1 + mSz h < H.size := h3
    omega
theorem aw_run {rest' : List Value} {r' : Option Value} {h1 : Mem} {av : Array Value} (hr : va_Run (kP K) (kL K) (kE K) R (kS K) (kM K) (kA K) (kB K) (kMe K) (kC K) H locs cells slots rm.cells rm.slots (F0 (kM K) pc ls rest') rest (QcM E (mSz h + rm.cells) r' h1 av) (AB E)) (hz : (kS K).heap.size + cells = E.1 + 1 + mSz h) (hS : va_S (AB E) (kS K).heap H locs) {Q' : State → Prop}
    (kk : ∀ (H1 : Heap) (locs1 : List Loc), (kS K).heap.size + (cells + rm.cells) = E.1 + 1 + mSz h1 → Sm E h1 H1 → va_S (AB E) (kS K).heap H1 locs1 → W (kP K) (kL K) (kE K) R (kS K) (kM K) (kA K) (kB K) (kMe K) (kC K) H1 locs1 (cells + rm.cells) (slots + rm.slots) Q' (F0 (kM K) (pc + 3) ls (r'.toList ++ rest))) : W (kP K) (kL K) (kE K) R (kS K) (kM K) (kA K) (kB K) (kMe K) (kC K) H locs cells slots Q' (F0 (kM K) pc ls rest') := by
  intro T hT X
  obtain ⟨v, st₀, t, T', Lc, h0, X', hL, e1, e2, ⟨⟨hv, hM, hsz⟩, hF1, hF2⟩, stp⟩ := hr T hT X
  cases hv
  rw [h0] at hF1 hF2
  have hS' : va_S (AB E) (kS K).heap T'.heap (locs ++ Lc) := ⟨Nat.le_trans hS.1 (by rw [e1]; exact hF1), fun q h1 h2 => by rw [e1, hF2 q (Nat.lt_of_lt_of_le h1 hS.1) h2]; exact hS.2.1 q h1 h2, fun q hq => by
    rcases List.mem_append.mp hq with h | h
    · exact hS.2.2 q h
    · exact hL q h⟩
  obtain ⟨t2, a1, b1⟩ := kk T'.heap (locs ++ Lc) (by rw [hsz]; omega) (by rw [e1]; exact hM) hS' T' rfl X'
  exact ⟨t2, stp t2 a1, b1⟩

theorem aw_callV0 (C : CxOK K E own cc nL) (hE : E.1 + 1 ≤ (kS K).heap.size) {c N : Nat} {T : u_T} (hcl : vwCl[c]? = some (y.cls, T, N)) (hc11 : c < 11) (hcal : CalV y bytes maxL ret n) (hw : Cond.methodLink own index y ∈ WSA) (hn : As.length = n) (hR : rm.frames + 1 ≤ R.frames ∧ 8 + (maxL + 11) + rm.locals ≤ R.locals) (hf : cells + rm.cells ≤ R.cells ∧ slots + rm.slots ≤ R.slots) (hd : decode cc pc = .ok (.invokevirtual index, 3))
    (hM : AMet E (kL K) y bytes maxL ret rm (rf E a :: As) h rvf dy) (hst : (rest.map fun v => v.category).sum ≤ 8) {d : β → Mem → Option (α × Mem)} (kk : ∀ r h1, dy = some (r, h1) → Aw K E R nL Q (cells + rm.cells) (slots + rm.slots) (pc + 3) L ((rvf r).toList ++ rest) h1 (d r h1)) : Aw K E R nL Q cells slots pc L (As.reverse ++ rf E a :: rest) h (if mKd h a = c then dy.bind (fun x => d x.1 x.2) else none) := by
  intro r h' e H locs ls hz M hS hls
  by_cases hk : mKd h a = c
  · rw [if_pos hk] at e
    cases hdy : dy with
    | none => rw [hdy] at e; cases e
    | some x =>
      obtain ⟨r1, h1⟩ := x
      rw [hdy] at e
      have he := M.at (a := a) (by omega)
      rw [encE_o hk hc11] at he
      obtain ⟨⟨w1, w2, w3, w4⟩, hnm⟩ := hcal
      have hG : GoodIn WSA (wsV own index y.cls y (Cond.code y bytes maxL ret :: WSA)) := wgood (by
        intro w hw'
        simp only [wsV, List.mem_append, List.mem_cons, List.not_mem_nil, or_false] at hw'
        rcases hw' with (rfl | rfl | rfl | rfl) | rfl | h9
        · exact hw
        · exact w1
        · exact w2
        · exact w3
        · exact w4
        · exact h9)
      intro T hT X
      have hHz := aw_size hz hE M hS hT X
      exact aw_run (rm := rm) (r' := rvf r1) (h1 := h1) (va_runV (As := As) (rest := rest) (b := E.1 + a) (C := y.cls) ⟨C.1, C.2.1, C.2.2.1, C.2.2.2.1, C.2.2.2.2.1⟩ (hM r1 h1 hdy) (cwV n C.2.2.2.2.1 hG rfl rfl rfl ⟨rfl, hnm⟩ hR) ⟨PcM_blind E _ h, va_recv C.2.2.2.2.2.1 M.1 hcl he, aw_pre C hz M hS hHz _⟩ rfl hn hls.1 rfl (lv_room hst) hd hf) hz hS (fun H1 locs1 hz1 hM1 hS1 => kk r1 h1 hdy r h' e H1 locs1 ls hz1 hM1 hS1 hls) T hT X
  · rw [if_neg hk] at e; cases e
theorem aw_callS0 (C : CxOK K E own cc nL) (hE : E.1 + 1 ≤ (kS K).heap.size) (hcal : CalS y bytes maxL ret n) (hw : Cond.methodLink own index y ∈ WSA) (hn : As.length = n) (hR : rm.frames + 1 ≤ R.frames ∧ 8 + (maxL + 11) + rm.locals ≤ R.locals) (hf : cells + rm.cells ≤ R.cells ∧ slots + rm.slots ≤ R.slots) (hd : decode cc pc = .ok (.invokestatic index, 3))
    (hM : AMet E (kL K) y bytes maxL ret rm As h rvf dy) (hst : (rest.map fun v => v.category).sum ≤ 8) {d : β → Mem → Option (α × Mem)} (kk : ∀ r h1, dy = some (r, h1) → Aw K E R nL Q (cells + rm.cells) (slots + rm.slots) (pc + 3) L ((rvf r).toList ++ rest) h1 (d r h1)) : Aw K E R nL Q cells slots pc L (As.reverse ++ rest) h (dy.bind (fun x => d x.1 x.2)) := by
  intro r h' e H locs ls hz M hS hls
  cases hdy : dy with
  | none => rw [hdy] at e; cases e
  | some x =>
    obtain ⟨r1, h1⟩ := x
    rw [hdy] at e
    obtain ⟨⟨w1, w3, w4⟩, hnm⟩ := hcal
    have hG : GoodIn WSA (va_wsS own index y (Cond.code y bytes maxL ret :: WSA)) := wgood (by
      intro w hw'
      simp only [va_wsS, List.mem_append, List.mem_cons, List.not_mem_nil, or_false] at hw'
      rcases hw' with (rfl | rfl | rfl) | rfl | h9
      · exact hw
      · exact w1
      · exact w3
      · exact w4
      · exact h9)
    intro T hT X
    have hHz := aw_size hz hE M hS hT X
    exact aw_run (rm := rm) (r' := rvf r1) (h1 := h1) (va_runS (As := As) (rest := rest) ⟨C.1, C.2.1, C.2.2.1, C.2.2.2.1, C.2.2.2.2.1⟩ (hM r1 h1 hdy) (va_cwS n C.2.2.2.2.1 hG rfl rfl rfl hnm hR) ⟨PcM_blind E _ h, aw_pre C hz M hS hHz _⟩ rfl hn hls.1 rfl (lv_room hst) hd hf) hz hS (fun H1 locs1 hz1 hM1 hS1 => kk r1 h1 hdy r h' e H1 locs1 ls hz1 hM1 hS1 hls) T hT X
theorem aw_callSN0 (C : CxOK K E own cc nL) (hE : E.1 + 1 ≤ (kS K).heap.size) (hcal : CalS y bytes maxL ret n) {host : String} (hw : Cond.methodLinkNest own index y host ∈ tables_1) (hn : As.length = n) (hR : rm.frames + 1 ≤ R.frames ∧ 8 + (maxL + 11) + rm.locals ≤ R.locals) (hf : cells + rm.cells ≤ R.cells ∧ slots + rm.slots ≤ R.slots) (hd : decode cc pc = .ok (.invokestatic index, 3))
    (hM : AMet E (kL K) y bytes maxL ret rm As h rvf dy) (hst : (rest.map fun v => v.category).sum ≤ 8) {d : β → Mem → Option (α × Mem)} (kk : ∀ r h1, dy = some (r, h1) → Aw K E R nL Q (cells + rm.cells) (slots + rm.slots) (pc + 3) L ((rvf r).toList ++ rest) h1 (d r h1)) : Aw K E R nL Q cells slots pc L (As.reverse ++ rest) h (dy.bind (fun x => d x.1 x.2)) := by
  intro r h' e H locs ls hz M hS hls
  cases hdy : dy with
  | none => rw [hdy] at e; cases e
  | some x =>
    obtain ⟨r1, h1⟩ := x
    rw [hdy] at e
    obtain ⟨⟨w1, w3, w4⟩, hnm⟩ := hcal
    have hG : GoodIn WSA (Cond.code y bytes maxL ret :: WSA) := wgood (by
      intro w hw'
      rcases List.mem_cons.mp hw' with rfl | h9
      · exact w4
      · exact h9)
    intro T hT X
    have hHz := aw_size hz hE M hS hT X
    exact aw_run (rm := rm) (r' := rvf r1) (h1 := h1) (va_runSN (As := As) (rest := rest) ⟨C.1, C.2.1, C.2.2.1, C.2.2.2.1, C.2.2.2.2.1⟩ (hM r1 h1 hdy) ⟨va_cnB n C.2.2.2.2.1 hG rfl rfl rfl (C.2.2.2.2.2.2.2.2.1 _ hw rfl) (C.2.2.2.2.1 _ w3) hnm hR, C.2.2.2.2.1 _ w1, trivial⟩ ⟨PcM_blind E _ h, aw_pre C hz M hS hHz _⟩ rfl hn hls.1 rfl (lv_room hst) hd hf) hz hS (fun H1 locs1 hz1 hM1 hS1 => kk r1 h1 hdy r h' e H1 locs1 ls hz1 hM1 hS1 hls) T hT X
theorem aw_callI0 (C : CxOK K E own cc nL) (hE : E.1 + 1 ≤ (kS K).heap.size) (hcal : CalI y bytes maxL n) (hw : Cond.methodLink own index y ∈ WSA) (hn : As.length = n) (hR : rm.frames + 1 ≤ R.frames ∧ 8 + (maxL + 11) + rm.locals ≤ R.locals) (hf : cells + rm.cells ≤ R.cells ∧ slots + rm.slots ≤ R.slots) (hd : decode cc pc = .ok (.invokespecial index, 3))
    (hM : AMet E (kL K) y bytes maxL none rm (rf E a :: As) h rvf dy) (hst : (rest.map fun v => v.category).sum ≤ 8) {d : β → Mem → Option (α × Mem)} (kk : ∀ r h1, dy = some (r, h1) → Aw K E R nL Q (cells + rm.cells) (slots + rm.slots) (pc + 3) L ((rvf r).toList ++ rest) h1 (d r h1)) : Aw K E R nL Q cells slots pc L (As.reverse ++ rf E a :: rest) h (dy.bind (fun x => d x.1 x.2)) := by
  intro r h' e H locs ls hz M hS hls
  cases hdy : dy with
  | none => rw [hdy] at e; cases e
  | some x =>
    obtain ⟨r1, h1⟩ := x
    rw [hdy] at e
    obtain ⟨⟨w1, w3, w4, w5⟩, hnm⟩ := hcal
    have hG : GoodIn WSA (Cond.code y bytes maxL none :: WSA) := wgood (by
      intro w hw'
      rcases List.mem_cons.mp hw' with rfl | h9
      · exact w4
      · exact h9)
    intro T hT X
    have hHz := aw_size hz hE M hS hT X
    exact aw_run (rm := rm) (r' := rvf r1) (h1 := h1) (va_runI (As := As) (rest := rest) (b := E.1 + a) ⟨C.1, C.2.1, C.2.2.1, C.2.2.2.1, C.2.2.2.2.1⟩ (hM r1 h1 hdy) (cwI n C.2.2.2.2.1 hG rfl rfl rfl (C.2.2.2.2.1 _ w3) (C.2.2.2.2.1 _ hw) (C.2.2.2.2.1 _ w1) w5 hnm hR) ⟨PcM_blind E _ h, aw_pre C hz M hS hHz _⟩ rfl hn hls.1 rfl (lv_room hst) hd hf) hz hS (fun H1 locs1 hz1 hM1 hS1 => kk r1 h1 hdy r h' e H1 locs1 ls hz1 hM1 hS1 hls) T hT X
theorem aw_callIN0 (C : CxOK K E own cc nL) (hE : E.1 + 1 ≤ (kS K).heap.size) (hcal : CalI y bytes maxL n) {host : String} (hw : Cond.methodLinkNest own index y host ∈ tables_1) (hn : As.length = n) (hR : rm.frames + 1 ≤ R.frames ∧ 8 + (maxL + 11) + rm.locals ≤ R.locals) (hf : cells + rm.cells ≤ R.cells ∧ slots + rm.slots ≤ R.slots) (hd : decode cc pc = .ok (.invokespecial index, 3))
    (hM : AMet E (kL K) y bytes maxL none rm (rf E a :: As) h rvf dy) (hst : (rest.map fun v => v.category).sum ≤ 8) {d : β → Mem → Option (α × Mem)} (kk : ∀ r h1, dy = some (r, h1) → Aw K E R nL Q (cells + rm.cells) (slots + rm.slots) (pc + 3) L ((rvf r).toList ++ rest) h1 (d r h1)) : Aw K E R nL Q cells slots pc L (As.reverse ++ rf E a :: rest) h (dy.bind (fun x => d x.1 x.2)) := by
  intro r h' e H locs ls hz M hS hls
  cases hdy : dy with
  | none => rw [hdy] at e; cases e
  | some x =>
    obtain ⟨r1, h1⟩ := x
    rw [hdy] at e
    obtain ⟨⟨w1, w3, w4, w5⟩, hnm⟩ := hcal
    have hG : GoodIn WSA (Cond.code y bytes maxL none :: WSA) := wgood (by
      intro w hw'
      rcases List.mem_cons.mp hw' with rfl | h9
      · exact w4
      · exact h9)
    intro T hT X
    have hHz := aw_size hz hE M hS hT X
    exact aw_run (rm := rm) (r' := rvf r1) (h1 := h1) (va_runIN (As := As) (rest := rest) (b := E.1 + a) ⟨C.1, C.2.1, C.2.2.1, C.2.2.2.1, C.2.2.2.2.1⟩ (hM r1 h1 hdy) ⟨va_cnB n C.2.2.2.2.1 hG rfl rfl rfl (C.2.2.2.2.2.2.2.2.1 _ hw rfl) (C.2.2.2.2.1 _ w3) hnm hR, w5, C.2.2.2.2.1 _ w1⟩ ⟨PcM_blind E _ h, aw_pre C hz M hS hHz _⟩ rfl hn hls.1 rfl (lv_room hst) hd hf) hz hS (fun H1 locs1 hz1 hM1 hS1 => kk r1 h1 hdy r h' e H1 locs1 ls hz1 hM1 hS1 hls) T hT X
theorem aw_objInit (C : CxOK K E own cc nL) (hw1 : Cond.methodLink own index Lib.objectInit ∈ WSA) (hw2 : Cond.instanceMethod Lib.objectInit ∈ WSA) (hw3 : Cond.code Lib.objectInit ⟨#[0xb1]⟩ 1 none ∈ WSA) (hd : decode cc pc = .ok (.invokespecial index, 3)) (hfr : 1 ≤ R.frames) (hlo : (rest.map fun v => v.category).sum + 12 ≤ R.locals) {d : Option (α × Mem)} (kk : Aw K E R nL Q cells slots (pc + 3) L rest h d) : Aw K E R nL Q cells slots pc L (rf E a :: rest) h d := by
  intro r h' e H locs ls hz M hS hls
  refine W.objInit C.1 C.2.1 C.2.2.2.1 (C.2.2.2.2.1 _ hw1) (C.2.2.2.2.1 _ hw2) (C.2.2.2.2.1 _ hw3) rfl (by rw [C.2.2.1]; exact hls.1) rfl hd hfr (by show 2 * 0 + _ + 12 ≤ _; omega) ?_
  exact kk r h' e H locs ls hz M hS hls

theorem aw_callVI (C : CxOK K E own cc nL) (hE : E.1 + 1 ≤ (kS K).heap.size) {c N : Nat} {T : u_T} (hcl : vwCl[c]? = some (y.cls, T, N)) (hc11 : c < 11) (hcal : CalV y bytes maxL ret n) (hw : Cond.methodLink own index y ∈ WSA) (hn : As.length = n) (hR : rm.frames + 1 ≤ R.frames ∧ 8 + (maxL + 11) + rm.locals ≤ R.locals) (hf : cells + rm.cells ≤ R.cells ∧ slots + rm.slots ≤ R.slots) (hd : decode cc pc = .ok (.invokevirtual index, 3)) {dy : Option (Int32 × Mem)} (hM : AMet E (kL K) y bytes maxL ret rm (rf E a :: As) h rvI dy) {st : List Value} (hrev : As.reverse ++ rf E a :: rest = st) (hst : (rest.map fun v => v.category).sum ≤ 8) {d : Int32 → Mem → Option (α × Mem)} {c' s' : Nat} (hc' : cells + rm.cells = c') (hs' : slots + rm.slots = s') (kk : ∀ r h1, dy = some (r, h1) → Aw K E R nL Q c' s' (pc + 3) L (.int r :: rest) h1 (d r h1)) : Aw K E R nL Q cells slots pc L st h (if mKd h a = c then dy.bind (fun x => d x.1 x.2) else none) := by
  subst hrev hc' hs'
  exact aw_callV0 C hE hcl hc11 hcal hw hn hR hf hd hM hst kk
theorem aw_callVJ (C : CxOK K E own cc nL) (hE : E.1 + 1 ≤ (kS K).heap.size) {c N : Nat} {T : u_T} (hcl : vwCl[c]? = some (y.cls, T, N)) (hc11 : c < 11) (hcal : CalV y bytes maxL ret n) (hw : Cond.methodLink own index y ∈ WSA) (hn : As.length = n) (hR : rm.frames + 1 ≤ R.frames ∧ 8 + (maxL + 11) + rm.locals ≤ R.locals) (hf : cells + rm.cells ≤ R.cells ∧ slots + rm.slots ≤ R.slots) (hd : decode cc pc = .ok (.invokevirtual index, 3)) {dy : Option (Int64 × Mem)} (hM : AMet E (kL K) y bytes maxL ret rm (rf E a :: As) h rvJ dy) {st : List Value} (hrev : As.reverse ++ rf E a :: rest = st) (hst : (rest.map fun v => v.category).sum ≤ 8) {d : Int64 → Mem → Option (α × Mem)} {c' s' : Nat} (hc' : cells + rm.cells = c') (hs' : slots + rm.slots = s') (kk : ∀ r h1, dy = some (r, h1) → Aw K E R nL Q c' s' (pc + 3) L (.long r :: rest) h1 (d r h1)) : Aw K E R nL Q cells slots pc L st h (if mKd h a = c then dy.bind (fun x => d x.1 x.2) else none) := by
  subst hrev hc' hs'
  exact aw_callV0 C hE hcl hc11 hcal hw hn hR hf hd hM hst kk
theorem aw_callVV (C : CxOK K E own cc nL) (hE : E.1 + 1 ≤ (kS K).heap.size) {c N : Nat} {T : u_T} (hcl : vwCl[c]? = some (y.cls, T, N)) (hc11 : c < 11) (hcal : CalV y bytes maxL ret n) (hw : Cond.methodLink own index y ∈ WSA) (hn : As.length = n) (hR : rm.frames + 1 ≤ R.frames ∧ 8 + (maxL + 11) + rm.locals ≤ R.locals) (hf : cells + rm.cells ≤ R.cells ∧ slots + rm.slots ≤ R.slots) (hd : decode cc pc = .ok (.invokevirtual index, 3)) {dy : Option (Unit × Mem)} (hM : AMet E (kL K) y bytes maxL ret rm (rf E a :: As) h rvV dy) {st : List Value} (hrev : As.reverse ++ rf E a :: rest = st) (hst : (rest.map fun v => v.category).sum ≤ 8) {d : Unit → Mem → Option (α × Mem)} {c' s' : Nat} (hc' : cells + rm.cells = c') (hs' : slots + rm.slots = s') (kk : ∀ r h1, dy = some (r, h1) → Aw K E R nL Q c' s' (pc + 3) L (rest) h1 (d r h1)) : Aw K E R nL Q cells slots pc L st h (if mKd h a = c then dy.bind (fun x => d x.1 x.2) else none) := by
  subst hrev hc' hs'
  exact aw_callV0 C hE hcl hc11 hcal hw hn hR hf hd hM hst kk
theorem aw_callSI (C : CxOK K E own cc nL) (hE : E.1 + 1 ≤ (kS K).heap.size) (hcal : CalS y bytes maxL ret n) (hw : Cond.methodLink own index y ∈ WSA) (hn : As.length = n) (hR : rm.frames + 1 ≤ R.frames ∧ 8 + (maxL + 11) + rm.locals ≤ R.locals) (hf : cells + rm.cells ≤ R.cells ∧ slots + rm.slots ≤ R.slots) (hd : decode cc pc = .ok (.invokestatic index, 3)) {dy : Option (Int32 × Mem)} (hM : AMet E (kL K) y bytes maxL ret rm As h rvI dy) {st : List Value} (hrev : As.reverse ++ rest = st) (hst : (rest.map fun v => v.category).sum ≤ 8) {d : Int32 → Mem → Option (α × Mem)} {c' s' : Nat} (hc' : cells + rm.cells = c') (hs' : slots + rm.slots = s') (kk : ∀ r h1, dy = some (r, h1) → Aw K E R nL Q c' s' (pc + 3) L (.int r :: rest) h1 (d r h1)) : Aw K E R nL Q cells slots pc L st h (dy.bind (fun x => d x.1 x.2)) := by
  subst hrev hc' hs'
  exact aw_callS0 C hE hcal hw hn hR hf hd hM hst kk
theorem aw_callSJ (C : CxOK K E own cc nL) (hE : E.1 + 1 ≤ (kS K).heap.size) (hcal : CalS y bytes maxL ret n) (hw : Cond.methodLink own index y ∈ WSA) (hn : As.length = n) (hR : rm.frames + 1 ≤ R.frames ∧ 8 + (maxL + 11) + rm.locals ≤ R.locals) (hf : cells + rm.cells ≤ R.cells ∧ slots + rm.slots ≤ R.slots) (hd : decode cc pc = .ok (.invokestatic index, 3)) {dy : Option (Int64 × Mem)} (hM : AMet E (kL K) y bytes maxL ret rm As h rvJ dy) {st : List Value} (hrev : As.reverse ++ rest = st) (hst : (rest.map fun v => v.category).sum ≤ 8) {d : Int64 → Mem → Option (α × Mem)} {c' s' : Nat} (hc' : cells + rm.cells = c') (hs' : slots + rm.slots = s') (kk : ∀ r h1, dy = some (r, h1) → Aw K E R nL Q c' s' (pc + 3) L (.long r :: rest) h1 (d r h1)) : Aw K E R nL Q cells slots pc L st h (dy.bind (fun x => d x.1 x.2)) := by
  subst hrev hc' hs'
  exact aw_callS0 C hE hcal hw hn hR hf hd hM hst kk
theorem aw_callSV (C : CxOK K E own cc nL) (hE : E.1 + 1 ≤ (kS K).heap.size) (hcal : CalS y bytes maxL ret n) (hw : Cond.methodLink own index y ∈ WSA) (hn : As.length = n) (hR : rm.frames + 1 ≤ R.frames ∧ 8 + (maxL + 11) + rm.locals ≤ R.locals) (hf : cells + rm.cells ≤ R.cells ∧ slots + rm.slots ≤ R.slots) (hd : decode cc pc = .ok (.invokestatic index, 3)) {dy : Option (Unit × Mem)} (hM : AMet E (kL K) y bytes maxL ret rm As h rvV dy) {st : List Value} (hrev : As.reverse ++ rest = st) (hst : (rest.map fun v => v.category).sum ≤ 8) {d : Unit → Mem → Option (α × Mem)} {c' s' : Nat} (hc' : cells + rm.cells = c') (hs' : slots + rm.slots = s') (kk : ∀ r h1, dy = some (r, h1) → Aw K E R nL Q c' s' (pc + 3) L (rest) h1 (d r h1)) : Aw K E R nL Q cells slots pc L st h (dy.bind (fun x => d x.1 x.2)) := by
  subst hrev hc' hs'
  exact aw_callS0 C hE hcal hw hn hR hf hd hM hst kk
theorem aw_callSNI (C : CxOK K E own cc nL) (hE : E.1 + 1 ≤ (kS K).heap.size) (hcal : CalS y bytes maxL ret n) {host : String} (hw : Cond.methodLinkNest own index y host ∈ tables_1) (hn : As.length = n) (hR : rm.frames + 1 ≤ R.frames ∧ 8 + (maxL + 11) + rm.locals ≤ R.locals) (hf : cells + rm.cells ≤ R.cells ∧ slots + rm.slots ≤ R.slots) (hd : decode cc pc = .ok (.invokestatic index, 3)) {dy : Option (Int32 × Mem)} (hM : AMet E (kL K) y bytes maxL ret rm As h rvI dy) {st : List Value} (hrev : As.reverse ++ rest = st) (hst : (rest.map fun v => v.category).sum ≤ 8) {d : Int32 → Mem → Option (α × Mem)} {c' s' : Nat} (hc' : cells + rm.cells = c') (hs' : slots + rm.slots = s') (kk : ∀ r h1, dy = some (r, h1) → Aw K E R nL Q c' s' (pc + 3) L (.int r :: rest) h1 (d r h1)) : Aw K E R nL Q cells slots pc L st h (dy.bind (fun x => d x.1 x.2)) := by
  subst hrev hc' hs'
  exact aw_callSN0 C hE hcal hw hn hR hf hd hM hst kk
theorem aw_callIV (C : CxOK K E own cc nL) (hE : E.1 + 1 ≤ (kS K).heap.size) (hcal : CalI y bytes maxL n) (hw : Cond.methodLink own index y ∈ WSA) (hn : As.length = n) (hR : rm.frames + 1 ≤ R.frames ∧ 8 + (maxL + 11) + rm.locals ≤ R.locals) (hf : cells + rm.cells ≤ R.cells ∧ slots + rm.slots ≤ R.slots) (hd : decode cc pc = .ok (.invokespecial index, 3)) {dy : Option (Unit × Mem)} (hM : AMet E (kL K) y bytes maxL none rm (rf E a :: As) h rvV dy) {st : List Value} (hrev : As.reverse ++ rf E a :: rest = st) (hst : (rest.map fun v => v.category).sum ≤ 8) {d : Unit → Mem → Option (α × Mem)} {c' s' : Nat} (hc' : cells + rm.cells = c') (hs' : slots + rm.slots = s') (kk : ∀ r h1, dy = some (r, h1) → Aw K E R nL Q c' s' (pc + 3) L (rest) h1 (d r h1)) : Aw K E R nL Q cells slots pc L st h (dy.bind (fun x => d x.1 x.2)) := by
  subst hrev hc' hs'
  exact aw_callI0 C hE hcal hw hn hR hf hd hM hst kk
theorem aw_callINV (C : CxOK K E own cc nL) (hE : E.1 + 1 ≤ (kS K).heap.size) (hcal : CalI y bytes maxL n) {host : String} (hw : Cond.methodLinkNest own index y host ∈ tables_1) (hn : As.length = n) (hR : rm.frames + 1 ≤ R.frames ∧ 8 + (maxL + 11) + rm.locals ≤ R.locals) (hf : cells + rm.cells ≤ R.cells ∧ slots + rm.slots ≤ R.slots) (hd : decode cc pc = .ok (.invokespecial index, 3)) {dy : Option (Unit × Mem)} (hM : AMet E (kL K) y bytes maxL none rm (rf E a :: As) h rvV dy) {st : List Value} (hrev : As.reverse ++ rf E a :: rest = st) (hst : (rest.map fun v => v.category).sum ≤ 8) {d : Unit → Mem → Option (α × Mem)} {c' s' : Nat} (hc' : cells + rm.cells = c') (hs' : slots + rm.slots = s') (kk : ∀ r h1, dy = some (r, h1) → Aw K E R nL Q c' s' (pc + 3) L (rest) h1 (d r h1)) : Aw K E R nL Q cells slots pc L st h (dy.bind (fun x => d x.1 x.2)) := by
  subst hrev hc' hs'
  exact aw_callIN0 C hE hcal hw hn hR hf hd hM hst kk
theorem aw_callVR (C : CxOK K E own cc nL) (hE : E.1 + 1 ≤ (kS K).heap.size) {c N : Nat} {T : u_T} (hcl : vwCl[c]? = some (y.cls, T, N)) (hc11 : c < 11) (hcal : CalV y bytes maxL ret n) (hw : Cond.methodLink own index y ∈ WSA) (hn : As.length = n) (hR : rm.frames + 1 ≤ R.frames ∧ 8 + (maxL + 11) + rm.locals ≤ R.locals) (hf : cells + rm.cells ≤ R.cells ∧ slots + rm.slots ≤ R.slots) (hd : decode cc pc = .ok (.invokevirtual index, 3)) {dy : Option (Nat × Mem)} (hM : AMet E (kL K) y bytes maxL ret rm (rf E a :: As) h (rvR E) dy) {st : List Value} (hrev : As.reverse ++ rf E a :: rest = st) (hst : (rest.map fun v => v.category).sum ≤ 8) {d1 : Mem → Option (α × Mem)} {d2 : Nat → Mem → Option (α × Mem)} {c' s' : Nat} (hc' : cells + rm.cells = c') (hs' : slots + rm.slots = s') (k1 : ∀ h1, dy = some (0, h1) → Aw K E R nL Q c' s' (pc + 3) L (.null :: rest) h1 (d1 h1)) (k2 : ∀ r h1, dy = some (r, h1) → r ≠ 0 → Aw K E R nL Q c' s' (pc + 3) L (rf E r :: rest) h1 (d2 r h1)) : Aw K E R nL Q cells slots pc L st h (if mKd h a = c then dy.bind (fun x => if x.1 = 0 then d1 x.2 else d2 x.1 x.2) else none) := by
  subst hrev hc' hs'
  refine aw_callV0 C hE hcl hc11 hcal hw hn hR hf hd hM hst (d := fun r h1 => if r = 0 then d1 h1 else d2 r h1) (fun r h1 hr => ?_)
  by_cases h0 : r = 0
  · subst h0
    exact k1 h1 hr
  · rw [if_neg h0]
    have := k2 r h1 hr h0
    rw [show (rvR E r).toList ++ rest = rf E r :: rest from by simp [rvR, rv_rf E h0]]
    exact this
/-! returns -/
theorem aw_post {n : Nat} {rvf : β → Option Value} {r : β} {h' : Mem} {t : State} (hz : (kS K).heap.size + cells = E.1 + 1 + mSz h') (hz0 : n = mSz h' ) (M : Sm E h' H) (hS : va_S (AB E) (kS K).heap H locs) (ht : t.heap = H) : QcM E n (rvf r) h' (kA K) (kS K) (.returned (rvf r)) t := ⟨⟨rfl, by rw [ht]; exact M, hz0.symm⟩, hS.F ht⟩
theorem aw_ireturn (C : CxOK K E own cc nL) {ft : FieldType} (hr : (kMe K).sig.returnType = some ft) {v : Int32} (hn : narrow ft (.int v) = .int v) {n m0 : Nat} (hz0 : (kS K).heap.size = E.1 + 1 + m0) (hn0 : n = m0 + cells) (hd : decode cc pc = .ok (.ireturn, 1)) : Aw K E R nL (Qm K E n rvI cells slots) cells slots pc L [.int v] h (some (v, h)) := by
  intro r h' e H locs ls hz M hS hls
  cases e
  exact W.zret C.1 C.2.1 hr hn (fun t ht hW => aw_post (rvf := rvI) (r := v) hz (by omega) M hS ht) hS.2.2 hd (hlocks := C.2.2.2.2.2.2.2.1)
theorem aw_lreturn (C : CxOK K E own cc nL) (hr : (kMe K).sig.returnType = some .long) {v : Int64} {n m0 : Nat} (hz0 : (kS K).heap.size = E.1 + 1 + m0) (hn0 : n = m0 + cells) (hd : decode cc pc = .ok (.lreturn, 1)) : Aw K E R nL (Qm K E n rvJ cells slots) cells slots pc L [.long v] h (some (v, h)) := by
  intro r h' e H locs ls hz M hS hls
  cases e
  exact W.lret C.1 C.2.1 hr (fun t ht hW => aw_post (rvf := rvJ) (r := v) hz (by omega) M hS ht) hS.2.2 hd (hlocks := C.2.2.2.2.2.2.2.1)
theorem aw_return (C : CxOK K E own cc nL) (hr : (kMe K).sig.returnType = none) {n m0 : Nat} (hz0 : (kS K).heap.size = E.1 + 1 + m0) (hn0 : n = m0 + cells) (hd : decode cc pc = .ok (.return_, 1)) : Aw K E R nL (Qm K E n rvV cells slots) cells slots pc L [] h (some ((), h)) := by
  intro r h' e H locs ls hz M hS hls
  cases e
  exact W.vret C.1 C.2.1 hr (fun t ht hW => aw_post (rvf := rvV) (r := ()) hz (by omega) M hS ht) hS.2.2 hd (hlocks := C.2.2.2.2.2.2.2.1)
theorem aw_areturn (C : CxOK K E own cc nL) {s : String} (hr : (kMe K).sig.returnType = some (.object s)) {v : Nat} (hv : v ≠ 0) {n m0 : Nat} (hz0 : (kS K).heap.size = E.1 + 1 + m0) (hn0 : n = m0 + cells) (hd : decode cc pc = .ok (.areturn, 1)) : Aw K E R nL (Qm K E n (rvR E) cells slots) cells slots pc L [rf E v] h (some (v, h)) := by
  intro r h' e H locs ls hz M hS hls
  cases e
  exact W.aret (v := rf E v) C.1 C.2.1 hr (Or.inl ⟨_, rfl⟩) (Or.inr ⟨_, rfl⟩) (fun t ht hW => by rw [← rv_rf E hv]; exact aw_post (rvf := rvR E) (r := v) hz (by omega) M hS ht) hS.2.2 hd (hlocks := C.2.2.2.2.2.2.2.1)
theorem aw_areturnN (C : CxOK K E own cc nL) {s : String} (hr : (kMe K).sig.returnType = some (.object s)) {n m0 : Nat} (hz0 : (kS K).heap.size = E.1 + 1 + m0) (hn0 : n = m0 + cells) (hd : decode cc pc = .ok (.areturn, 1)) : Aw K E R nL (Qm K E n (rvR E) cells slots) cells slots pc L [.null] h (some (0, h)) := by
  intro r h' e H locs ls hz M hS hls
  cases e
  exact W.aret (v := .null) C.1 C.2.1 hr (Or.inl ⟨_, rfl⟩) (Or.inl rfl) (fun t ht hW => aw_post (rvf := rvR E) (r := 0) hz (by omega) M hS ht) hS.2.2 hd (hlocks := C.2.2.2.2.2.2.2.1)
theorem aw_zreturn (C : CxOK K E own cc nL) (hr : (kMe K).sig.returnType = some .boolean) {v : Int32} {n m0 : Nat} (hz0 : (kS K).heap.size = E.1 + 1 + m0) (hn0 : n = m0 + cells) (hd : decode cc pc = .ok (.ireturn, 1)) : Aw K E R nL (Qm K E n rvI cells slots) cells slots pc L [.int v] h (if v = 0 ∨ v = 1 then some (v, h) else none) := by
  by_cases hv : v = 0 ∨ v = 1
  · rw [if_pos hv]
    exact aw_ireturn C hr (by rcases hv with rfl | rfl <;> rfl) hz0 hn0 hd
  · rw [if_neg hv]
    exact aw_none
theorem aw_widen {α : Type} {Q : α → Mem → State → Prop} {k m : Nat} (h1 : cells = k) (h2 : slots ≤ m) {st : List Value} {d : Option (α × Mem)} (kk : Aw K E R nL Q k m pc L st h d) : Aw K E R nL Q cells slots pc L st h d := by
  subst h1
  exact fun r h' e H locs ls hz M hS hls => W.widen (Nat.le_refl _) h2 (kk r h' e H locs ls hz M hS hls)
/-! switches -/
theorem aw_tableIn {α : Type} {Q : α → Mem → State → Prop} {st : List Value} (C : CxOK K E own cc nL) {dflt lo hi : Int} {offs : Array Int} {len : Nat} {x : Int32} (k : Int32) {off : Int} (tgt : Nat) (hx : x = k) (hd : decode cc pc = .ok (.tableswitch dflt lo hi offs, len)) (h1 : ¬ k.toInt < lo) (h2 : ¬ hi < k.toInt) (ho : offs[(k.toInt - lo).toNat]? = some off) (ht : (pc : Int) + off = (tgt : Int)) {d : Option (α × Mem)} (kk : Aw K E R nL Q cells slots tgt L st h d) : Aw K E R nL Q cells slots pc L (.int x :: st) h d := by
  subst hx
  exact fun r h' e H locs ls hz M hS hls => lv_tableIn C.1 C.2.1 hd h1 h2 ho ht (kk r h' e H locs ls hz M hS hls)
theorem aw_tableOut {α : Type} {Q : α → Mem → State → Prop} {st : List Value} (C : CxOK K E own cc nL) {dflt lo hi : Int} {offs : Array Int} {len : Nat} {x : Int32} (tgt : Nat) (hd : decode cc pc = .ok (.tableswitch dflt lo hi offs, len)) (ho : x.toInt < lo ∨ hi < x.toInt) (ht : (pc : Int) + dflt = (tgt : Int)) {d : Option (α × Mem)} (kk : Aw K E R nL Q cells slots tgt L st h d) : Aw K E R nL Q cells slots pc L (.int x :: st) h d :=
  fun r h' e H locs ls hz M hS hls => lv_tableOut C.1 C.2.1 hd ho ht (kk r h' e H locs ls hz M hS hls)
theorem aw_lookup {α : Type} {Q : α → Mem → State → Prop} {st : List Value} (C : CxOK K E own cc nL) {dflt : Int} {ps : Array (Int × Int)} {len : Nat} {x : Int32} {off : Int} (tgt : Nat) (hd : decode cc pc = .ok (.lookupswitch dflt ps, len)) (hp : (ps.toList.zip (ps.toList.drop 1)).all (fun (a, next) => a.1 < next.1) = true) (ho : Op.lookupswitch.offset ps.toList dflt x.toInt = off) (ht : (pc : Int) + off = (tgt : Int)) {d : Option (α × Mem)} (kk : Aw K E R nL Q cells slots tgt L st h d) : Aw K E R nL Q cells slots pc L (.int x :: st) h d :=
  fun r h' e H locs ls hz M hS hls => lv_lookup C.1 C.2.1 hd hp ho ht (kk r h' e H locs ls hz M hS hls)
theorem aw_case {α : Type} {Q : α → Mem → State → Prop} {st : List Value} {x : Int32} (k : Int32) {d1 d2 : Option (α × Mem)} (k1 : x = k → Aw K E R nL Q cells slots pc L st h d1) (k2 : ¬ x = k → Aw K E R nL Q cells slots pc L st h d2) : Aw K E R nL Q cells slots pc L st h (if x = k then d1 else d2) := by
  by_cases hc : x = k
  · rw [if_pos hc]; exact k1 hc
  · rw [if_neg hc]; exact k2 hc

theorem aw_copyI {α : Type} {Q : α → Mem → State → Prop} (C : CxOK K E own cc nL) {a b : Nat} {i j k : Int32} (hw1 : Cond.methodLink own index arraycopyName ∈ WSA) (hw2 : Cond.native arraycopyName ∈ WSA) (hw3 : Cond.static arraycopyName ∈ WSA) (hw4 : Cond.initialized "java/lang/System" ∈ WSA) (hfr : 1 ≤ R.frames) (hlo : (rest.map fun v => v.category).sum + (nativeFrameWords "java/lang/System" "arraycopy" 5 + 11) ≤ R.locals) (hd : decode cc pc = .ok (.invokestatic index, 3)) {d : Mem → Option (α × Mem)} (kk : ∀ h1, cpI h a i b j k = some h1 → Aw K E R nL Q cells slots (pc + 3) L rest h1 (d h1)) : Aw K E R nL Q cells slots pc L (.int k :: .int j :: rf E b :: .int i :: rf E a :: rest) h ((cpI h a i b j k).bind d) := by
  intro r h' e H locs ls hz M hS hls
  by_cases hk : (mKd h a = 11 ∧ mKd h b = 11) ∧ (¬ i < 0 ∧ ¬ j < 0 ∧ ¬ k < 0) ∧ i.toNatClampNeg + k.toNatClampNeg ≤ mLn h a ∧ j.toNatClampNeg + k.toNatClampNeg ≤ mLn h b
  · have hg : cpI h a i b j k = some (sI h b (va_cpy (mI h a) (mI h b) i.toNatClampNeg j.toNatClampNeg k.toNatClampNeg)) := by unfold cpI; rw [if_pos hk]
    rw [hg] at e
    have h15 : mKd h b < 15 := by omega
    have hea := M.at (a := a) (by omega)
    have heb := M.at h15
    rw [encE_i hk.1.1] at hea
    rw [encE_i hk.1.2] at heb
    have hk' : mKd (sI h b (va_cpy (mI h a) (mI h b) i.toNatClampNeg j.toNatClampNeg k.toNatClampNeg)) b = 11 := hk.1.2
    have key : (enc E h).set (b - 1) (E.1 + b, .inl (eI E, mLn h b, .inl (va_cpy (mI h a) (mI h b) i.toNatClampNeg j.toNatClampNeg k.toNatClampNeg))) = enc E (sI h b (va_cpy (mI h a) (mI h b) i.toNatClampNeg j.toNatClampNeg k.toNatClampNeg)) := by
      refine enc_set (E := E) (h := h) (h' := sI h b (va_cpy (mI h a) (mI h b) i.toNatClampNeg j.toNatClampNeg k.toNatClampNeg)) rfl (M.2 b h15).1 (fun q hq => encE_nI _ hq) ?_
      rw [encE_i hk', mI_sI, up1_s]
      rfl
    refine va_copyi (D := eD E) C.1 C.2.1 (C.2.2.1.trans hls.1.symm) C.2.2.2.1 (C.2.2.2.2.1 _ hw1) (C.2.2.2.2.1 _ hw2) (C.2.2.2.2.1 _ hw3) (C.2.2.2.2.1 _ hw4) C.2.2.2.2.2.1 M.1 (enc_D E h) hS (a - 1) (b - 1) 0 0 (ty := .int) hea heb rfl rfl rfl hk.2.1.1 hk.2.1.2.1 hk.2.1.2.2 hk.2.2.1 hk.2.2.2 (fun _ _ => rfl) hfr hlo hd (fun H1 locs1 hP hD hS1 => ?_)
    rw [key] at hP
    exact kk _ hg r h' e H1 locs1 ls hz ⟨hP, M.2⟩ hS1 hls
  · have hg : cpI h a i b j k = none := by unfold cpI; rw [if_neg hk]
    rw [hg] at e; cases e
theorem aw_copyJ {α : Type} {Q : α → Mem → State → Prop} (C : CxOK K E own cc nL) {a b : Nat} {i j k : Int32} (hw1 : Cond.methodLink own index arraycopyName ∈ WSA) (hw2 : Cond.native arraycopyName ∈ WSA) (hw3 : Cond.static arraycopyName ∈ WSA) (hw4 : Cond.initialized "java/lang/System" ∈ WSA) (hfr : 1 ≤ R.frames) (hlo : (rest.map fun v => v.category).sum + (nativeFrameWords "java/lang/System" "arraycopy" 5 + 11) ≤ R.locals) (hd : decode cc pc = .ok (.invokestatic index, 3)) {d : Mem → Option (α × Mem)} (kk : ∀ h1, cpJ h a i b j k = some h1 → Aw K E R nL Q cells slots (pc + 3) L rest h1 (d h1)) : Aw K E R nL Q cells slots pc L (.int k :: .int j :: rf E b :: .int i :: rf E a :: rest) h ((cpJ h a i b j k).bind d) := by
  intro r h' e H locs ls hz M hS hls
  by_cases hk : (mKd h a = 12 ∧ mKd h b = 12) ∧ (¬ i < 0 ∧ ¬ j < 0 ∧ ¬ k < 0) ∧ i.toNatClampNeg + k.toNatClampNeg ≤ mLn h a ∧ j.toNatClampNeg + k.toNatClampNeg ≤ mLn h b
  · have hg : cpJ h a i b j k = some (sL h b (va_cpy (mL h a) (mL h b) i.toNatClampNeg j.toNatClampNeg k.toNatClampNeg)) := by unfold cpJ; rw [if_pos hk]
    rw [hg] at e
    have h15 : mKd h b < 15 := by omega
    have hea := M.at (a := a) (by omega)
    have heb := M.at h15
    rw [encE_l hk.1.1] at hea
    rw [encE_l hk.1.2] at heb
    have hk' : mKd (sL h b (va_cpy (mL h a) (mL h b) i.toNatClampNeg j.toNatClampNeg k.toNatClampNeg)) b = 12 := hk.1.2
    have key : (enc E h).set (b - 1) (E.1 + b, .inl (eJ E, mLn h b, .inr (.inl (va_cpy (mL h a) (mL h b) i.toNatClampNeg j.toNatClampNeg k.toNatClampNeg)))) = enc E (sL h b (va_cpy (mL h a) (mL h b) i.toNatClampNeg j.toNatClampNeg k.toNatClampNeg)) := by
      refine enc_set (E := E) (h := h) (h' := sL h b (va_cpy (mL h a) (mL h b) i.toNatClampNeg j.toNatClampNeg k.toNatClampNeg)) rfl (M.2 b h15).1 (fun q hq => encE_nL _ hq) ?_
      rw [encE_l hk', mL_sL, up1_s]
      rfl
    refine va_copyl (D := eD E) C.1 C.2.1 (C.2.2.1.trans hls.1.symm) C.2.2.2.1 (C.2.2.2.2.1 _ hw1) (C.2.2.2.2.1 _ hw2) (C.2.2.2.2.1 _ hw3) (C.2.2.2.2.1 _ hw4) C.2.2.2.2.2.1 M.1 (enc_D E h) hS (a - 1) (b - 1) 1 1 (ty := .long) hea heb rfl rfl rfl hk.2.1.1 hk.2.1.2.1 hk.2.1.2.2 hk.2.2.1 hk.2.2.2 (fun _ _ => rfl) hfr hlo hd (fun H1 locs1 hP hD hS1 => ?_)
    rw [key] at hP
    exact kk _ hg r h' e H1 locs1 ls hz ⟨hP, M.2⟩ hS1 hls
  · have hg : cpJ h a i b j k = none := by unfold cpJ; rw [if_neg hk]
    rw [hg] at e; cases e
end AC
end
