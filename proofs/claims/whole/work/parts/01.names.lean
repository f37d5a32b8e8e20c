-- PART 01: the tables' words, the names, and each word's place in wsL_law (by gen/mk12.py out of the printed names)
-- ===== PART A: goes FIRST, ahead of the names: the tables' words, and 'selects' of the private methods out of them =====
/-- a private method of a class that the tables say can be made, by its rows of tables_1 -/
def lw_okq (q : MethodName × Nat) : Prop := (q.1.cls ≠ "java/lang/invoke/MethodHandle" ∧ q.1.cls ≠ "java/lang/invoke/VarHandle") ∧ Cond.instantiable q.1.cls q.2 ∈ tables_1 ∧ Cond.privateMethod q.1 ∈ tables_1 ∧ Cond.instanceMethod q.1 ∈ tables_1
theorem lw_p0 : lw_okq (⟨"RingOffices$Scanner", "skipWhiteSpace", "()V"⟩, 5) := ⟨⟨by decide +kernel, by decide +kernel⟩, List.mem_of_getElem? (i := 225) (by decide +kernel), List.mem_of_getElem? (i := 361) (by decide +kernel), List.mem_of_getElem? (i := 362) (by decide +kernel)⟩
theorem lw_p1 : lw_okq (⟨"RingOffices$Scanner", "readNumeral", "()V"⟩, 5) := ⟨⟨by decide +kernel, by decide +kernel⟩, List.mem_of_getElem? (i := 225) (by decide +kernel), List.mem_of_getElem? (i := 375) (by decide +kernel), List.mem_of_getElem? (i := 376) (by decide +kernel)⟩
theorem lw_p2 : lw_okq (⟨"RingOffices$Scanner", "readWord", "()V"⟩, 5) := ⟨⟨by decide +kernel, by decide +kernel⟩, List.mem_of_getElem? (i := 225) (by decide +kernel), List.mem_of_getElem? (i := 382) (by decide +kernel), List.mem_of_getElem? (i := 383) (by decide +kernel)⟩
theorem lw_p3 : lw_okq (⟨"RingOffices$Scanner", "readOther", "(I)V"⟩, 5) := ⟨⟨by decide +kernel, by decide +kernel⟩, List.mem_of_getElem? (i := 225) (by decide +kernel), List.mem_of_getElem? (i := 448) (by decide +kernel), List.mem_of_getElem? (i := 449) (by decide +kernel)⟩
theorem lw_p4 : lw_okq (⟨"RingOffices$SetupParser", "parseRule", "(II)Z"⟩, 3) := ⟨⟨by decide +kernel, by decide +kernel⟩, List.mem_of_getElem? (i := 219) (by decide +kernel), List.mem_of_getElem? (i := 452) (by decide +kernel), List.mem_of_getElem? (i := 453) (by decide +kernel)⟩
theorem lw_p5 : lw_okq (⟨"RingOffices$SetupParser", "take", "(I)Z"⟩, 3) := ⟨⟨by decide +kernel, by decide +kernel⟩, List.mem_of_getElem? (i := 219) (by decide +kernel), List.mem_of_getElem? (i := 456) (by decide +kernel), List.mem_of_getElem? (i := 457) (by decide +kernel)⟩
theorem lw_p6 : lw_okq (⟨"RingOffices$SetupParser", "takeNumber", "(II)Z"⟩, 3) := ⟨⟨by decide +kernel, by decide +kernel⟩, List.mem_of_getElem? (i := 219) (by decide +kernel), List.mem_of_getElem? (i := 464) (by decide +kernel), List.mem_of_getElem? (i := 465) (by decide +kernel)⟩
theorem lw_p7 : lw_okq (⟨"RingOffices$SetupParser", "parseOffices", "()Z"⟩, 3) := ⟨⟨by decide +kernel, by decide +kernel⟩, List.mem_of_getElem? (i := 219) (by decide +kernel), List.mem_of_getElem? (i := 472) (by decide +kernel), List.mem_of_getElem? (i := 473) (by decide +kernel)⟩
theorem lw_p8 : lw_okq (⟨"RingOffices$SetupParser", "parseLetters", "()Z"⟩, 3) := ⟨⟨by decide +kernel, by decide +kernel⟩, List.mem_of_getElem? (i := 219) (by decide +kernel), List.mem_of_getElem? (i := 484) (by decide +kernel), List.mem_of_getElem? (i := 485) (by decide +kernel)⟩
theorem lw_p9 : lw_okq (⟨"RingOffices$SetupParser", "parseToken", "()Z"⟩, 3) := ⟨⟨by decide +kernel, by decide +kernel⟩, List.mem_of_getElem? (i := 219) (by decide +kernel), List.mem_of_getElem? (i := 496) (by decide +kernel), List.mem_of_getElem? (i := 497) (by decide +kernel)⟩
theorem lw_p10 : lw_okq (⟨"RingOffices$History", "copyTo", "(LRingOffices$State;)V"⟩, 3) := ⟨⟨by decide +kernel, by decide +kernel⟩, List.mem_of_getElem? (i := 183) (by decide +kernel), List.mem_of_getElem? (i := 559) (by decide +kernel), List.mem_of_getElem? (i := 560) (by decide +kernel)⟩
theorem lw_p11 : lw_okq (⟨"RingOffices$State", "comeNearer", "(I)V"⟩, 7) := ⟨⟨by decide +kernel, by decide +kernel⟩, List.mem_of_getElem? (i := 27) (by decide +kernel), List.mem_of_getElem? (i := 656) (by decide +kernel), List.mem_of_getElem? (i := 657) (by decide +kernel)⟩
theorem lw_p12 : lw_okq (⟨"RingOffices$State", "leave", "(II)V"⟩, 7) := ⟨⟨by decide +kernel, by decide +kernel⟩, List.mem_of_getElem? (i := 27) (by decide +kernel), List.mem_of_getElem? (i := 661) (by decide +kernel), List.mem_of_getElem? (i := 662) (by decide +kernel)⟩
theorem lw_p13 : lw_okq (⟨"RingOffices$State", "readOn", "(I)V"⟩, 7) := ⟨⟨by decide +kernel, by decide +kernel⟩, List.mem_of_getElem? (i := 27) (by decide +kernel), List.mem_of_getElem? (i := 673) (by decide +kernel), List.mem_of_getElem? (i := 674) (by decide +kernel)⟩
theorem lw_p14 : lw_okq (⟨"RingOffices$State", "endLetter", "(I)V"⟩, 7) := ⟨⟨by decide +kernel, by decide +kernel⟩, List.mem_of_getElem? (i := 27) (by decide +kernel), List.mem_of_getElem? (i := 677) (by decide +kernel), List.mem_of_getElem? (i := 678) (by decide +kernel)⟩
theorem lw_p15 : lw_okq (⟨"RingOffices$State", "beginOrSetOut", "(I)V"⟩, 7) := ⟨⟨by decide +kernel, by decide +kernel⟩, List.mem_of_getElem? (i := 27) (by decide +kernel), List.mem_of_getElem? (i := 687) (by decide +kernel), List.mem_of_getElem? (i := 688) (by decide +kernel)⟩
def lw_privs_1 : List (MethodName × Nat) := [(⟨"RingOffices$Scanner", "skipWhiteSpace", "()V"⟩, 5), (⟨"RingOffices$Scanner", "readNumeral", "()V"⟩, 5), (⟨"RingOffices$Scanner", "readWord", "()V"⟩, 5), (⟨"RingOffices$Scanner", "readOther", "(I)V"⟩, 5), (⟨"RingOffices$SetupParser", "parseRule", "(II)Z"⟩, 3), (⟨"RingOffices$SetupParser", "take", "(I)Z"⟩, 3), (⟨"RingOffices$SetupParser", "takeNumber", "(II)Z"⟩, 3), (⟨"RingOffices$SetupParser", "parseOffices", "()Z"⟩, 3), (⟨"RingOffices$SetupParser", "parseLetters", "()Z"⟩, 3), (⟨"RingOffices$SetupParser", "parseToken", "()Z"⟩, 3), (⟨"RingOffices$History", "copyTo", "(LRingOffices$State;)V"⟩, 3), (⟨"RingOffices$State", "comeNearer", "(I)V"⟩, 7), (⟨"RingOffices$State", "leave", "(II)V"⟩, 7), (⟨"RingOffices$State", "readOn", "(I)V"⟩, 7), (⟨"RingOffices$State", "endLetter", "(I)V"⟩, 7), (⟨"RingOffices$State", "beginOrSetOut", "(I)V"⟩, 7)]
theorem lw_r1 : ∀ q ∈ lw_privs_1, lw_okq q := List.forall_mem_cons.mpr ⟨lw_p0, List.forall_mem_cons.mpr ⟨lw_p1, List.forall_mem_cons.mpr ⟨lw_p2, List.forall_mem_cons.mpr ⟨lw_p3, List.forall_mem_cons.mpr ⟨lw_p4, List.forall_mem_cons.mpr ⟨lw_p5, List.forall_mem_cons.mpr ⟨lw_p6, List.forall_mem_cons.mpr ⟨lw_p7, List.forall_mem_cons.mpr ⟨lw_p8, List.forall_mem_cons.mpr ⟨lw_p9, List.forall_mem_cons.mpr ⟨lw_p10, List.forall_mem_cons.mpr ⟨lw_p11, List.forall_mem_cons.mpr ⟨lw_p12, List.forall_mem_cons.mpr ⟨lw_p13, List.forall_mem_cons.mpr ⟨lw_p14, List.forall_mem_cons.mpr ⟨lw_p15, fun _ h => absurd h List.not_mem_nil⟩⟩⟩⟩⟩⟩⟩⟩⟩⟩⟩⟩⟩⟩⟩⟩
theorem lw_p16 : lw_okq (⟨"RingOffices$State", "stayWithoutToken", "()V"⟩, 7) := ⟨⟨by decide +kernel, by decide +kernel⟩, List.mem_of_getElem? (i := 27) (by decide +kernel), List.mem_of_getElem? (i := 704) (by decide +kernel), List.mem_of_getElem? (i := 705) (by decide +kernel)⟩
theorem lw_p17 : lw_okq (⟨"RingOffices", "triedUntilDone", "(I)I"⟩, 8) := ⟨⟨by decide +kernel, by decide +kernel⟩, List.mem_of_getElem? (i := 19) (by decide +kernel), List.mem_of_getElem? (i := 820) (by decide +kernel), List.mem_of_getElem? (i := 821) (by decide +kernel)⟩
theorem lw_p18 : lw_okq (⟨"RingOffices", "triedMinutes", "(II)I"⟩, 8) := ⟨⟨by decide +kernel, by decide +kernel⟩, List.mem_of_getElem? (i := 19) (by decide +kernel), List.mem_of_getElem? (i := 831) (by decide +kernel), List.mem_of_getElem? (i := 832) (by decide +kernel)⟩
theorem lw_p19 : lw_okq (⟨"RingOffices", "writeList", "()V"⟩, 8) := ⟨⟨by decide +kernel, by decide +kernel⟩, List.mem_of_getElem? (i := 19) (by decide +kernel), List.mem_of_getElem? (i := 875) (by decide +kernel), List.mem_of_getElem? (i := 876) (by decide +kernel)⟩
theorem lw_p20 : lw_okq (⟨"RingOffices", "writeListLine", "(I)V"⟩, 8) := ⟨⟨by decide +kernel, by decide +kernel⟩, List.mem_of_getElem? (i := 19) (by decide +kernel), List.mem_of_getElem? (i := 879) (by decide +kernel), List.mem_of_getElem? (i := 880) (by decide +kernel)⟩
theorem lw_p21 : lw_okq (⟨"RingOffices", "writeSetup", "()V"⟩, 8) := ⟨⟨by decide +kernel, by decide +kernel⟩, List.mem_of_getElem? (i := 19) (by decide +kernel), List.mem_of_getElem? (i := 898) (by decide +kernel), List.mem_of_getElem? (i := 899) (by decide +kernel)⟩
theorem lw_p22 : lw_okq (⟨"RingOffices", "writeSetupOffice", "(I)V"⟩, 8) := ⟨⟨by decide +kernel, by decide +kernel⟩, List.mem_of_getElem? (i := 19) (by decide +kernel), List.mem_of_getElem? (i := 909) (by decide +kernel), List.mem_of_getElem? (i := 910) (by decide +kernel)⟩
theorem lw_p23 : lw_okq (⟨"RingOffices", "writeSetupLetters", "(I)V"⟩, 8) := ⟨⟨by decide +kernel, by decide +kernel⟩, List.mem_of_getElem? (i := 19) (by decide +kernel), List.mem_of_getElem? (i := 915) (by decide +kernel), List.mem_of_getElem? (i := 916) (by decide +kernel)⟩
theorem lw_p24 : lw_okq (⟨"RingOfficesModel", "next", "()V"⟩, 18) := ⟨⟨by decide +kernel, by decide +kernel⟩, List.mem_of_getElem? (i := 929) (by decide +kernel), List.mem_of_getElem? (i := 1017) (by decide +kernel), List.mem_of_getElem? (i := 1018) (by decide +kernel)⟩
theorem lw_p25 : lw_okq (⟨"RingOfficesModel", "isSmall", "(I)Z"⟩, 18) := ⟨⟨by decide +kernel, by decide +kernel⟩, List.mem_of_getElem? (i := 929) (by decide +kernel), List.mem_of_getElem? (i := 1021) (by decide +kernel), List.mem_of_getElem? (i := 1022) (by decide +kernel)⟩
theorem lw_p26 : lw_okq (⟨"RingOfficesModel", "nextWord", "()V"⟩, 18) := ⟨⟨by decide +kernel, by decide +kernel⟩, List.mem_of_getElem? (i := 929) (by decide +kernel), List.mem_of_getElem? (i := 1025) (by decide +kernel), List.mem_of_getElem? (i := 1026) (by decide +kernel)⟩
theorem lw_p27 : lw_okq (⟨"RingOfficesModel", "isDigit", "(I)Z"⟩, 18) := ⟨⟨by decide +kernel, by decide +kernel⟩, List.mem_of_getElem? (i := 929) (by decide +kernel), List.mem_of_getElem? (i := 1029) (by decide +kernel), List.mem_of_getElem? (i := 1030) (by decide +kernel)⟩
theorem lw_p28 : lw_okq (⟨"RingOfficesModel", "nextNumber", "()V"⟩, 18) := ⟨⟨by decide +kernel, by decide +kernel⟩, List.mem_of_getElem? (i := 929) (by decide +kernel), List.mem_of_getElem? (i := 1033) (by decide +kernel), List.mem_of_getElem? (i := 1034) (by decide +kernel)⟩
theorem lw_p29 : lw_okq (⟨"RingOfficesModel", "takesRule", "(II)I"⟩, 18) := ⟨⟨by decide +kernel, by decide +kernel⟩, List.mem_of_getElem? (i := 929) (by decide +kernel), List.mem_of_getElem? (i := 1038) (by decide +kernel), List.mem_of_getElem? (i := 1039) (by decide +kernel)⟩
theorem lw_p30 : lw_okq (⟨"RingOfficesModel", "is", "(I)Z"⟩, 18) := ⟨⟨by decide +kernel, by decide +kernel⟩, List.mem_of_getElem? (i := 929) (by decide +kernel), List.mem_of_getElem? (i := 1042) (by decide +kernel), List.mem_of_getElem? (i := 1043) (by decide +kernel)⟩
theorem lw_p31 : lw_okq (⟨"RingOfficesModel", "takes", "(Z)Z"⟩, 18) := ⟨⟨by decide +kernel, by decide +kernel⟩, List.mem_of_getElem? (i := 929) (by decide +kernel), List.mem_of_getElem? (i := 1046) (by decide +kernel), List.mem_of_getElem? (i := 1047) (by decide +kernel)⟩
def lw_privs_2 : List (MethodName × Nat) := [(⟨"RingOffices$State", "stayWithoutToken", "()V"⟩, 7), (⟨"RingOffices", "triedUntilDone", "(I)I"⟩, 8), (⟨"RingOffices", "triedMinutes", "(II)I"⟩, 8), (⟨"RingOffices", "writeList", "()V"⟩, 8), (⟨"RingOffices", "writeListLine", "(I)V"⟩, 8), (⟨"RingOffices", "writeSetup", "()V"⟩, 8), (⟨"RingOffices", "writeSetupOffice", "(I)V"⟩, 8), (⟨"RingOffices", "writeSetupLetters", "(I)V"⟩, 8), (⟨"RingOfficesModel", "next", "()V"⟩, 18), (⟨"RingOfficesModel", "isSmall", "(I)Z"⟩, 18), (⟨"RingOfficesModel", "nextWord", "()V"⟩, 18), (⟨"RingOfficesModel", "isDigit", "(I)Z"⟩, 18), (⟨"RingOfficesModel", "nextNumber", "()V"⟩, 18), (⟨"RingOfficesModel", "takesRule", "(II)I"⟩, 18), (⟨"RingOfficesModel", "is", "(I)Z"⟩, 18), (⟨"RingOfficesModel", "takes", "(Z)Z"⟩, 18)]
theorem lw_r2 : ∀ q ∈ lw_privs_2, lw_okq q := List.forall_mem_cons.mpr ⟨lw_p16, List.forall_mem_cons.mpr ⟨lw_p17, List.forall_mem_cons.mpr ⟨lw_p18, List.forall_mem_cons.mpr ⟨lw_p19, List.forall_mem_cons.mpr ⟨lw_p20, List.forall_mem_cons.mpr ⟨lw_p21, List.forall_mem_cons.mpr ⟨lw_p22, List.forall_mem_cons.mpr ⟨lw_p23, List.forall_mem_cons.mpr ⟨lw_p24, List.forall_mem_cons.mpr ⟨lw_p25, List.forall_mem_cons.mpr ⟨lw_p26, List.forall_mem_cons.mpr ⟨lw_p27, List.forall_mem_cons.mpr ⟨lw_p28, List.forall_mem_cons.mpr ⟨lw_p29, List.forall_mem_cons.mpr ⟨lw_p30, List.forall_mem_cons.mpr ⟨lw_p31, fun _ h => absurd h List.not_mem_nil⟩⟩⟩⟩⟩⟩⟩⟩⟩⟩⟩⟩⟩⟩⟩⟩
theorem lw_p32 : lw_okq (⟨"RingOfficesModel", "takesNumber", "(II)I"⟩, 18) := ⟨⟨by decide +kernel, by decide +kernel⟩, List.mem_of_getElem? (i := 929) (by decide +kernel), List.mem_of_getElem? (i := 1050) (by decide +kernel), List.mem_of_getElem? (i := 1051) (by decide +kernel)⟩
theorem lw_p33 : lw_okq (⟨"RingOfficesModel", "readOffice", "()V"⟩, 18) := ⟨⟨by decide +kernel, by decide +kernel⟩, List.mem_of_getElem? (i := 929) (by decide +kernel), List.mem_of_getElem? (i := 1060) (by decide +kernel), List.mem_of_getElem? (i := 1061) (by decide +kernel)⟩
theorem lw_p34 : lw_okq (⟨"RingOfficesModel", "readLetter", "()V"⟩, 18) := ⟨⟨by decide +kernel, by decide +kernel⟩, List.mem_of_getElem? (i := 929) (by decide +kernel), List.mem_of_getElem? (i := 1069) (by decide +kernel), List.mem_of_getElem? (i := 1070) (by decide +kernel)⟩
theorem lw_p35 : lw_okq (⟨"RingOfficesModel", "readToken", "()V"⟩, 18) := ⟨⟨by decide +kernel, by decide +kernel⟩, List.mem_of_getElem? (i := 929) (by decide +kernel), List.mem_of_getElem? (i := 1080) (by decide +kernel), List.mem_of_getElem? (i := 1081) (by decide +kernel)⟩
theorem lw_p36 : lw_okq (⟨"RingOfficesModel", "isOffice", "(I)Z"⟩, 18) := ⟨⟨by decide +kernel, by decide +kernel⟩, List.mem_of_getElem? (i := 929) (by decide +kernel), List.mem_of_getElem? (i := 1094) (by decide +kernel), List.mem_of_getElem? (i := 1095) (by decide +kernel)⟩
theorem lw_p37 : lw_okq (⟨"RingOfficesModel", "keepForUndo", "()V"⟩, 18) := ⟨⟨by decide +kernel, by decide +kernel⟩, List.mem_of_getElem? (i := 929) (by decide +kernel), List.mem_of_getElem? (i := 1098) (by decide +kernel), List.mem_of_getElem? (i := 1099) (by decide +kernel)⟩
theorem lw_p38 : lw_okq (⟨"RingOfficesModel", "leftAt", "(I)I"⟩, 18) := ⟨⟨by decide +kernel, by decide +kernel⟩, List.mem_of_getElem? (i := 929) (by decide +kernel), List.mem_of_getElem? (i := 1109) (by decide +kernel), List.mem_of_getElem? (i := 1110) (by decide +kernel)⟩
theorem lw_p39 : lw_okq (⟨"RingOfficesModel", "isToken", "(I)Z"⟩, 18) := ⟨⟨by decide +kernel, by decide +kernel⟩, List.mem_of_getElem? (i := 929) (by decide +kernel), List.mem_of_getElem? (i := 1139) (by decide +kernel), List.mem_of_getElem? (i := 1140) (by decide +kernel)⟩
theorem lw_p40 : lw_okq (⟨"RingOfficesModel", "openAll", "()I"⟩, 18) := ⟨⟨by decide +kernel, by decide +kernel⟩, List.mem_of_getElem? (i := 929) (by decide +kernel), List.mem_of_getElem? (i := 1223) (by decide +kernel), List.mem_of_getElem? (i := 1224) (by decide +kernel)⟩
theorem lw_p41 : lw_okq (⟨"RingOfficesModel", "lengthAll", "()I"⟩, 18) := ⟨⟨by decide +kernel, by decide +kernel⟩, List.mem_of_getElem? (i := 929) (by decide +kernel), List.mem_of_getElem? (i := 1230) (by decide +kernel), List.mem_of_getElem? (i := 1231) (by decide +kernel)⟩
theorem lw_p42 : lw_okq (⟨"RingOfficesModel", "lettersTo", "(I)I"⟩, 18) := ⟨⟨by decide +kernel, by decide +kernel⟩, List.mem_of_getElem? (i := 929) (by decide +kernel), List.mem_of_getElem? (i := 1241) (by decide +kernel), List.mem_of_getElem? (i := 1242) (by decide +kernel)⟩
theorem lw_p43 : lw_okq (⟨"RingOfficesModel", "takesSpare", "()V"⟩, 18) := ⟨⟨by decide +kernel, by decide +kernel⟩, List.mem_of_getElem? (i := 929) (by decide +kernel), List.mem_of_getElem? (i := 1273) (by decide +kernel), List.mem_of_getElem? (i := 1274) (by decide +kernel)⟩
theorem lw_p44 : lw_okq (⟨"RingOfficesModel", "doneInSpare", "()I"⟩, 18) := ⟨⟨by decide +kernel, by decide +kernel⟩, List.mem_of_getElem? (i := 929) (by decide +kernel), List.mem_of_getElem? (i := 1281) (by decide +kernel), List.mem_of_getElem? (i := 1282) (by decide +kernel)⟩
theorem lw_p45 : lw_okq (⟨"RingOfficesModel", "passed", "(II)I"⟩, 18) := ⟨⟨by decide +kernel, by decide +kernel⟩, List.mem_of_getElem? (i := 929) (by decide +kernel), List.mem_of_getElem? (i := 1295) (by decide +kernel), List.mem_of_getElem? (i := 1296) (by decide +kernel)⟩
theorem lw_p46 : lw_okq (⟨"RingOfficesModel", "layList", "()V"⟩, 18) := ⟨⟨by decide +kernel, by decide +kernel⟩, List.mem_of_getElem? (i := 929) (by decide +kernel), List.mem_of_getElem? (i := 1332) (by decide +kernel), List.mem_of_getElem? (i := 1333) (by decide +kernel)⟩
theorem lw_p47 : lw_okq (⟨"RingOfficesModel", "putsNumber", "(I)V"⟩, 18) := ⟨⟨by decide +kernel, by decide +kernel⟩, List.mem_of_getElem? (i := 929) (by decide +kernel), List.mem_of_getElem? (i := 1336) (by decide +kernel), List.mem_of_getElem? (i := 1337) (by decide +kernel)⟩
def lw_privs_3 : List (MethodName × Nat) := [(⟨"RingOfficesModel", "takesNumber", "(II)I"⟩, 18), (⟨"RingOfficesModel", "readOffice", "()V"⟩, 18), (⟨"RingOfficesModel", "readLetter", "()V"⟩, 18), (⟨"RingOfficesModel", "readToken", "()V"⟩, 18), (⟨"RingOfficesModel", "isOffice", "(I)Z"⟩, 18), (⟨"RingOfficesModel", "keepForUndo", "()V"⟩, 18), (⟨"RingOfficesModel", "leftAt", "(I)I"⟩, 18), (⟨"RingOfficesModel", "isToken", "(I)Z"⟩, 18), (⟨"RingOfficesModel", "openAll", "()I"⟩, 18), (⟨"RingOfficesModel", "lengthAll", "()I"⟩, 18), (⟨"RingOfficesModel", "lettersTo", "(I)I"⟩, 18), (⟨"RingOfficesModel", "takesSpare", "()V"⟩, 18), (⟨"RingOfficesModel", "doneInSpare", "()I"⟩, 18), (⟨"RingOfficesModel", "passed", "(II)I"⟩, 18), (⟨"RingOfficesModel", "layList", "()V"⟩, 18), (⟨"RingOfficesModel", "putsNumber", "(I)V"⟩, 18)]
theorem lw_r3 : ∀ q ∈ lw_privs_3, lw_okq q := List.forall_mem_cons.mpr ⟨lw_p32, List.forall_mem_cons.mpr ⟨lw_p33, List.forall_mem_cons.mpr ⟨lw_p34, List.forall_mem_cons.mpr ⟨lw_p35, List.forall_mem_cons.mpr ⟨lw_p36, List.forall_mem_cons.mpr ⟨lw_p37, List.forall_mem_cons.mpr ⟨lw_p38, List.forall_mem_cons.mpr ⟨lw_p39, List.forall_mem_cons.mpr ⟨lw_p40, List.forall_mem_cons.mpr ⟨lw_p41, List.forall_mem_cons.mpr ⟨lw_p42, List.forall_mem_cons.mpr ⟨lw_p43, List.forall_mem_cons.mpr ⟨lw_p44, List.forall_mem_cons.mpr ⟨lw_p45, List.forall_mem_cons.mpr ⟨lw_p46, List.forall_mem_cons.mpr ⟨lw_p47, fun _ h => absurd h List.not_mem_nil⟩⟩⟩⟩⟩⟩⟩⟩⟩⟩⟩⟩⟩⟩⟩⟩
theorem lw_p48 : lw_okq (⟨"RingOfficesModel", "puts", "(I)V"⟩, 18) := ⟨⟨by decide +kernel, by decide +kernel⟩, List.mem_of_getElem? (i := 929) (by decide +kernel), List.mem_of_getElem? (i := 1340) (by decide +kernel), List.mem_of_getElem? (i := 1341) (by decide +kernel)⟩
theorem lw_p49 : lw_okq (⟨"RingOfficesModel", "putsWith", "(II)V"⟩, 18) := ⟨⟨by decide +kernel, by decide +kernel⟩, List.mem_of_getElem? (i := 929) (by decide +kernel), List.mem_of_getElem? (i := 1344) (by decide +kernel), List.mem_of_getElem? (i := 1345) (by decide +kernel)⟩
theorem lw_p50 : lw_okq (⟨"RingOfficesModel", "writtenAt", "(I)I"⟩, 18) := ⟨⟨by decide +kernel, by decide +kernel⟩, List.mem_of_getElem? (i := 929) (by decide +kernel), List.mem_of_getElem? (i := 1352) (by decide +kernel), List.mem_of_getElem? (i := 1353) (by decide +kernel)⟩
theorem lw_p51 : lw_okq (⟨"RingOfficesModel", "laySetup", "()V"⟩, 18) := ⟨⟨by decide +kernel, by decide +kernel⟩, List.mem_of_getElem? (i := 929) (by decide +kernel), List.mem_of_getElem? (i := 1360) (by decide +kernel), List.mem_of_getElem? (i := 1361) (by decide +kernel)⟩
theorem lw_p52 : lw_okq (⟨"RingOfficesModel", "putsRule", "(II)V"⟩, 18) := ⟨⟨by decide +kernel, by decide +kernel⟩, List.mem_of_getElem? (i := 929) (by decide +kernel), List.mem_of_getElem? (i := 1364) (by decide +kernel), List.mem_of_getElem? (i := 1365) (by decide +kernel)⟩
theorem lw_p53 : lw_okq (⟨"RingOfficesModel", "putsWord", "(I)V"⟩, 18) := ⟨⟨by decide +kernel, by decide +kernel⟩, List.mem_of_getElem? (i := 929) (by decide +kernel), List.mem_of_getElem? (i := 1368) (by decide +kernel), List.mem_of_getElem? (i := 1369) (by decide +kernel)⟩
theorem lw_p54 : lw_okq (⟨"RingOfficesModel", "layLetters", "(I)V"⟩, 18) := ⟨⟨by decide +kernel, by decide +kernel⟩, List.mem_of_getElem? (i := 929) (by decide +kernel), List.mem_of_getElem? (i := 1372) (by decide +kernel), List.mem_of_getElem? (i := 1373) (by decide +kernel)⟩
def lw_privs_4 : List (MethodName × Nat) := [(⟨"RingOfficesModel", "puts", "(I)V"⟩, 18), (⟨"RingOfficesModel", "putsWith", "(II)V"⟩, 18), (⟨"RingOfficesModel", "writtenAt", "(I)I"⟩, 18), (⟨"RingOfficesModel", "laySetup", "()V"⟩, 18), (⟨"RingOfficesModel", "putsRule", "(II)V"⟩, 18), (⟨"RingOfficesModel", "putsWord", "(I)V"⟩, 18), (⟨"RingOfficesModel", "layLetters", "(I)V"⟩, 18)]
theorem lw_r4 : ∀ q ∈ lw_privs_4, lw_okq q := List.forall_mem_cons.mpr ⟨lw_p48, List.forall_mem_cons.mpr ⟨lw_p49, List.forall_mem_cons.mpr ⟨lw_p50, List.forall_mem_cons.mpr ⟨lw_p51, List.forall_mem_cons.mpr ⟨lw_p52, List.forall_mem_cons.mpr ⟨lw_p53, List.forall_mem_cons.mpr ⟨lw_p54, fun _ h => absurd h List.not_mem_nil⟩⟩⟩⟩⟩⟩⟩
def lw_privs : List (MethodName × Nat) := lw_privs_1 ++ (lw_privs_2 ++ (lw_privs_3 ++ (lw_privs_4)))
def lw_tbl : List Cond := k2_sels lw_privs ++ tables_1
theorem lw_privs_ok : ∀ q ∈ lw_privs, lw_okq q := by
  show ∀ q ∈ lw_privs_1 ++ (lw_privs_2 ++ (lw_privs_3 ++ (lw_privs_4))), lw_okq q
  exact List.forall_mem_append.mpr ⟨lw_r1, List.forall_mem_append.mpr ⟨lw_r2, List.forall_mem_append.mpr ⟨lw_r3, lw_r4⟩⟩⟩
/-- the streams that the claim lets the run draw from -/
abbrev lw_cs : List Choice := [Jvm.Choice.named "NaN.bits"]
theorem lw_bits : nanBits ∈ lw_cs := by first | decide | exact List.mem_cons_self | simp [lw_cs, nanBits]

/-! ===== BEGIN words of one list among another's, by their places ===== -/
theorem goodIn_r {big : List Cond} (ws : List Cond) (ps : List Nat) (hp : ws = ps.filterMap (fun i => big[i]?)) (h : ws.all goodWord = true) : GoodIn big ws := by
  intro w hw
  have h1 := List.all_eq_true.mp h w hw
  rw [hp] at hw
  obtain ⟨i, -, hi⟩ := List.mem_filterMap.mp hw
  have hm : w ∈ big := by first | exact List.mem_of_getElem? hi | exact List.getElem?_mem hi
  exact ⟨hm, good_of_word h1⟩
theorem goodIn_app {big a b : List Cond} (ha : GoodIn big a) (hb : GoodIn big b) : GoodIn big (a ++ b) := fun w h => (List.mem_append.mp h).elim (ha w) (hb w)
theorem goodIn_ca {big a b : List Cond} {c : Cond} (ha : GoodIn big (c :: a)) (hb : GoodIn big b) : GoodIn big (c :: (a ++ b)) := fun w h => (List.mem_cons.mp h).elim (fun e => ha w (List.mem_cons.mpr (Or.inl e))) (fun h => (List.mem_append.mp h).elim (fun h => ha w (List.mem_cons.mpr (Or.inr h))) (hb w))
theorem goodIn_sub {big ws : List Cond} (hm : ∀ w ∈ ws, w ∈ big) (h : ws.all goodWord = true) : GoodIn big ws := fun w hw => ⟨hm w hw, good_of_word (List.all_eq_true.mp h w hw)⟩
/-! ===== END ===== -/

/-! ===== BEGIN printed: names, fields, word lists, decode rows ===== -/
def RX0 : String := "RingOffices$History"
def TX0 : u_T := fun k => match k with
  | 0 => ("RingOffices$History", "states", "[LRingOffices$State;", true)
  | 1 => ("RingOffices$History", "next", "I", false)
  | _ => ("RingOffices$History", "count", "I", false)
def tyX0 : Nat → FieldType := fun k => match k with
  | 0 => .array (.object "RingOffices$State")
  | 1 => .int
  | _ => .int
abbrev wsX00 : List Cond := u_ws RX0 TX0 3
theorem nmX0 : ∀ a, a < 3 → ∀ b, b < 3 → a ≠ b → (TX0 a).2.1 ≠ (TX0 b).2.1 := by decide +kernel
theorem tyX0_ok : ∀ k, k < 3 → parseFieldDescriptor (TX0 k).2.2.1 = some (tyX0 k) := by decide +kernel
abbrev cX0_init : ByteArray := prog_2_method_1_code
def yX0_init : MethodName := ⟨RX0, "<init>", "()V"⟩
abbrev cX0_forget : ByteArray := prog_2_method_2_code
def yX0_forget : MethodName := ⟨RX0, "forget", "()V"⟩
abbrev cX0_remember : ByteArray := prog_2_method_3_code
def yX0_remember : MethodName := ⟨RX0, "remember", "(LRingOffices$State;)V"⟩
abbrev cX0_copyTo : ByteArray := prog_2_method_4_code
def yX0_copyTo : MethodName := ⟨RX0, "copyTo", "(LRingOffices$State;)V"⟩
abbrev cX0_takeBack : ByteArray := prog_2_method_5_code
def yX0_takeBack : MethodName := ⟨RX0, "takeBack", "(LRingOffices$State;)V"⟩
def RX1 : String := "RingOffices$Log"
def TX1 : u_T := fun k => match k with
  | 0 => ("RingOffices$Log", "kind", "[I", true)
  | 1 => ("RingOffices$Log", "first", "[I", true)
  | 2 => ("RingOffices$Log", "second", "[I", true)
  | 3 => ("RingOffices$Log", "oldest", "I", false)
  | _ => ("RingOffices$Log", "count", "I", false)
def tyX1 : Nat → FieldType := fun k => match k with
  | 0 => .array .int
  | 1 => .array .int
  | 2 => .array .int
  | 3 => .int
  | _ => .int
abbrev wsX10 : List Cond := u_ws RX1 TX1 5
theorem nmX1 : ∀ a, a < 5 → ∀ b, b < 5 → a ≠ b → (TX1 a).2.1 ≠ (TX1 b).2.1 := by decide +kernel
theorem tyX1_ok : ∀ k, k < 5 → parseFieldDescriptor (TX1 k).2.2.1 = some (tyX1 k) := by decide +kernel
abbrev cX1_init : ByteArray := prog_3_method_1_code
def yX1_init : MethodName := ⟨RX1, "<init>", "()V"⟩
abbrev cX1_copyFrom : ByteArray := prog_3_method_2_code
def yX1_copyFrom : MethodName := ⟨RX1, "copyFrom", "(LRingOffices$Log;)V"⟩
abbrev cX1_add : ByteArray := prog_3_method_3_code
def yX1_add : MethodName := ⟨RX1, "add", "(III)V"⟩
abbrev cX1_part : ByteArray := prog_3_method_4_code
def yX1_part : MethodName := ⟨RX1, "part", "(II)I"⟩
def RX2 : String := "RingOffices$Offices"
def TX2 : u_T := fun k => match k with
  | 0 => ("RingOffices$Offices", "way", "[I", true)
  | 1 => ("RingOffices$Offices", "name", "[I", true)
  | 2 => ("RingOffices$Offices", "open", "[I", true)
  | 3 => ("RingOffices$Offices", "spokenToday", "[I", true)
  | 4 => ("RingOffices$Offices", "readTo", "[I", true)
  | 5 => ("RingOffices$Offices", "waiting", "[I", true)
  | 6 => ("RingOffices$Offices", "letterTo", "[I", true)
  | 7 => ("RingOffices$Offices", "letterLength", "[I", true)
  | _ => ("RingOffices$Offices", "count", "I", false)
def tyX2 : Nat → FieldType := fun k => match k with
  | 0 => .array .int
  | 1 => .array .int
  | 2 => .array .int
  | 3 => .array .int
  | 4 => .array .int
  | 5 => .array .int
  | 6 => .array .int
  | 7 => .array .int
  | _ => .int
abbrev wsX20 : List Cond := u_ws RX2 TX2 9
theorem nmX2 : ∀ a, a < 9 → ∀ b, b < 9 → a ≠ b → (TX2 a).2.1 ≠ (TX2 b).2.1 := by decide +kernel
theorem tyX2_ok : ∀ k, k < 9 → parseFieldDescriptor (TX2 k).2.2.1 = some (tyX2 k) := by decide +kernel
abbrev cX2_init : ByteArray := prog_4_method_1_code
def yX2_init : MethodName := ⟨RX2, "<init>", "()V"⟩
abbrev cX2_copyFrom : ByteArray := prog_4_method_2_code
def yX2_copyFrom : MethodName := ⟨RX2, "copyFrom", "(LRingOffices$Offices;)V"⟩
abbrev cX2_add : ByteArray := prog_4_method_3_code
def yX2_add : MethodName := ⟨RX2, "add", "(III)V"⟩
abbrev cX2_has : ByteArray := prog_4_method_4_code
def yX2_has : MethodName := ⟨RX2, "has", "(I)Z"⟩
abbrev cX2_isOpen : ByteArray := prog_4_method_5_code
def yX2_isOpen : MethodName := ⟨RX2, "isOpen", "(I)Z"⟩
abbrev cX2_behind : ByteArray := prog_4_method_6_code
def yX2_behind : MethodName := ⟨RX2, "behind", "(I)I"⟩
abbrev cX2_isNameTaken : ByteArray := prog_4_method_7_code
def yX2_isNameTaken : MethodName := ⟨RX2, "isNameTaken", "(I)Z"⟩
abbrev cX2_openWithGreatestName : ByteArray := prog_4_method_8_code
def yX2_openWithGreatestName : MethodName := ⟨RX2, "openWithGreatestName", "()I"⟩
abbrev cX2_howManyOpen : ByteArray := prog_4_method_9_code
def yX2_howManyOpen : MethodName := ⟨RX2, "howManyOpen", "()I"⟩
abbrev cX2_beginDay : ByteArray := prog_4_method_10_code
def yX2_beginDay : MethodName := ⟨RX2, "beginDay", "()V"⟩
abbrev cX2_toOf : ByteArray := prog_4_method_11_code
def yX2_toOf : MethodName := ⟨RX2, "toOf", "(II)I"⟩
abbrev cX2_lengthOf : ByteArray := prog_4_method_12_code
def yX2_lengthOf : MethodName := ⟨RX2, "lengthOf", "(II)I"⟩
abbrev cX2_addLetter : ByteArray := prog_4_method_13_code
def yX2_addLetter : MethodName := ⟨RX2, "addLetter", "(III)V"⟩
abbrev cX2_removeLetter : ByteArray := prog_4_method_14_code
def yX2_removeLetter : MethodName := ⟨RX2, "removeLetter", "(II)V"⟩
abbrev cX2_lengthInQueue : ByteArray := prog_4_method_15_code
def yX2_lengthInQueue : MethodName := ⟨RX2, "lengthInQueue", "(I)I"⟩
abbrev cX2_lengthInAll : ByteArray := prog_4_method_16_code
def yX2_lengthInAll : MethodName := ⟨RX2, "lengthInAll", "()I"⟩
abbrev cX2_lettersInAll : ByteArray := prog_4_method_17_code
def yX2_lettersInAll : MethodName := ⟨RX2, "lettersInAll", "()I"⟩
abbrev cX2_lettersTo : ByteArray := prog_4_method_18_code
def yX2_lettersTo : MethodName := ⟨RX2, "lettersTo", "(I)I"⟩
def RX3 : String := "RingOffices$Scanner"
def TX3 : u_T := fun k => match k with
  | 0 => ("RingOffices$Scanner", "text", "LRingOffices$Text;", true)
  | 1 => ("RingOffices$Scanner", "start", "I", false)
  | 2 => ("RingOffices$Scanner", "end", "I", false)
  | 3 => ("RingOffices$Scanner", "kind", "I", false)
  | _ => ("RingOffices$Scanner", "number", "I", false)
def tyX3 : Nat → FieldType := fun k => match k with
  | 0 => .object "RingOffices$Text"
  | 1 => .int
  | 2 => .int
  | 3 => .int
  | _ => .int
abbrev wsX30 : List Cond := u_ws RX3 TX3 5
theorem nmX3 : ∀ a, a < 5 → ∀ b, b < 5 → a ≠ b → (TX3 a).2.1 ≠ (TX3 b).2.1 := by decide +kernel
theorem tyX3_ok : ∀ k, k < 5 → parseFieldDescriptor (TX3 k).2.2.1 = some (tyX3 k) := by decide +kernel
abbrev cX3_init : ByteArray := prog_5_method_1_code
def yX3_init : MethodName := ⟨RX3, "<init>", "()V"⟩
abbrev cX3_begin : ByteArray := prog_5_method_2_code
def yX3_begin : MethodName := ⟨RX3, "begin", "()V"⟩
abbrev cX3_advance : ByteArray := prog_5_method_3_code
def yX3_advance : MethodName := ⟨RX3, "advance", "()V"⟩
abbrev cX3_skipWhiteSpace : ByteArray := prog_5_method_4_code
def yX3_skipWhiteSpace : MethodName := ⟨RX3, "skipWhiteSpace", "()V"⟩
abbrev cX3_readNumeral : ByteArray := prog_5_method_5_code
def yX3_readNumeral : MethodName := ⟨RX3, "readNumeral", "()V"⟩
abbrev cX3_readWord : ByteArray := prog_5_method_6_code
def yX3_readWord : MethodName := ⟨RX3, "readWord", "()V"⟩
abbrev cX3_readOther : ByteArray := prog_5_method_7_code
def yX3_readOther : MethodName := ⟨RX3, "readOther", "(I)V"⟩
abbrev cX3_isWhiteSpace : ByteArray := prog_5_method_8_code
def yX3_isWhiteSpace : MethodName := ⟨RX3, "isWhiteSpace", "(I)Z"⟩
abbrev cX3_isDigit : ByteArray := prog_5_method_9_code
def yX3_isDigit : MethodName := ⟨RX3, "isDigit", "(I)Z"⟩
abbrev cX3_isSmallLetter : ByteArray := prog_5_method_10_code
def yX3_isSmallLetter : MethodName := ⟨RX3, "isSmallLetter", "(I)Z"⟩
abbrev cX3_keyword : ByteArray := prog_5_method_11_code
def yX3_keyword : MethodName := ⟨RX3, "keyword", "(I)Ljava/lang/String;"⟩
def RX4 : String := "RingOffices$SetupParser"
def TX4 : u_T := fun k => match k with
  | 0 => ("RingOffices$SetupParser", "scanner", "LRingOffices$Scanner;", true)
  | 1 => ("RingOffices$SetupParser", "draft", "LRingOffices$State;", true)
  | _ => ("RingOffices$SetupParser", "taken", "I", false)
def tyX4 : Nat → FieldType := fun k => match k with
  | 0 => .object "RingOffices$Scanner"
  | 1 => .object "RingOffices$State"
  | _ => .int
abbrev wsX40 : List Cond := u_ws RX4 TX4 3
theorem nmX4 : ∀ a, a < 3 → ∀ b, b < 3 → a ≠ b → (TX4 a).2.1 ≠ (TX4 b).2.1 := by decide +kernel
theorem tyX4_ok : ∀ k, k < 3 → parseFieldDescriptor (TX4 k).2.2.1 = some (tyX4 k) := by decide +kernel
abbrev cX4_init : ByteArray := prog_6_method_1_code
def yX4_init : MethodName := ⟨RX4, "<init>", "()V"⟩
abbrev cX4_parse : ByteArray := prog_6_method_2_code
def yX4_parse : MethodName := ⟨RX4, "parse", "()I"⟩
abbrev cX4_parseRule : ByteArray := prog_6_method_3_code
def yX4_parseRule : MethodName := ⟨RX4, "parseRule", "(II)Z"⟩
abbrev cX4_parseOffices : ByteArray := prog_6_method_4_code
def yX4_parseOffices : MethodName := ⟨RX4, "parseOffices", "()Z"⟩
abbrev cX4_parseLetters : ByteArray := prog_6_method_5_code
def yX4_parseLetters : MethodName := ⟨RX4, "parseLetters", "()Z"⟩
abbrev cX4_parseToken : ByteArray := prog_6_method_6_code
def yX4_parseToken : MethodName := ⟨RX4, "parseToken", "()Z"⟩
abbrev cX4_take : ByteArray := prog_6_method_7_code
def yX4_take : MethodName := ⟨RX4, "take", "(I)Z"⟩
abbrev cX4_takeNumber : ByteArray := prog_6_method_8_code
def yX4_takeNumber : MethodName := ⟨RX4, "takeNumber", "(II)Z"⟩
def RX5 : String := "RingOffices$Slots"
def TX5 : u_T := fun k => match k with
  | 0 => ("RingOffices$Slots", "states", "[LRingOffices$State;", true)
  | _ => ("RingOffices$Slots", "isFull", "[Z", true)
def tyX5 : Nat → FieldType := fun k => match k with
  | 0 => .array (.object "RingOffices$State")
  | _ => .array .boolean
abbrev wsX50 : List Cond := u_ws RX5 TX5 2
theorem nmX5 : ∀ a, a < 2 → ∀ b, b < 2 → a ≠ b → (TX5 a).2.1 ≠ (TX5 b).2.1 := by decide +kernel
theorem tyX5_ok : ∀ k, k < 2 → parseFieldDescriptor (TX5 k).2.2.1 = some (tyX5 k) := by decide +kernel
abbrev cX5_init : ByteArray := prog_7_method_1_code
def yX5_init : MethodName := ⟨RX5, "<init>", "()V"⟩
abbrev cX5_forget : ByteArray := prog_7_method_2_code
def yX5_forget : MethodName := ⟨RX5, "forget", "()V"⟩
abbrev cX5_fill : ByteArray := prog_7_method_3_code
def yX5_fill : MethodName := ⟨RX5, "fill", "(ILRingOffices$State;)V"⟩
abbrev cX5_keptIn : ByteArray := prog_7_method_4_code
def yX5_keptIn : MethodName := ⟨RX5, "keptIn", "(I)LRingOffices$State;"⟩
def RX6 : String := "RingOffices$State"
def TX6 : u_T := fun k => match k with
  | 0 => ("RingOffices$State", "rules", "[I", true)
  | 1 => ("RingOffices$State", "counts", "[I", true)
  | 2 => ("RingOffices$State", "offices", "LRingOffices$Offices;", true)
  | 3 => ("RingOffices$State", "tokens", "LRingOffices$Tokens;", true)
  | 4 => ("RingOffices$State", "log", "LRingOffices$Log;", true)
  | 5 => ("RingOffices$State", "time", "I", false)
  | _ => ("RingOffices$State", "silence", "I", false)
def tyX6 : Nat → FieldType := fun k => match k with
  | 0 => .array .int
  | 1 => .array .int
  | 2 => .object "RingOffices$Offices"
  | 3 => .object "RingOffices$Tokens"
  | 4 => .object "RingOffices$Log"
  | 5 => .int
  | _ => .int
abbrev wsX60 : List Cond := u_ws RX6 TX6 7
theorem nmX6 : ∀ a, a < 7 → ∀ b, b < 7 → a ≠ b → (TX6 a).2.1 ≠ (TX6 b).2.1 := by decide +kernel
theorem tyX6_ok : ∀ k, k < 7 → parseFieldDescriptor (TX6 k).2.2.1 = some (tyX6 k) := by decide +kernel
abbrev cX6_init : ByteArray := prog_8_method_1_code
def yX6_init : MethodName := ⟨RX6, "<init>", "()V"⟩
abbrev cX6_copyFrom : ByteArray := prog_8_method_2_code
def yX6_copyFrom : MethodName := ⟨RX6, "copyFrom", "(LRingOffices$State;)V"⟩
abbrev cX6_beginAsNew : ByteArray := prog_8_method_3_code
def yX6_beginAsNew : MethodName := ⟨RX6, "beginAsNew", "()V"⟩
abbrev cX6_clear : ByteArray := prog_8_method_4_code
def yX6_clear : MethodName := ⟨RX6, "clear", "()V"⟩
abbrev cX6_shutOrOpen : ByteArray := prog_8_method_5_code
def yX6_shutOrOpen : MethodName := ⟨RX6, "shutOrOpen", "(II)V"⟩
abbrev cX6_loseToken : ByteArray := prog_8_method_6_code
def yX6_loseToken : MethodName := ⟨RX6, "loseToken", "(I)V"⟩
abbrev cX6_tearUpWhereTwoMeet : ByteArray := prog_8_method_7_code
def yX6_tearUpWhereTwoMeet : MethodName := ⟨RX6, "tearUpWhereTwoMeet", "()V"⟩
abbrev cX6_passMinute : ByteArray := prog_8_method_8_code
def yX6_passMinute : MethodName := ⟨RX6, "passMinute", "()V"⟩
abbrev cX6_comeNearer : ByteArray := prog_8_method_9_code
def yX6_comeNearer : MethodName := ⟨RX6, "comeNearer", "(I)V"⟩
abbrev cX6_leave : ByteArray := prog_8_method_10_code
def yX6_leave : MethodName := ⟨RX6, "leave", "(II)V"⟩
abbrev cX6_readOn : ByteArray := prog_8_method_11_code
def yX6_readOn : MethodName := ⟨RX6, "readOn", "(I)V"⟩
abbrev cX6_endLetter : ByteArray := prog_8_method_12_code
def yX6_endLetter : MethodName := ⟨RX6, "endLetter", "(I)V"⟩
abbrev cX6_beginOrSetOut : ByteArray := prog_8_method_13_code
def yX6_beginOrSetOut : MethodName := ⟨RX6, "beginOrSetOut", "(I)V"⟩
abbrev cX6_fitsInTurn : ByteArray := prog_8_method_14_code
def yX6_fitsInTurn : MethodName := ⟨RX6, "fitsInTurn", "(II)Z"⟩
abbrev cX6_fitsInDay : ByteArray := prog_8_method_15_code
def yX6_fitsInDay : MethodName := ⟨RX6, "fitsInDay", "(I)Z"⟩
abbrev cX6_stayWithoutToken : ByteArray := prog_8_method_16_code
def yX6_stayWithoutToken : MethodName := ⟨RX6, "stayWithoutToken", "()V"⟩
def RX7 : String := "RingOffices$Text"
def TX7 : u_T := fun k => match k with
  | 0 => ("RingOffices$Text", "bytes", "[B", true)
  | _ => ("RingOffices$Text", "length", "I", false)
def tyX7 : Nat → FieldType := fun k => match k with
  | 0 => .array .byte
  | _ => .int
abbrev wsX70 : List Cond := u_ws RX7 TX7 2
theorem nmX7 : ∀ a, a < 2 → ∀ b, b < 2 → a ≠ b → (TX7 a).2.1 ≠ (TX7 b).2.1 := by decide +kernel
theorem tyX7_ok : ∀ k, k < 2 → parseFieldDescriptor (TX7 k).2.2.1 = some (tyX7 k) := by decide +kernel
abbrev cX7_init : ByteArray := prog_9_method_1_code
def yX7_init : MethodName := ⟨RX7, "<init>", "(I)V"⟩
abbrev cX7_byteAt : ByteArray := prog_9_method_2_code
def yX7_byteAt : MethodName := ⟨RX7, "byteAt", "(I)I"⟩
abbrev cX7_isWord : ByteArray := prog_9_method_3_code
def yX7_isWord : MethodName := ⟨RX7, "isWord", "(Ljava/lang/String;II)Z"⟩
abbrev cX7_add : ByteArray := prog_9_method_4_code
def yX7_add : MethodName := ⟨RX7, "add", "(I)V"⟩
abbrev cX7_addFourBytes : ByteArray := prog_9_method_5_code
def yX7_addFourBytes : MethodName := ⟨RX7, "addFourBytes", "(I)V"⟩
abbrev cX7_addWord : ByteArray := prog_9_method_6_code
def yX7_addWord : MethodName := ⟨RX7, "addWord", "(Ljava/lang/String;)V"⟩
abbrev cX7_addNumber : ByteArray := prog_9_method_7_code
def yX7_addNumber : MethodName := ⟨RX7, "addNumber", "(I)V"⟩
def RX8 : String := "RingOffices$Tokens"
def TX8 : u_T := fun k => match k with
  | 0 => ("RingOffices$Tokens", "number", "[I", true)
  | 1 => ("RingOffices$Tokens", "place", "[I", true)
  | 2 => ("RingOffices$Tokens", "togo", "[I", true)
  | 3 => ("RingOffices$Tokens", "turn", "[I", true)
  | 4 => ("RingOffices$Tokens", "left", "[I", true)
  | 5 => ("RingOffices$Tokens", "count", "I", false)
  | _ => ("RingOffices$Tokens", "lastNumber", "I", false)
def tyX8 : Nat → FieldType := fun k => match k with
  | 0 => .array .int
  | 1 => .array .int
  | 2 => .array .int
  | 3 => .array .int
  | 4 => .array .int
  | 5 => .int
  | _ => .int
abbrev wsX80 : List Cond := u_ws RX8 TX8 7
theorem nmX8 : ∀ a, a < 7 → ∀ b, b < 7 → a ≠ b → (TX8 a).2.1 ≠ (TX8 b).2.1 := by decide +kernel
theorem tyX8_ok : ∀ k, k < 7 → parseFieldDescriptor (TX8 k).2.2.1 = some (tyX8 k) := by decide +kernel
abbrev cX8_init : ByteArray := prog_10_method_1_code
def yX8_init : MethodName := ⟨RX8, "<init>", "()V"⟩
abbrev cX8_copyFrom : ByteArray := prog_10_method_2_code
def yX8_copyFrom : MethodName := ⟨RX8, "copyFrom", "(LRingOffices$Tokens;)V"⟩
abbrev cX8_has : ByteArray := prog_10_method_3_code
def yX8_has : MethodName := ⟨RX8, "has", "(I)Z"⟩
abbrev cX8_add : ByteArray := prog_10_method_4_code
def yX8_add : MethodName := ⟨RX8, "add", "(I)V"⟩
abbrev cX8_remove : ByteArray := prog_10_method_5_code
def yX8_remove : MethodName := ⟨RX8, "remove", "(I)V"⟩
abbrev cX8_setOut : ByteArray := prog_10_method_6_code
def yX8_setOut : MethodName := ⟨RX8, "setOut", "(III)V"⟩
abbrev cX8_isAt : ByteArray := prog_10_method_7_code
def yX8_isAt : MethodName := ⟨RX8, "isAt", "(II)Z"⟩
abbrev cX8_standingAt : ByteArray := prog_10_method_8_code
def yX8_standingAt : MethodName := ⟨RX8, "standingAt", "(I)I"⟩
abbrev cX8_firstStanding : ByteArray := prog_10_method_9_code
def yX8_firstStanding : MethodName := ⟨RX8, "firstStanding", "()I"⟩
abbrev cX8_leftAt : ByteArray := prog_10_method_10_code
def yX8_leftAt : MethodName := ⟨RX8, "leftAt", "(I)I"⟩
abbrev cX8_isFollowedThere : ByteArray := prog_10_method_11_code
def yX8_isFollowedThere : MethodName := ⟨RX8, "isFollowedThere", "(I)Z"⟩
abbrev cX8_howManySpeak : ByteArray := prog_10_method_12_code
def yX8_howManySpeak : MethodName := ⟨RX8, "howManySpeak", "()I"⟩
def RX9 : String := "RingOffices"
def TX9 : u_T := fun k => match k with
  | 0 => ("RingOffices", "now", "LRingOffices$State;", true)
  | 1 => ("RingOffices", "history", "LRingOffices$History;", true)
  | 2 => ("RingOffices", "slots", "LRingOffices$Slots;", true)
  | 3 => ("RingOffices", "parser", "LRingOffices$SetupParser;", true)
  | 4 => ("RingOffices", "tape", "LRingOffices$Text;", true)
  | 5 => ("RingOffices", "scratch", "LRingOffices$State;", true)
  | 6 => ("RingOffices", "page", "LRingOffices$Text;", true)
  | _ => ("RingOffices", "errorAt", "I", false)
def tyX9 : Nat → FieldType := fun k => match k with
  | 0 => .object "RingOffices$State"
  | 1 => .object "RingOffices$History"
  | 2 => .object "RingOffices$Slots"
  | 3 => .object "RingOffices$SetupParser"
  | 4 => .object "RingOffices$Text"
  | 5 => .object "RingOffices$State"
  | 6 => .object "RingOffices$Text"
  | _ => .int
abbrev wsX90 : List Cond := u_ws RX9 TX9 8
theorem nmX9 : ∀ a, a < 8 → ∀ b, b < 8 → a ≠ b → (TX9 a).2.1 ≠ (TX9 b).2.1 := by decide +kernel
theorem tyX9_ok : ∀ k, k < 8 → parseFieldDescriptor (TX9 k).2.2.1 = some (tyX9 k) := by decide +kernel
abbrev cX9_init : ByteArray := prog_1_method_1_code
def yX9_init : MethodName := ⟨RX9, "<init>", "()V"⟩
abbrev cX9_append : ByteArray := prog_1_method_2_code
def yX9_append : MethodName := ⟨RX9, "append", "(IIIII)I"⟩
abbrev cX9_truncate : ByteArray := prog_1_method_3_code
def yX9_truncate : MethodName := ⟨RX9, "truncate", "(I)I"⟩
abbrev cX9_load : ByteArray := prog_1_method_4_code
def yX9_load : MethodName := ⟨RX9, "load", "()I"⟩
abbrev cX9_errorPosition : ByteArray := prog_1_method_5_code
def yX9_errorPosition : MethodName := ⟨RX9, "errorPosition", "()I"⟩
abbrev cX9_letter : ByteArray := prog_1_method_6_code
def yX9_letter : MethodName := ⟨RX9, "letter", "(III)I"⟩
abbrev cX9_cancel : ByteArray := prog_1_method_7_code
def yX9_cancel : MethodName := ⟨RX9, "cancel", "(II)I"⟩
abbrev cX9_shut : ByteArray := prog_1_method_8_code
def yX9_shut : MethodName := ⟨RX9, "shut", "(II)I"⟩
abbrev cX9_lose : ByteArray := prog_1_method_9_code
def yX9_lose : MethodName := ⟨RX9, "lose", "(I)I"⟩
abbrev cX9_stray : ByteArray := prog_1_method_10_code
def yX9_stray : MethodName := ⟨RX9, "stray", "(I)I"⟩
abbrev cX9_minute : ByteArray := prog_1_method_11_code
def yX9_minute : MethodName := ⟨RX9, "minute", "(I)I"⟩
abbrev cX9_set : ByteArray := prog_1_method_12_code
def yX9_set : MethodName := ⟨RX9, "set", "(III)I"⟩
abbrev cX9_rule : ByteArray := prog_1_method_13_code
def yX9_rule : MethodName := ⟨RX9, "rule", "(II)I"⟩
abbrev cX9_keep : ByteArray := prog_1_method_14_code
def yX9_keep : MethodName := ⟨RX9, "keep", "(I)I"⟩
abbrev cX9_restore : ByteArray := prog_1_method_15_code
def yX9_restore : MethodName := ⟨RX9, "restore", "(I)I"⟩
abbrev cX9_undo : ByteArray := prog_1_method_16_code
def yX9_undo : MethodName := ⟨RX9, "undo", "()I"⟩
abbrev cX9_value : ByteArray := prog_1_method_17_code
def yX9_value : MethodName := ⟨RX9, "value", "(I)I"⟩
abbrev cX9_office : ByteArray := prog_1_method_18_code
def yX9_office : MethodName := ⟨RX9, "office", "(II)I"⟩
abbrev cX9_queue : ByteArray := prog_1_method_19_code
def yX9_queue : MethodName := ⟨RX9, "queue", "(III)I"⟩
abbrev cX9_token : ByteArray := prog_1_method_20_code
def yX9_token : MethodName := ⟨RX9, "token", "(II)I"⟩
abbrev cX9_winner : ByteArray := prog_1_method_21_code
def yX9_winner : MethodName := ⟨RX9, "winner", "()I"⟩
abbrev cX9_round : ByteArray := prog_1_method_22_code
def yX9_round : MethodName := ⟨RX9, "round", "()I"⟩
abbrev cX9_busiest : ByteArray := prog_1_method_23_code
def yX9_busiest : MethodName := ⟨RX9, "busiest", "()I"⟩
abbrev cX9_why : ByteArray := prog_1_method_24_code
def yX9_why : MethodName := ⟨RX9, "why", "(I)I"⟩
abbrev cX9_comesIn : ByteArray := prog_1_method_25_code
def yX9_comesIn : MethodName := ⟨RX9, "comesIn", "(I)I"⟩
abbrev cX9_doneIn : ByteArray := prog_1_method_26_code
def yX9_doneIn : MethodName := ⟨RX9, "doneIn", "()I"⟩
abbrev cX9_ifPassed : ByteArray := prog_1_method_27_code
def yX9_ifPassed : MethodName := ⟨RX9, "ifPassed", "(II)I"⟩
abbrev cX9_ifRule : ByteArray := prog_1_method_28_code
def yX9_ifRule : MethodName := ⟨RX9, "ifRule", "(IIII)I"⟩
abbrev cX9_ifShut : ByteArray := prog_1_method_29_code
def yX9_ifShut : MethodName := ⟨RX9, "ifShut", "(III)I"⟩
abbrev cX9_bestSpeak : ByteArray := prog_1_method_30_code
def yX9_bestSpeak : MethodName := ⟨RX9, "bestSpeak", "(I)I"⟩
abbrev cX9_leastQuota : ByteArray := prog_1_method_31_code
def yX9_leastQuota : MethodName := ⟨RX9, "leastQuota", "()I"⟩
abbrev cX9_log : ByteArray := prog_1_method_32_code
def yX9_log : MethodName := ⟨RX9, "log", "(II)I"⟩
abbrev cX9_spoken : ByteArray := prog_1_method_33_code
def yX9_spoken : MethodName := ⟨RX9, "spoken", "()F"⟩
abbrev cX9_meanLength : ByteArray := prog_1_method_34_code
def yX9_meanLength : MethodName := ⟨RX9, "meanLength", "()D"⟩
abbrev cX9_listLength : ByteArray := prog_1_method_35_code
def yX9_listLength : MethodName := ⟨RX9, "listLength", "()I"⟩
abbrev cX9_listByte : ByteArray := prog_1_method_36_code
def yX9_listByte : MethodName := ⟨RX9, "listByte", "(I)I"⟩
abbrev cX9_setupLength : ByteArray := prog_1_method_37_code
def yX9_setupLength : MethodName := ⟨RX9, "setupLength", "()I"⟩
abbrev cX9_setupByte : ByteArray := prog_1_method_38_code
def yX9_setupByte : MethodName := ⟨RX9, "setupByte", "(I)I"⟩
abbrev cX9_at : ByteArray := prog_1_method_39_code
def yX9_at : MethodName := ⟨RX9, "at", "([II)I"⟩
abbrev cX9_put : ByteArray := prog_1_method_40_code
def yX9_put : MethodName := ⟨RX9, "put", "([III)V"⟩
abbrev cX9_raise : ByteArray := prog_1_method_41_code
def yX9_raise : MethodName := ⟨RX9, "raise", "([II)V"⟩
abbrev cX9_copyRow : ByteArray := prog_1_method_42_code
def yX9_copyRow : MethodName := ⟨RX9, "copyRow", "([I[I)V"⟩
abbrev cX9_takeOut : ByteArray := prog_1_method_43_code
def yX9_takeOut : MethodName := ⟨RX9, "takeOut", "([III)V"⟩
abbrev cX9_isWithin : ByteArray := prog_1_method_44_code
def yX9_isWithin : MethodName := ⟨RX9, "isWithin", "(III)Z"⟩
abbrev cX9_mostOfRule : ByteArray := prog_1_method_45_code
def yX9_mostOfRule : MethodName := ⟨RX9, "mostOfRule", "(I)I"⟩
abbrev cX9_isRule : ByteArray := prog_1_method_46_code
def yX9_isRule : MethodName := ⟨RX9, "isRule", "(II)Z"⟩
abbrev cX9_isForesight : ByteArray := prog_1_method_47_code
def yX9_isForesight : MethodName := ⟨RX9, "isForesight", "(II)Z"⟩
abbrev cX9_countTold : ByteArray := prog_1_method_48_code
def yX9_countTold : MethodName := ⟨RX9, "countTold", "(I)I"⟩
abbrev cX9_triedMinutes : ByteArray := prog_1_method_49_code
def yX9_triedMinutes : MethodName := ⟨RX9, "triedMinutes", "(II)I"⟩
abbrev cX9_triedUntilDone : ByteArray := prog_1_method_50_code
def yX9_triedUntilDone : MethodName := ⟨RX9, "triedUntilDone", "(I)I"⟩
abbrev cX9_writeList : ByteArray := prog_1_method_51_code
def yX9_writeList : MethodName := ⟨RX9, "writeList", "()V"⟩
abbrev cX9_writeListLine : ByteArray := prog_1_method_52_code
def yX9_writeListLine : MethodName := ⟨RX9, "writeListLine", "(I)V"⟩
abbrev cX9_writeSetup : ByteArray := prog_1_method_53_code
def yX9_writeSetup : MethodName := ⟨RX9, "writeSetup", "()V"⟩
abbrev cX9_writeSetupOffice : ByteArray := prog_1_method_54_code
def yX9_writeSetupOffice : MethodName := ⟨RX9, "writeSetupOffice", "(I)V"⟩
abbrev cX9_writeSetupLetters : ByteArray := prog_1_method_55_code
def yX9_writeSetupLetters : MethodName := ⟨RX9, "writeSetupLetters", "(I)V"⟩
def RX10 : String := "RingOfficesModel"
def TX10 : u_T := fun k => match k with
  | 0 => ("RingOfficesModel", "now", "[I", true)
  | 1 => ("RingOfficesModel", "draft", "[I", true)
  | 2 => ("RingOfficesModel", "spare", "[I", true)
  | 3 => ("RingOfficesModel", "earlier", "[I", true)
  | 4 => ("RingOfficesModel", "slots", "[I", true)
  | 5 => ("RingOfficesModel", "isKept", "[Z", true)
  | 6 => ("RingOfficesModel", "undos", "I", false)
  | 7 => ("RingOfficesModel", "tape", "[I", true)
  | 8 => ("RingOfficesModel", "length", "I", false)
  | 9 => ("RingOfficesModel", "error", "I", false)
  | 10 => ("RingOfficesModel", "thrown", "I", false)
  | 11 => ("RingOfficesModel", "at", "I", false)
  | 12 => ("RingOfficesModel", "begin", "I", false)
  | 13 => ("RingOfficesModel", "kind", "I", false)
  | 14 => ("RingOfficesModel", "value", "I", false)
  | 15 => ("RingOfficesModel", "fails", "Z", false)
  | 16 => ("RingOfficesModel", "out", "[I", true)
  | _ => ("RingOfficesModel", "written", "I", false)
def tyX10 : Nat → FieldType := fun k => match k with
  | 0 => .array .int
  | 1 => .array .int
  | 2 => .array .int
  | 3 => .array .int
  | 4 => .array .int
  | 5 => .array .boolean
  | 6 => .int
  | 7 => .array .int
  | 8 => .int
  | 9 => .int
  | 10 => .int
  | 11 => .int
  | 12 => .int
  | 13 => .int
  | 14 => .int
  | 15 => .boolean
  | 16 => .array .int
  | _ => .int
abbrev wsX100 : List Cond := u_ws RX10 TX10 18
theorem nmX10 : ∀ a, a < 18 → ∀ b, b < 18 → a ≠ b → (TX10 a).2.1 ≠ (TX10 b).2.1 := by decide +kernel
theorem tyX10_ok : ∀ k, k < 18 → parseFieldDescriptor (TX10 k).2.2.1 = some (tyX10 k) := by decide +kernel
abbrev cX10_init : ByteArray := prog_12_method_1_code
def yX10_init : MethodName := ⟨RX10, "<init>", "()V"⟩
abbrev cX10_in : ByteArray := prog_12_method_3_code
def yX10_in : MethodName := ⟨RX10, "in", "(III)Z"⟩
abbrev cX10_layRow : ByteArray := prog_12_method_4_code
def yX10_layRow : MethodName := ⟨RX10, "layRow", "([II[II)V"⟩
abbrev cX10_takesSpare : ByteArray := prog_12_method_5_code
def yX10_takesSpare : MethodName := ⟨RX10, "takesSpare", "()V"⟩
abbrev cX10_officeAt : ByteArray := prog_12_method_6_code
def yX10_officeAt : MethodName := ⟨RX10, "officeAt", "(II)I"⟩
abbrev cX10_letterAt : ByteArray := prog_12_method_7_code
def yX10_letterAt : MethodName := ⟨RX10, "letterAt", "(III)I"⟩
abbrev cX10_tokenAt : ByteArray := prog_12_method_8_code
def yX10_tokenAt : MethodName := ⟨RX10, "tokenAt", "(II)I"⟩
abbrev cX10_isOffice : ByteArray := prog_12_method_9_code
def yX10_isOffice : MethodName := ⟨RX10, "isOffice", "(I)Z"⟩
abbrev cX10_isToken : ByteArray := prog_12_method_10_code
def yX10_isToken : MethodName := ⟨RX10, "isToken", "(I)Z"⟩
abbrev cX10_isAhead : ByteArray := prog_12_method_11_code
def yX10_isAhead : MethodName := ⟨RX10, "isAhead", "(I)Z"⟩
abbrev cX10_addOffice : ByteArray := prog_12_method_12_code
def yX10_addOffice : MethodName := ⟨RX10, "addOffice", "([IIII)V"⟩
abbrev cX10_addLetter : ByteArray := prog_12_method_13_code
def yX10_addLetter : MethodName := ⟨RX10, "addLetter", "([IIII)V"⟩
abbrev cX10_dropLetter : ByteArray := prog_12_method_14_code
def yX10_dropLetter : MethodName := ⟨RX10, "dropLetter", "([III)V"⟩
abbrev cX10_addToken : ByteArray := prog_12_method_15_code
def yX10_addToken : MethodName := ⟨RX10, "addToken", "([II)I"⟩
abbrev cX10_dropToken : ByteArray := prog_12_method_16_code
def yX10_dropToken : MethodName := ⟨RX10, "dropToken", "([II)V"⟩
abbrev cX10_isOpen : ByteArray := prog_12_method_17_code
def yX10_isOpen : MethodName := ⟨RX10, "isOpen", "([II)Z"⟩
abbrev cX10_isAt : ByteArray := prog_12_method_18_code
def yX10_isAt : MethodName := ⟨RX10, "isAt", "([III)Z"⟩
abbrev cX10_tokenOn : ByteArray := prog_12_method_19_code
def yX10_tokenOn : MethodName := ⟨RX10, "tokenOn", "([III)I"⟩
abbrev cX10_lettersAll : ByteArray := prog_12_method_20_code
def yX10_lettersAll : MethodName := ⟨RX10, "lettersAll", "([I)I"⟩
abbrev cX10_lengthOf : ByteArray := prog_12_method_21_code
def yX10_lengthOf : MethodName := ⟨RX10, "lengthOf", "([II)I"⟩
abbrev cX10_winnerOf : ByteArray := prog_12_method_22_code
def yX10_winnerOf : MethodName := ⟨RX10, "winnerOf", "([I)I"⟩
abbrev cX10_tells : ByteArray := prog_12_method_23_code
def yX10_tells : MethodName := ⟨RX10, "tells", "([IIII)V"⟩
abbrev cX10_setsOut : ByteArray := prog_12_method_24_code
def yX10_setsOut : MethodName := ⟨RX10, "setsOut", "([II)V"⟩
abbrev cX10_drives : ByteArray := prog_12_method_25_code
def yX10_drives : MethodName := ⟨RX10, "drives", "([II)V"⟩
abbrev cX10_speaks : ByteArray := prog_12_method_26_code
def yX10_speaks : MethodName := ⟨RX10, "speaks", "([II)V"⟩
abbrev cX10_isThrough : ByteArray := prog_12_method_27_code
def yX10_isThrough : MethodName := ⟨RX10, "isThrough", "([II)V"⟩
abbrev cX10_whyNot : ByteArray := prog_12_method_28_code
def yX10_whyNot : MethodName := ⟨RX10, "whyNot", "([III)I"⟩
abbrev cX10_begins : ByteArray := prog_12_method_29_code
def yX10_begins : MethodName := ⟨RX10, "begins", "([II)V"⟩
abbrev cX10_acts : ByteArray := prog_12_method_30_code
def yX10_acts : MethodName := ⟨RX10, "acts", "([II)V"⟩
abbrev cX10_tears : ByteArray := prog_12_method_31_code
def yX10_tears : MethodName := ⟨RX10, "tears", "([II)V"⟩
abbrev cX10_olderOne : ByteArray := prog_12_method_32_code
def yX10_olderOne : MethodName := ⟨RX10, "olderOne", "([I)I"⟩
abbrev cX10_speakers : ByteArray := prog_12_method_33_code
def yX10_speakers : MethodName := ⟨RX10, "speakers", "([I)I"⟩
abbrev cX10_elects : ByteArray := prog_12_method_34_code
def yX10_elects : MethodName := ⟨RX10, "elects", "([I)V"⟩
abbrev cX10_newDay : ByteArray := prog_12_method_35_code
def yX10_newDay : MethodName := ⟨RX10, "newDay", "([I)V"⟩
abbrev cX10_minutes : ByteArray := prog_12_method_36_code
def yX10_minutes : MethodName := ⟨RX10, "minutes", "([I)V"⟩
abbrev cX10_minutesMany : ByteArray := prog_12_method_37_code
def yX10_minutesMany : MethodName := ⟨RX10, "minutesMany", "([II)V"⟩
abbrev cX10_loses : ByteArray := prog_12_method_38_code
def yX10_loses : MethodName := ⟨RX10, "loses", "([II)V"⟩
abbrev cX10_shuts : ByteArray := prog_12_method_39_code
def yX10_shuts : MethodName := ⟨RX10, "shuts", "([III)I"⟩
abbrev cX10_append : ByteArray := prog_12_method_40_code
def yX10_append : MethodName := ⟨RX10, "append", "(IIIII)I"⟩
abbrev cX10_truncate : ByteArray := prog_12_method_41_code
def yX10_truncate : MethodName := ⟨RX10, "truncate", "(I)I"⟩
abbrev cX10_errorPosition : ByteArray := prog_12_method_42_code
def yX10_errorPosition : MethodName := ⟨RX10, "errorPosition", "()I"⟩
abbrev cX10_isSmall : ByteArray := prog_12_method_43_code
def yX10_isSmall : MethodName := ⟨RX10, "isSmall", "(I)Z"⟩
abbrev cX10_isDigit : ByteArray := prog_12_method_44_code
def yX10_isDigit : MethodName := ⟨RX10, "isDigit", "(I)Z"⟩
abbrev cX10_next : ByteArray := prog_12_method_45_code
def yX10_next : MethodName := ⟨RX10, "next", "()V"⟩
abbrev cX10_nextWord : ByteArray := prog_12_method_46_code
def yX10_nextWord : MethodName := ⟨RX10, "nextWord", "()V"⟩
abbrev cX10_nextNumber : ByteArray := prog_12_method_47_code
def yX10_nextNumber : MethodName := ⟨RX10, "nextNumber", "()V"⟩
abbrev cX10_is : ByteArray := prog_12_method_48_code
def yX10_is : MethodName := ⟨RX10, "is", "(I)Z"⟩
abbrev cX10_takes : ByteArray := prog_12_method_49_code
def yX10_takes : MethodName := ⟨RX10, "takes", "(Z)Z"⟩
abbrev cX10_takesNumber : ByteArray := prog_12_method_50_code
def yX10_takesNumber : MethodName := ⟨RX10, "takesNumber", "(II)I"⟩
abbrev cX10_takesRule : ByteArray := prog_12_method_51_code
def yX10_takesRule : MethodName := ⟨RX10, "takesRule", "(II)I"⟩
abbrev cX10_isNamed : ByteArray := prog_12_method_52_code
def yX10_isNamed : MethodName := ⟨RX10, "isNamed", "([II)Z"⟩
abbrev cX10_readOffice : ByteArray := prog_12_method_53_code
def yX10_readOffice : MethodName := ⟨RX10, "readOffice", "()V"⟩
abbrev cX10_readLetter : ByteArray := prog_12_method_54_code
def yX10_readLetter : MethodName := ⟨RX10, "readLetter", "()V"⟩
abbrev cX10_readToken : ByteArray := prog_12_method_55_code
def yX10_readToken : MethodName := ⟨RX10, "readToken", "()V"⟩
abbrev cX10_load : ByteArray := prog_12_method_56_code
def yX10_load : MethodName := ⟨RX10, "load", "()I"⟩
abbrev cX10_keepForUndo : ByteArray := prog_12_method_57_code
def yX10_keepForUndo : MethodName := ⟨RX10, "keepForUndo", "()V"⟩
abbrev cX10_letter : ByteArray := prog_12_method_58_code
def yX10_letter : MethodName := ⟨RX10, "letter", "(III)I"⟩
abbrev cX10_leftAt : ByteArray := prog_12_method_59_code
def yX10_leftAt : MethodName := ⟨RX10, "leftAt", "(I)I"⟩
abbrev cX10_cancel : ByteArray := prog_12_method_60_code
def yX10_cancel : MethodName := ⟨RX10, "cancel", "(II)I"⟩
abbrev cX10_shut : ByteArray := prog_12_method_61_code
def yX10_shut : MethodName := ⟨RX10, "shut", "(II)I"⟩
abbrev cX10_lose : ByteArray := prog_12_method_62_code
def yX10_lose : MethodName := ⟨RX10, "lose", "(I)I"⟩
abbrev cX10_stray : ByteArray := prog_12_method_63_code
def yX10_stray : MethodName := ⟨RX10, "stray", "(I)I"⟩
abbrev cX10_minute : ByteArray := prog_12_method_64_code
def yX10_minute : MethodName := ⟨RX10, "minute", "(I)I"⟩
abbrev cX10_set : ByteArray := prog_12_method_65_code
def yX10_set : MethodName := ⟨RX10, "set", "(III)I"⟩
abbrev cX10_isRule : ByteArray := prog_12_method_66_code
def yX10_isRule : MethodName := ⟨RX10, "isRule", "(II)Z"⟩
abbrev cX10_rule : ByteArray := prog_12_method_67_code
def yX10_rule : MethodName := ⟨RX10, "rule", "(II)I"⟩
abbrev cX10_keep : ByteArray := prog_12_method_68_code
def yX10_keep : MethodName := ⟨RX10, "keep", "(I)I"⟩
abbrev cX10_restore : ByteArray := prog_12_method_69_code
def yX10_restore : MethodName := ⟨RX10, "restore", "(I)I"⟩
abbrev cX10_undo : ByteArray := prog_12_method_70_code
def yX10_undo : MethodName := ⟨RX10, "undo", "()I"⟩
abbrev cX10_openAll : ByteArray := prog_12_method_71_code
def yX10_openAll : MethodName := ⟨RX10, "openAll", "()I"⟩
abbrev cX10_lengthAll : ByteArray := prog_12_method_72_code
def yX10_lengthAll : MethodName := ⟨RX10, "lengthAll", "()I"⟩
abbrev cX10_value : ByteArray := prog_12_method_73_code
def yX10_value : MethodName := ⟨RX10, "value", "(I)I"⟩
abbrev cX10_lettersTo : ByteArray := prog_12_method_74_code
def yX10_lettersTo : MethodName := ⟨RX10, "lettersTo", "(I)I"⟩
abbrev cX10_office : ByteArray := prog_12_method_75_code
def yX10_office : MethodName := ⟨RX10, "office", "(II)I"⟩
abbrev cX10_queue : ByteArray := prog_12_method_76_code
def yX10_queue : MethodName := ⟨RX10, "queue", "(III)I"⟩
abbrev cX10_token : ByteArray := prog_12_method_77_code
def yX10_token : MethodName := ⟨RX10, "token", "(II)I"⟩
abbrev cX10_winner : ByteArray := prog_12_method_78_code
def yX10_winner : MethodName := ⟨RX10, "winner", "()I"⟩
abbrev cX10_round : ByteArray := prog_12_method_79_code
def yX10_round : MethodName := ⟨RX10, "round", "()I"⟩
abbrev cX10_busiest : ByteArray := prog_12_method_80_code
def yX10_busiest : MethodName := ⟨RX10, "busiest", "()I"⟩
abbrev cX10_why : ByteArray := prog_12_method_81_code
def yX10_why : MethodName := ⟨RX10, "why", "(I)I"⟩
abbrev cX10_comesIn : ByteArray := prog_12_method_82_code
def yX10_comesIn : MethodName := ⟨RX10, "comesIn", "(I)I"⟩
abbrev cX10_doneInSpare : ByteArray := prog_12_method_83_code
def yX10_doneInSpare : MethodName := ⟨RX10, "doneInSpare", "()I"⟩
abbrev cX10_doneIn : ByteArray := prog_12_method_84_code
def yX10_doneIn : MethodName := ⟨RX10, "doneIn", "()I"⟩
abbrev cX10_isTold : ByteArray := prog_12_method_85_code
def yX10_isTold : MethodName := ⟨RX10, "isTold", "(I)Z"⟩
abbrev cX10_passed : ByteArray := prog_12_method_86_code
def yX10_passed : MethodName := ⟨RX10, "passed", "(II)I"⟩
abbrev cX10_ifPassed : ByteArray := prog_12_method_87_code
def yX10_ifPassed : MethodName := ⟨RX10, "ifPassed", "(II)I"⟩
abbrev cX10_ifRule : ByteArray := prog_12_method_88_code
def yX10_ifRule : MethodName := ⟨RX10, "ifRule", "(IIII)I"⟩
abbrev cX10_ifShut : ByteArray := prog_12_method_89_code
def yX10_ifShut : MethodName := ⟨RX10, "ifShut", "(III)I"⟩
abbrev cX10_bestSpeak : ByteArray := prog_12_method_90_code
def yX10_bestSpeak : MethodName := ⟨RX10, "bestSpeak", "(I)I"⟩
abbrev cX10_leastQuota : ByteArray := prog_12_method_91_code
def yX10_leastQuota : MethodName := ⟨RX10, "leastQuota", "()I"⟩
abbrev cX10_log : ByteArray := prog_12_method_92_code
def yX10_log : MethodName := ⟨RX10, "log", "(II)I"⟩
abbrev cX10_spoken : ByteArray := prog_12_method_93_code
def yX10_spoken : MethodName := ⟨RX10, "spoken", "()F"⟩
abbrev cX10_meanLength : ByteArray := prog_12_method_94_code
def yX10_meanLength : MethodName := ⟨RX10, "meanLength", "()D"⟩
abbrev cX10_puts : ByteArray := prog_12_method_95_code
def yX10_puts : MethodName := ⟨RX10, "puts", "(I)V"⟩
abbrev cX10_writtenAt : ByteArray := prog_12_method_96_code
def yX10_writtenAt : MethodName := ⟨RX10, "writtenAt", "(I)I"⟩
abbrev cX10_putsNumber : ByteArray := prog_12_method_97_code
def yX10_putsNumber : MethodName := ⟨RX10, "putsNumber", "(I)V"⟩
abbrev cX10_putsWith : ByteArray := prog_12_method_98_code
def yX10_putsWith : MethodName := ⟨RX10, "putsWith", "(II)V"⟩
abbrev cX10_layList : ByteArray := prog_12_method_99_code
def yX10_layList : MethodName := ⟨RX10, "layList", "()V"⟩
abbrev cX10_listLength : ByteArray := prog_12_method_100_code
def yX10_listLength : MethodName := ⟨RX10, "listLength", "()I"⟩
abbrev cX10_listByte : ByteArray := prog_12_method_101_code
def yX10_listByte : MethodName := ⟨RX10, "listByte", "(I)I"⟩
abbrev cX10_putsWord : ByteArray := prog_12_method_102_code
def yX10_putsWord : MethodName := ⟨RX10, "putsWord", "(I)V"⟩
abbrev cX10_putsRule : ByteArray := prog_12_method_103_code
def yX10_putsRule : MethodName := ⟨RX10, "putsRule", "(II)V"⟩
abbrev cX10_layLetters : ByteArray := prog_12_method_104_code
def yX10_layLetters : MethodName := ⟨RX10, "layLetters", "(I)V"⟩
abbrev cX10_laySetup : ByteArray := prog_12_method_105_code
def yX10_laySetup : MethodName := ⟨RX10, "laySetup", "()V"⟩
abbrev cX10_setupLength : ByteArray := prog_12_method_106_code
def yX10_setupLength : MethodName := ⟨RX10, "setupLength", "()I"⟩
abbrev cX10_setupByte : ByteArray := prog_12_method_107_code
def yX10_setupByte : MethodName := ⟨RX10, "setupByte", "(I)I"⟩
def RJ9 : String := "java/lang/Math"
def TJ9 : u_T := fun k => match k with
  | _ => ("", "", "", false)
def tyJ9 : Nat → FieldType := fun k => match k with
  | _ => .int
abbrev wsJ90 : List Cond := u_ws RJ9 TJ9 0
theorem nmJ9 : ∀ a, a < 0 → ∀ b, b < 0 → a ≠ b → (TJ9 a).2.1 ≠ (TJ9 b).2.1 := by decide +kernel
theorem tyJ9_ok : ∀ k, k < 0 → parseFieldDescriptor (TJ9 k).2.2.1 = some (tyJ9 k) := by decide +kernel
abbrev cJ9_min_7cf53 : ByteArray := prog_13_method_69_code
def yJ9_min_7cf53 : MethodName := ⟨RJ9, "min", "(II)I"⟩
def RJ0 : String := "java/lang/String"
def TJ0 : u_T := fun k => match k with
  | _ => ("", "", "", false)
def tyJ0 : Nat → FieldType := fun k => match k with
  | _ => .int
abbrev wsJ00 : List Cond := u_ws RJ0 TJ0 0
theorem nmJ0 : ∀ a, a < 0 → ∀ b, b < 0 → a ≠ b → (TJ0 a).2.1 ≠ (TJ0 b).2.1 := by decide +kernel
theorem tyJ0_ok : ∀ k, k < 0 → parseFieldDescriptor (TJ0 k).2.2.1 = some (tyJ0 k) := by decide +kernel
abbrev cJ0_length_8abf5 : ByteArray := prog_14_method_54_code
def yJ0_length_8abf5 : MethodName := ⟨RJ0, "length", "()I"⟩
abbrev cJ0_charAt_5068e : ByteArray := prog_14_method_56_code
def yJ0_charAt_5068e : MethodName := ⟨RJ0, "charAt", "(I)C"⟩
abbrev cJ0_coder_7d493 : ByteArray := prog_14_method_152_code
def yJ0_coder_7d493 : MethodName := ⟨RJ0, "coder", "()B"⟩
abbrev cJ0_isLatin1_aae02 : ByteArray := prog_14_method_154_code
def yJ0_isLatin1_aae02 : MethodName := ⟨RJ0, "isLatin1", "()Z"⟩
abbrev cJ0_checkIndex_df160 : ByteArray := prog_14_method_155_code
def yJ0_checkIndex_df160 : MethodName := ⟨RJ0, "checkIndex", "(II)V"⟩
def RJ1 : String := "java/lang/StringLatin1"
def TJ1 : u_T := fun k => match k with
  | _ => ("", "", "", false)
def tyJ1 : Nat → FieldType := fun k => match k with
  | _ => .int
abbrev wsJ10 : List Cond := u_ws RJ1 TJ1 0
theorem nmJ1 : ∀ a, a < 0 → ∀ b, b < 0 → a ≠ b → (TJ1 a).2.1 ≠ (TJ1 b).2.1 := by decide +kernel
theorem tyJ1_ok : ∀ k, k < 0 → parseFieldDescriptor (TJ1 k).2.2.1 = some (tyJ1 k) := by decide +kernel
abbrev cJ1_charAt_3b067 : ByteArray := prog_15_method_2_code
def yJ1_charAt_3b067 : MethodName := ⟨RJ1, "charAt", "([BI)C"⟩
def RJ2 : String := "java/lang/StringUTF16"
def TJ2 : u_T := fun k => match k with
  | _ => ("", "", "", false)
def tyJ2 : Nat → FieldType := fun k => match k with
  | _ => .int
abbrev wsJ20 : List Cond := u_ws RJ2 TJ2 0
theorem nmJ2 : ∀ a, a < 0 → ∀ b, b < 0 → a ≠ b → (TJ2 a).2.1 ≠ (TJ2 b).2.1 := by decide +kernel
theorem tyJ2_ok : ∀ k, k < 0 → parseFieldDescriptor (TJ2 k).2.2.1 = some (tyJ2 k) := by decide +kernel
abbrev cJ2_getChar_3b067 : ByteArray := prog_16_method_5_code
def yJ2_getChar_3b067 : MethodName := ⟨RJ2, "getChar", "([BI)C"⟩
abbrev cJ2_length_9d52b : ByteArray := prog_16_method_6_code
def yJ2_length_9d52b : MethodName := ⟨RJ2, "length", "([B)I"⟩
abbrev cJ2_charAt_3b067 : ByteArray := prog_16_method_83_code
def yJ2_charAt_3b067 : MethodName := ⟨RJ2, "charAt", "([BI)C"⟩
abbrev cJ2_checkIndex_2214a : ByteArray := prog_16_method_91_code
def yJ2_checkIndex_2214a : MethodName := ⟨RJ2, "checkIndex", "(I[B)V"⟩
def RJ10 : String := "java/lang/System"
def TJ10 : u_T := fun k => match k with
  | _ => ("", "", "", false)
def tyJ10 : Nat → FieldType := fun k => match k with
  | _ => .int
abbrev wsJ100 : List Cond := u_ws RJ10 TJ10 0
theorem nmJ10 : ∀ a, a < 0 → ∀ b, b < 0 → a ≠ b → (TJ10 a).2.1 ≠ (TJ10 b).2.1 := by decide +kernel
theorem tyJ10_ok : ∀ k, k < 0 → parseFieldDescriptor (TJ10 k).2.2.1 = some (tyJ10 k) := by decide +kernel
def RJ3 : String := "jdk/internal/util/Preconditions"
def TJ3 : u_T := fun k => match k with
  | _ => ("", "", "", false)
def tyJ3 : Nat → FieldType := fun k => match k with
  | _ => .int
abbrev wsJ30 : List Cond := u_ws RJ3 TJ3 0
theorem nmJ3 : ∀ a, a < 0 → ∀ b, b < 0 → a ≠ b → (TJ3 a).2.1 ≠ (TJ3 b).2.1 := by decide +kernel
theorem tyJ3_ok : ∀ k, k < 0 → parseFieldDescriptor (TJ3 k).2.2.1 = some (tyJ3 k) := by decide +kernel
abbrev cJ3_checkIndex_8e157 : ByteArray := prog_18_method_11_code
def yJ3_checkIndex_8e157 : MethodName := ⟨RJ3, "checkIndex", "(IILjava/util/function/BiFunction;)I"⟩
def RL : String := "RingOfficesLaw"
abbrev cL_law : ByteArray := code
def yL_law : MethodName := ⟨RL, "law", "([I)Z"⟩
def wsL_law_r1 : List Cond := [Cond.classLink RL 7 RX9, Cond.instantiable RX9 8, Cond.initialized RX9, Cond.classLink RL 10 RX10, Cond.instantiable RX10 18, Cond.initialized RX10, Cond.methodLink RL 9 yX9_init, Cond.instanceMethod yX9_init, Cond.code yX9_init cX9_init 1 none, Cond.methodLink RX9 1 objectInit, Cond.instanceMethod objectInit, Cond.code objectInit ⟨#[0xb1]⟩ 1 none, Cond.classLink RX9 7 RX6, Cond.instantiable RX6 7, Cond.initialized RX6, Cond.fieldLink RX9 10 "RingOffices" "now" "LRingOffices$State;", Cond.classLink RX9 16 RX0, Cond.instantiable RX0 3, Cond.initialized RX0, Cond.fieldLink RX9 19 "RingOffices" "history" "LRingOffices$History;", Cond.classLink RX9 23 RX5, Cond.instantiable RX5 2, Cond.initialized RX5, Cond.fieldLink RX9 26 "RingOffices" "slots" "LRingOffices$Slots;"]
def wsL_law_r2 : List Cond := [Cond.classLink RX9 30 RX4, Cond.instantiable RX4 3, Cond.initialized RX4, Cond.fieldLink RX9 33 "RingOffices" "parser" "LRingOffices$SetupParser;", Cond.fieldLink RX9 37 "RingOffices$SetupParser" "scanner" "LRingOffices$Scanner;", Cond.fieldLink RX9 41 "RingOffices$Scanner" "text" "LRingOffices$Text;", Cond.fieldLink RX9 47 "RingOffices" "tape" "LRingOffices$Text;", Cond.fieldLink RX9 50 "RingOffices$SetupParser" "draft" "LRingOffices$State;", Cond.fieldLink RX9 53 "RingOffices" "scratch" "LRingOffices$State;", Cond.classLink RX9 56 RX7, Cond.instantiable RX7 2, Cond.initialized RX7, Cond.fieldLink RX9 61 "RingOffices" "page" "LRingOffices$Text;", Cond.fieldLink RX9 64 "RingOffices" "errorAt" "I", Cond.instanceMethod yX6_init, Cond.code yX6_init cX6_init 1 none, Cond.methodLink RX6 3 objectInit, Cond.arrayClass .int, Cond.fieldLink RX6 9 "RingOffices$State" "rules" "[I", Cond.fieldLink RX6 15 "RingOffices$State" "counts" "[I", Cond.classLink RX6 18 RX2, Cond.instantiable RX2 9, Cond.initialized RX2, Cond.fieldLink RX6 21 "RingOffices$State" "offices" "LRingOffices$Offices;"]
def wsL_law_r3 : List Cond := [Cond.classLink RX6 25 RX8, Cond.instantiable RX8 7, Cond.initialized RX8, Cond.fieldLink RX6 28 "RingOffices$State" "tokens" "LRingOffices$Tokens;", Cond.classLink RX6 32 RX1, Cond.instantiable RX1 5, Cond.initialized RX1, Cond.fieldLink RX6 35 "RingOffices$State" "log" "LRingOffices$Log;", Cond.instanceMethod yX2_init, Cond.code yX2_init cX2_init 1 none, Cond.methodLink RX2 3 objectInit, Cond.fieldLink RX2 9 "RingOffices$Offices" "way" "[I", Cond.fieldLink RX2 15 "RingOffices$Offices" "name" "[I", Cond.fieldLink RX2 18 "RingOffices$Offices" "open" "[I", Cond.fieldLink RX2 21 "RingOffices$Offices" "spokenToday" "[I", Cond.fieldLink RX2 24 "RingOffices$Offices" "readTo" "[I", Cond.fieldLink RX2 27 "RingOffices$Offices" "waiting" "[I", Cond.fieldLink RX2 30 "RingOffices$Offices" "letterTo" "[I", Cond.fieldLink RX2 33 "RingOffices$Offices" "letterLength" "[I", Cond.instanceMethod yX8_init, Cond.code yX8_init cX8_init 1 none, Cond.methodLink RX8 3 objectInit, Cond.fieldLink RX8 9 "RingOffices$Tokens" "number" "[I", Cond.fieldLink RX8 15 "RingOffices$Tokens" "place" "[I"]
def wsL_law_r4 : List Cond := [Cond.fieldLink RX8 18 "RingOffices$Tokens" "togo" "[I", Cond.fieldLink RX8 21 "RingOffices$Tokens" "turn" "[I", Cond.fieldLink RX8 24 "RingOffices$Tokens" "left" "[I", Cond.instanceMethod yX1_init, Cond.code yX1_init cX1_init 1 none, Cond.methodLink RX1 3 objectInit, Cond.fieldLink RX1 9 "RingOffices$Log" "kind" "[I", Cond.fieldLink RX1 15 "RingOffices$Log" "first" "[I", Cond.fieldLink RX1 18 "RingOffices$Log" "second" "[I", Cond.methodLink RX9 18 yX0_init, Cond.instanceMethod yX0_init, Cond.code yX0_init cX0_init 2 none, Cond.methodLink RX0 3 objectInit, Cond.classLink RX0 9 RX6, Cond.fieldLink RX0 11 "RingOffices$History" "states" "[LRingOffices$State;", Cond.methodLink RX9 25 yX5_init, Cond.instanceMethod yX5_init, Cond.code yX5_init cX5_init 2 none, Cond.methodLink RX5 3 objectInit, Cond.classLink RX5 9 RX6, Cond.fieldLink RX5 11 "RingOffices$Slots" "states" "[LRingOffices$State;", Cond.arrayClass .boolean, Cond.fieldLink RX5 17 "RingOffices$Slots" "isFull" "[Z", Cond.instanceMethod yX4_init]
def wsL_law_r5 : List Cond := [Cond.code yX4_init cX4_init 1 none, Cond.methodLink RX4 3 objectInit, Cond.classLink RX4 9 RX3, Cond.instantiable RX3 5, Cond.initialized RX3, Cond.fieldLink RX4 12 "RingOffices$SetupParser" "scanner" "LRingOffices$Scanner;", Cond.classLink RX4 18 RX6, Cond.fieldLink RX4 21 "RingOffices$SetupParser" "draft" "LRingOffices$State;", Cond.instanceMethod yX3_init, Cond.code yX3_init cX3_init 1 none, Cond.methodLink RX3 3 objectInit, Cond.classLink RX3 9 RX7, Cond.fieldLink RX3 14 "RingOffices$Scanner" "text" "LRingOffices$Text;", Cond.methodLink RX3 11 yX7_init, Cond.instanceMethod yX7_init, Cond.code yX7_init cX7_init 2 none, Cond.methodLink RX7 3 objectInit, Cond.arrayClass .byte, Cond.fieldLink RX7 9 "RingOffices$Text" "bytes" "[B", Cond.methodLink RX9 58 yX7_init, Cond.methodLink RX9 68 yX6_beginAsNew, Cond.instanceMethod yX6_beginAsNew, Cond.selects RX6 yX6_beginAsNew yX6_beginAsNew, Cond.code yX6_beginAsNew cX6_beginAsNew 1 none]
def wsL_law_r6 : List Cond := [Cond.static yX9_put, Cond.code yX9_put cX9_put 3 none, Cond.methodLink RX6 64 yX2_add, Cond.instanceMethod yX2_add, Cond.selects RX2 yX2_add yX2_add, Cond.code yX2_add cX2_add 4 none, Cond.fieldLink RX2 40 "RingOffices$Offices" "count" "I", Cond.methodLink RX6 68 yX8_add, Cond.instanceMethod yX8_add, Cond.selects RX8 yX8_add yX8_add, Cond.code yX8_add cX8_add 2 none, Cond.fieldLink RX8 31 "RingOffices$Tokens" "count" "I", Cond.fieldLink RX8 35 "RingOffices$Tokens" "lastNumber" "I", Cond.methodLink RL 12 yX10_init, Cond.instanceMethod yX10_init, Cond.code yX10_init cX10_init 1 none, Cond.methodLink RX10 1 objectInit, Cond.fieldLink RX10 7 "RingOfficesModel" "now" "[I", Cond.fieldLink RX10 13 "RingOfficesModel" "draft" "[I", Cond.fieldLink RX10 16 "RingOfficesModel" "spare" "[I", Cond.fieldLink RX10 19 "RingOfficesModel" "earlier" "[I", Cond.fieldLink RX10 22 "RingOfficesModel" "slots" "[I", Cond.fieldLink RX10 25 "RingOfficesModel" "isKept" "[Z", Cond.fieldLink RX10 29 "RingOfficesModel" "tape" "[I"]
def wsL_law_r7 : List Cond := [Cond.fieldLink RX10 32 "RingOfficesModel" "error" "I", Cond.fieldLink RX10 36 "RingOfficesModel" "out" "[I", Cond.methodLink RX10 39 yX10_addOffice, Cond.static yX10_addOffice, Cond.code yX10_addOffice cX10_addOffice 6 none, Cond.methodLink RX10 54 yX10_officeAt, Cond.static yX10_officeAt, Cond.code yX10_officeAt cX10_officeAt 2 (some .int), Cond.methodLink RX10 43 yX10_addToken, Cond.static yX10_addToken, Cond.code yX10_addToken cX10_addToken 3 (some .int), Cond.methodLink RX10 66 yX10_tokenAt, Cond.static yX10_tokenAt, Cond.code yX10_tokenAt cX10_tokenAt 2 (some .int), Cond.methodLink RL 13 yX9_append, Cond.instanceMethod yX9_append, Cond.selects RX9 yX9_append yX9_append, Cond.code yX9_append cX9_append 6 (some .int), Cond.fieldLink RX9 71 "RingOffices$Text" "length" "I", Cond.methodLink RX9 74 yX7_addFourBytes, Cond.instanceMethod yX7_addFourBytes, Cond.selects RX7 yX7_addFourBytes yX7_addFourBytes, Cond.code yX7_addFourBytes cX7_addFourBytes 2 none, Cond.methodLink RX7 28 yX7_add]
def wsL_law_r8 : List Cond := [Cond.instanceMethod yX7_add, Cond.selects RX7 yX7_add yX7_add, Cond.code yX7_add cX7_add 2 none, Cond.fieldLink RX7 15 "RingOffices$Text" "length" "I", Cond.methodLink RL 17 yX10_append, Cond.instanceMethod yX10_append, Cond.selects RX10 yX10_append yX10_append, Cond.code yX10_append cX10_append 8 (some .int), Cond.fieldLink RX10 139 "RingOfficesModel" "length" "I", Cond.methodLink RL 18 yX9_truncate, Cond.instanceMethod yX9_truncate, Cond.selects RX9 yX9_truncate yX9_truncate, Cond.code yX9_truncate cX9_truncate 2 (some .int), Cond.methodLink RL 22 yX10_truncate, Cond.instanceMethod yX10_truncate, Cond.selects RX10 yX10_truncate yX10_truncate, Cond.code yX10_truncate cX10_truncate 2 (some .int), Cond.methodLink RL 23 yX9_load, Cond.instanceMethod yX9_load, Cond.selects RX9 yX9_load yX9_load, Cond.code yX9_load cX9_load 1 (some .int), Cond.fieldLink RX9 89 "RingOffices$State" "offices" "LRingOffices$Offices;", Cond.fieldLink RX9 93 "RingOffices$Offices" "count" "I", Cond.methodLink RX9 77 yX4_parse]
def wsL_law_r9 : List Cond := [Cond.instanceMethod yX4_parse, Cond.selects RX4 yX4_parse yX4_parse, Cond.code yX4_parse cX4_parse 2 (some .int), Cond.fieldLink RX4 49 "RingOffices$Scanner" "kind" "I", Cond.fieldLink RX4 53 "RingOffices$Scanner" "start" "I", Cond.methodLink RX4 25 yX6_clear, Cond.instanceMethod yX6_clear, Cond.selects RX6 yX6_clear yX6_clear, Cond.code yX6_clear cX6_clear 2 none, Cond.fieldLink RX6 71 "RingOffices$Offices" "count" "I", Cond.fieldLink RX6 74 "RingOffices$Tokens" "count" "I", Cond.fieldLink RX6 75 "RingOffices$Tokens" "lastNumber" "I", Cond.fieldLink RX6 78 "RingOffices$Log" "oldest" "I", Cond.fieldLink RX6 81 "RingOffices$Log" "count" "I", Cond.fieldLink RX6 53 "RingOffices$State" "time" "I", Cond.fieldLink RX6 57 "RingOffices$State" "silence" "I", Cond.methodLink RX4 28 yX3_begin, Cond.instanceMethod yX3_begin, Cond.selects RX3 yX3_begin yX3_begin, Cond.code yX3_begin cX3_begin 1 none, Cond.fieldLink RX3 20 "RingOffices$Scanner" "end" "I", Cond.methodLink RX3 24 yX3_advance, Cond.instanceMethod yX3_advance, Cond.selects RX3 yX3_advance yX3_advance]
def wsL_law_r10 : List Cond := [Cond.code yX3_advance cX3_advance 2 none, Cond.fieldLink RX3 30 "RingOffices$Scanner" "start" "I", Cond.fieldLink RX3 37 "RingOffices$Text" "length" "I", Cond.fieldLink RX3 40 "RingOffices$Scanner" "kind" "I", Cond.methodLink RX3 27 yX3_skipWhiteSpace, Cond.instanceMethod yX3_skipWhiteSpace, Cond.selects RX3 yX3_skipWhiteSpace yX3_skipWhiteSpace, Cond.code yX3_skipWhiteSpace cX3_skipWhiteSpace 1 none, Cond.methodLink RX3 33 yX7_byteAt, Cond.instanceMethod yX7_byteAt, Cond.selects RX7 yX7_byteAt yX7_byteAt, Cond.code yX7_byteAt cX7_byteAt 2 (some .int), Cond.methodLink RX3 59 yX3_isWhiteSpace, Cond.static yX3_isWhiteSpace, Cond.code yX3_isWhiteSpace cX3_isWhiteSpace 1 (some .boolean), Cond.methodLink RX3 43 yX3_isDigit, Cond.static yX3_isDigit, Cond.code yX3_isDigit cX3_isDigit 1 (some .boolean), Cond.methodLink RX3 47 yX3_readNumeral, Cond.instanceMethod yX3_readNumeral, Cond.selects RX3 yX3_readNumeral yX3_readNumeral, Cond.code yX3_readNumeral cX3_readNumeral 1 none, Cond.fieldLink RX3 62 "RingOffices$Scanner" "number" "I", Cond.methodLink RX3 50 yX3_isSmallLetter]
def wsL_law_r11 : List Cond := [Cond.static yX3_isSmallLetter, Cond.code yX3_isSmallLetter cX3_isSmallLetter 1 (some .boolean), Cond.methodLink RX3 53 yX3_readWord, Cond.instanceMethod yX3_readWord, Cond.selects RX3 yX3_readWord yX3_readWord, Cond.code yX3_readWord cX3_readWord 2 none, Cond.methodLink RX3 65 yX3_keyword, Cond.static yX3_keyword, Cond.code yX3_keyword cX3_keyword 1 (some (.object "java/lang/String")), Cond.methodLink RX3 69 yX7_isWord, Cond.instanceMethod yX7_isWord, Cond.selects RX7 yX7_isWord yX7_isWord, Cond.code yX7_isWord cX7_isWord 5 (some .boolean), Cond.methodLink RX7 19 yJ0_length_8abf5, Cond.instanceMethod yJ0_length_8abf5, Cond.selects RJ0 yJ0_length_8abf5 yJ0_length_8abf5, Cond.initialized RJ0, Cond.code yJ0_length_8abf5 cJ0_length_8abf5 1 (some .int), Cond.fieldLink RJ0 9 "java/lang/String" "value" "[B", Cond.methodLink RJ0 335 yJ0_coder_7d493, Cond.instanceMethod yJ0_coder_7d493, Cond.selects RJ0 yJ0_coder_7d493 yJ0_coder_7d493, Cond.code yJ0_coder_7d493 cJ0_coder_7d493 1 (some .byte), Cond.fieldLink RJ0 38 "java/lang/String" "COMPACT_STRINGS" "Z"]
def wsL_law_r12 : List Cond := [Cond.fieldLink RJ0 15 "java/lang/String" "coder" "B", Cond.methodLink RX7 24 yJ0_charAt_5068e, Cond.instanceMethod yJ0_charAt_5068e, Cond.selects RJ0 yJ0_charAt_5068e yJ0_charAt_5068e, Cond.code yJ0_charAt_5068e cJ0_charAt_5068e 2 (some .char), Cond.methodLink RJ0 492 yJ0_isLatin1_aae02, Cond.instanceMethod yJ0_isLatin1_aae02, Cond.selects RJ0 yJ0_isLatin1_aae02 yJ0_isLatin1_aae02, Cond.code yJ0_isLatin1_aae02 cJ0_isLatin1_aae02 1 (some .boolean), Cond.methodLink RJ0 495 yJ1_charAt_3b067, Cond.static yJ1_charAt_3b067, Cond.initialized RJ1, Cond.code yJ1_charAt_3b067 cJ1_charAt_3b067 2 (some .char), Cond.methodLink RJ1 9 yJ0_checkIndex_df160, Cond.static yJ0_checkIndex_df160, Cond.code yJ0_checkIndex_df160 cJ0_checkIndex_df160 2 none, Cond.fieldLink RJ0 1053 "jdk/internal/util/Preconditions" "SIOOBE_FORMATTER" "Ljava/util/function/BiFunction;", Cond.methodLink RJ0 1059 yJ3_checkIndex_8e157, Cond.static yJ3_checkIndex_8e157, Cond.initialized RJ3, Cond.code yJ3_checkIndex_8e157 cJ3_checkIndex_8e157 3 (some .int), Cond.methodLink RJ0 498 yJ2_charAt_3b067, Cond.static yJ2_charAt_3b067, Cond.initialized RJ2]
def wsL_law_r13 : List Cond := [Cond.code yJ2_charAt_3b067 cJ2_charAt_3b067 2 (some .char), Cond.methodLink RJ2 67 yJ2_checkIndex_2214a, Cond.static yJ2_checkIndex_2214a, Cond.code yJ2_checkIndex_2214a cJ2_checkIndex_2214a 2 none, Cond.methodLink RJ2 48 yJ2_length_9d52b, Cond.static yJ2_length_9d52b, Cond.code yJ2_length_9d52b cJ2_length_9d52b 1 (some .int), Cond.methodLink RJ2 414 yJ0_checkIndex_df160, Cond.methodLink RJ2 71 yJ2_getChar_3b067, Cond.static yJ2_getChar_3b067, Cond.code yJ2_getChar_3b067 cJ2_getChar_3b067 2 (some .char), Cond.fieldLink RJ2 44 "java/lang/StringUTF16" "$assertionsDisabled" "Z", Cond.fieldLink RJ2 59 "java/lang/StringUTF16" "HI_BYTE_SHIFT" "I", Cond.fieldLink RJ2 63 "java/lang/StringUTF16" "LO_BYTE_SHIFT" "I", Cond.methodLink RX3 56 yX3_readOther, Cond.instanceMethod yX3_readOther, Cond.selects RX3 yX3_readOther yX3_readOther, Cond.code yX3_readOther cX3_readOther 2 none, Cond.methodLink RX4 31 yX4_parseRule, Cond.instanceMethod yX4_parseRule, Cond.selects RX4 yX4_parseRule yX4_parseRule, Cond.code yX4_parseRule cX4_parseRule 3 (some .boolean), Cond.fieldLink RX4 63 "RingOffices$State" "rules" "[I", Cond.fieldLink RX4 67 "RingOffices$SetupParser" "taken" "I"]
def wsL_law_r14 : List Cond := [Cond.methodLink RX4 35 yX4_take, Cond.instanceMethod yX4_take, Cond.selects RX4 yX4_take yX4_take, Cond.code yX4_take cX4_take 2 (some .boolean), Cond.methodLink RX4 122 yX3_advance, Cond.static yX9_mostOfRule, Cond.code yX9_mostOfRule cX9_mostOfRule 1 (some .int), Cond.methodLink RX4 60 yX4_takeNumber, Cond.instanceMethod yX4_takeNumber, Cond.selects RX4 yX4_takeNumber yX4_takeNumber, Cond.code yX4_takeNumber cX4_takeNumber 3 (some .boolean), Cond.fieldLink RX4 78 "RingOffices$Scanner" "number" "I", Cond.static yX9_isWithin, Cond.code yX9_isWithin cX9_isWithin 3 (some .boolean), Cond.methodLink RX4 39 yX4_parseOffices, Cond.instanceMethod yX4_parseOffices, Cond.selects RX4 yX4_parseOffices yX4_parseOffices, Cond.code yX4_parseOffices cX4_parseOffices 5 (some .boolean), Cond.fieldLink RX4 74 "RingOffices$State" "offices" "LRingOffices$Offices;", Cond.fieldLink RX4 90 "RingOffices$Offices" "count" "I", Cond.methodLink RX4 81 yX2_isNameTaken, Cond.instanceMethod yX2_isNameTaken, Cond.selects RX2 yX2_isNameTaken yX2_isNameTaken, Cond.code yX2_isNameTaken cX2_isNameTaken 3 (some .boolean)]
def wsL_law_r15 : List Cond := [Cond.static yX9_at, Cond.code yX9_at cX9_at 2 (some .int), Cond.methodLink RX4 86 yX2_add, Cond.methodLink RX4 43 yX4_parseLetters, Cond.instanceMethod yX4_parseLetters, Cond.selects RX4 yX4_parseLetters yX4_parseLetters, Cond.code yX4_parseLetters cX4_parseLetters 5 (some .boolean), Cond.fieldLink RX4 93 "RingOffices$Offices" "waiting" "[I", Cond.fieldLink RX4 103 "RingOffices$State" "counts" "[I", Cond.methodLink RX4 100 yX2_addLetter, Cond.instanceMethod yX2_addLetter, Cond.selects RX2 yX2_addLetter yX2_addLetter, Cond.code yX2_addLetter cX2_addLetter 5 none, Cond.static yX9_raise, Cond.code yX9_raise cX9_raise 2 none, Cond.methodLink RX4 46 yX4_parseToken, Cond.instanceMethod yX4_parseToken, Cond.selects RX4 yX4_parseToken yX4_parseToken, Cond.code yX4_parseToken cX4_parseToken 1 (some .boolean), Cond.fieldLink RX4 113 "RingOffices$State" "tokens" "LRingOffices$Tokens;", Cond.methodLink RX4 110 yX2_isOpen, Cond.instanceMethod yX2_isOpen, Cond.selects RX2 yX2_isOpen yX2_isOpen, Cond.code yX2_isOpen cX2_isOpen 2 (some .boolean)]
def wsL_law_r16 : List Cond := [Cond.methodLink RX4 117 yX8_add, Cond.methodLink RX9 81 yX6_copyFrom, Cond.instanceMethod yX6_copyFrom, Cond.selects RX6 yX6_copyFrom yX6_copyFrom, Cond.code yX6_copyFrom cX6_copyFrom 2 none, Cond.static yX9_copyRow, Cond.code yX9_copyRow cX9_copyRow 2 none, Cond.methodLink RX9 291 Lib.Math.min.name, Cond.static Lib.Math.min.name, Cond.initialized "java/lang/Math", Cond.code Lib.Math.min.name Lib.Math.min.code 2 (some .int), Cond.methodLink RX9 296 arraycopyName, Cond.native arraycopyName, Cond.static arraycopyName, Cond.initialized "java/lang/System", Cond.methodLink RX6 43 yX2_copyFrom, Cond.instanceMethod yX2_copyFrom, Cond.selects RX2 yX2_copyFrom yX2_copyFrom, Cond.code yX2_copyFrom cX2_copyFrom 2 none, Cond.methodLink RX6 47 yX8_copyFrom, Cond.instanceMethod yX8_copyFrom, Cond.selects RX8 yX8_copyFrom yX8_copyFrom, Cond.code yX8_copyFrom cX8_copyFrom 2 none, Cond.methodLink RX6 50 yX1_copyFrom]
def wsL_law_r17 : List Cond := [Cond.instanceMethod yX1_copyFrom, Cond.selects RX1 yX1_copyFrom yX1_copyFrom, Cond.code yX1_copyFrom cX1_copyFrom 2 none, Cond.fieldLink RX1 25 "RingOffices$Log" "oldest" "I", Cond.fieldLink RX1 29 "RingOffices$Log" "count" "I", Cond.methodLink RX9 85 yX5_forget, Cond.instanceMethod yX5_forget, Cond.selects RX5 yX5_forget yX5_forget, Cond.code yX5_forget cX5_forget 2 none, Cond.methodLink RX9 88 yX0_forget, Cond.instanceMethod yX0_forget, Cond.selects RX0 yX0_forget yX0_forget, Cond.code yX0_forget cX0_forget 1 none, Cond.fieldLink RX0 18 "RingOffices$History" "count" "I", Cond.methodLink RL 27 yX10_load, Cond.instanceMethod yX10_load, Cond.selects RX10 yX10_load yX10_load, Cond.code yX10_load cX10_load 2 (some .int), Cond.fieldLink RX10 142 "RingOfficesModel" "at" "I", Cond.fieldLink RX10 167 "RingOfficesModel" "fails" "Z", Cond.constant RX10 192 (10415990), Cond.constant RX10 196 (9454556), Cond.constant RX10 197 (9459316), Cond.fieldLink RX10 151 "RingOfficesModel" "kind" "I"]
def wsL_law_r18 : List Cond := [Cond.constant RX10 184 (218546996), Cond.constant RX10 201 (175252482), Cond.constant RX10 205 (10932233), Cond.fieldLink RX10 209 "RingOfficesModel" "undos" "I", Cond.methodLink RX10 171 yX10_next, Cond.instanceMethod yX10_next, Cond.selects RX10 yX10_next yX10_next, Cond.code yX10_next cX10_next 1 none, Cond.fieldLink RX10 145 "RingOfficesModel" "begin" "I", Cond.fieldLink RX10 148 "RingOfficesModel" "value" "I", Cond.methodLink RX10 154 yX10_isSmall, Cond.instanceMethod yX10_isSmall, Cond.selects RX10 yX10_isSmall yX10_isSmall, Cond.code yX10_isSmall cX10_isSmall 2 (some .boolean), Cond.methodLink RX10 158 yX10_nextWord, Cond.instanceMethod yX10_nextWord, Cond.selects RX10 yX10_nextWord yX10_nextWord, Cond.code yX10_nextWord cX10_nextWord 1 none, Cond.methodLink RX10 161 yX10_isDigit, Cond.instanceMethod yX10_isDigit, Cond.selects RX10 yX10_isDigit yX10_isDigit, Cond.code yX10_isDigit cX10_isDigit 2 (some .boolean), Cond.methodLink RX10 164 yX10_nextNumber, Cond.instanceMethod yX10_nextNumber]
def wsL_law_r19 : List Cond := [Cond.selects RX10 yX10_nextNumber yX10_nextNumber, Cond.code yX10_nextNumber cX10_nextNumber 1 none, Cond.methodLink RX10 193 yX10_takesRule, Cond.instanceMethod yX10_takesRule, Cond.selects RX10 yX10_takesRule yX10_takesRule, Cond.code yX10_takesRule cX10_takesRule 3 (some .int), Cond.methodLink RX10 178 yX10_is, Cond.instanceMethod yX10_is, Cond.selects RX10 yX10_is yX10_is, Cond.code yX10_is cX10_is 2 (some .boolean), Cond.methodLink RX10 174 yX10_takes, Cond.instanceMethod yX10_takes, Cond.selects RX10 yX10_takes yX10_takes, Cond.code yX10_takes cX10_takes 2 (some .boolean), Cond.methodLink RX10 181 yX10_takesNumber, Cond.instanceMethod yX10_takesNumber, Cond.selects RX10 yX10_takesNumber yX10_takesNumber, Cond.code yX10_takesNumber cX10_takesNumber 4 (some .int), Cond.methodLink RX10 58 yX10_in, Cond.static yX10_in, Cond.code yX10_in cX10_in 3 (some .boolean), Cond.methodLink RX10 198 yX10_readOffice, Cond.instanceMethod yX10_readOffice, Cond.selects RX10 yX10_readOffice yX10_readOffice]
def wsL_law_r20 : List Cond := [Cond.code yX10_readOffice cX10_readOffice 4 none, Cond.constant RX10 188 (380396), Cond.methodLink RX10 185 yX10_isNamed, Cond.static yX10_isNamed, Cond.code yX10_isNamed cX10_isNamed 3 (some .boolean), Cond.methodLink RX10 202 yX10_readLetter, Cond.instanceMethod yX10_readLetter, Cond.selects RX10 yX10_readLetter yX10_readLetter, Cond.code yX10_readLetter cX10_readLetter 4 none, Cond.methodLink RX10 189 yX10_addLetter, Cond.static yX10_addLetter, Cond.code yX10_addLetter cX10_addLetter 5 none, Cond.methodLink RX10 62 yX10_letterAt, Cond.static yX10_letterAt, Cond.code yX10_letterAt cX10_letterAt 3 (some .int), Cond.methodLink RX10 206 yX10_readToken, Cond.instanceMethod yX10_readToken, Cond.selects RX10 yX10_readToken yX10_readToken, Cond.code yX10_readToken cX10_readToken 2 none, Cond.methodLink RX10 73 yX10_isOpen, Cond.static yX10_isOpen, Cond.code yX10_isOpen cX10_isOpen 2 (some .boolean), Cond.methodLink RX10 50 yX10_layRow, Cond.static yX10_layRow]
def wsL_law_r21 : List Cond := [Cond.code yX10_layRow cX10_layRow 5 none, Cond.methodLink RL 28 yX9_errorPosition, Cond.instanceMethod yX9_errorPosition, Cond.selects RX9 yX9_errorPosition yX9_errorPosition, Cond.code yX9_errorPosition cX9_errorPosition 1 (some .int), Cond.methodLink RL 31 yX10_errorPosition, Cond.instanceMethod yX10_errorPosition, Cond.selects RX10 yX10_errorPosition yX10_errorPosition, Cond.code yX10_errorPosition cX10_errorPosition 1 (some .int), Cond.methodLink RL 32 yX9_letter, Cond.instanceMethod yX9_letter, Cond.selects RX9 yX9_letter yX9_letter, Cond.code yX9_letter cX9_letter 5 (some .int), Cond.fieldLink RX9 106 "RingOffices$Offices" "waiting" "[I", Cond.fieldLink RX9 121 "RingOffices$State" "counts" "[I", Cond.fieldLink RX9 128 "RingOffices$State" "log" "LRingOffices$Log;", Cond.methodLink RX9 98 yX2_has, Cond.instanceMethod yX2_has, Cond.selects RX2 yX2_has yX2_has, Cond.code yX2_has cX2_has 2 (some .boolean), Cond.methodLink RX9 102 yX9_isWithin, Cond.methodLink RX9 110 yX9_at, Cond.methodLink RX9 114 yX0_remember, Cond.instanceMethod yX0_remember]
def wsL_law_r22 : List Cond := [Cond.selects RX0 yX0_remember yX0_remember, Cond.code yX0_remember cX0_remember 2 none, Cond.fieldLink RX0 26 "RingOffices$History" "next" "I", Cond.methodLink RX0 22 yX0_copyTo, Cond.instanceMethod yX0_copyTo, Cond.selects RX0 yX0_copyTo yX0_copyTo, Cond.code yX0_copyTo cX0_copyTo 3 none, Cond.methodLink RX0 29 yX6_copyFrom, Cond.methodLink RX9 117 yX2_addLetter, Cond.methodLink RX9 124 yX9_raise, Cond.methodLink RX9 132 yX1_add, Cond.instanceMethod yX1_add, Cond.selects RX1 yX1_add yX1_add, Cond.code yX1_add cX1_add 5 none, Cond.methodLink RL 36 yX10_letter, Cond.instanceMethod yX10_letter, Cond.selects RX10 yX10_letter yX10_letter, Cond.code yX10_letter cX10_letter 4 (some .int), Cond.methodLink RX10 212 yX10_isOffice, Cond.instanceMethod yX10_isOffice, Cond.selects RX10 yX10_isOffice yX10_isOffice, Cond.code yX10_isOffice cX10_isOffice 2 (some .boolean), Cond.methodLink RX10 215 yX10_keepForUndo, Cond.instanceMethod yX10_keepForUndo]
def wsL_law_r23 : List Cond := [Cond.selects RX10 yX10_keepForUndo yX10_keepForUndo, Cond.code yX10_keepForUndo cX10_keepForUndo 2 none, Cond.methodLink RX10 88 yX10_tells, Cond.static yX10_tells, Cond.code yX10_tells cX10_tells 5 none, Cond.methodLink RL 37 yX9_cancel, Cond.instanceMethod yX9_cancel, Cond.selects RX9 yX9_cancel yX9_cancel, Cond.code yX9_cancel cX9_cancel 5 (some .int), Cond.fieldLink RX9 137 "RingOffices$State" "tokens" "LRingOffices$Tokens;", Cond.methodLink RX9 141 yX8_leftAt, Cond.instanceMethod yX8_leftAt, Cond.selects RX8 yX8_leftAt yX8_leftAt, Cond.code yX8_leftAt cX8_leftAt 2 (some .int), Cond.methodLink RX8 57 yX8_standingAt, Cond.instanceMethod yX8_standingAt, Cond.selects RX8 yX8_standingAt yX8_standingAt, Cond.code yX8_standingAt cX8_standingAt 3 (some .int), Cond.methodLink RX8 53 yX8_isAt, Cond.instanceMethod yX8_isAt, Cond.selects RX8 yX8_isAt yX8_isAt, Cond.code yX8_isAt cX8_isAt 3 (some .boolean), Cond.methodLink RX9 147 yX2_lengthOf, Cond.instanceMethod yX2_lengthOf]
def wsL_law_r24 : List Cond := [Cond.selects RX2 yX2_lengthOf yX2_lengthOf, Cond.code yX2_lengthOf cX2_lengthOf 3 (some .int), Cond.methodLink RX9 151 yX2_removeLetter, Cond.instanceMethod yX2_removeLetter, Cond.selects RX2 yX2_removeLetter yX2_removeLetter, Cond.code yX2_removeLetter cX2_removeLetter 5 none, Cond.static yX9_takeOut, Cond.code yX9_takeOut cX9_takeOut 3 none, Cond.methodLink RL 41 yX10_cancel, Cond.instanceMethod yX10_cancel, Cond.selects RX10 yX10_cancel yX10_cancel, Cond.code yX10_cancel cX10_cancel 4 (some .int), Cond.methodLink RX10 218 yX10_leftAt, Cond.instanceMethod yX10_leftAt, Cond.selects RX10 yX10_leftAt yX10_leftAt, Cond.code yX10_leftAt cX10_leftAt 3 (some .int), Cond.methodLink RX10 107 yX10_tokenOn, Cond.static yX10_tokenOn, Cond.code yX10_tokenOn cX10_tokenOn 4 (some .int), Cond.methodLink RX10 69 yX10_isAt, Cond.static yX10_isAt, Cond.code yX10_isAt cX10_isAt 3 (some .boolean), Cond.methodLink RX10 84 yX10_dropLetter, Cond.static yX10_dropLetter]
def wsL_law_r25 : List Cond := [Cond.code yX10_dropLetter cX10_dropLetter 4 none, Cond.methodLink RL 42 yX9_shut, Cond.instanceMethod yX9_shut, Cond.selects RX9 yX9_shut yX9_shut, Cond.code yX9_shut cX9_shut 4 (some .int), Cond.fieldLink RX9 155 "RingOffices$Offices" "open" "[I", Cond.methodLink RX9 158 yX6_shutOrOpen, Cond.instanceMethod yX6_shutOrOpen, Cond.selects RX6 yX6_shutOrOpen yX6_shutOrOpen, Cond.code yX6_shutOrOpen cX6_shutOrOpen 4 none, Cond.fieldLink RX6 82 "RingOffices$Offices" "open" "[I", Cond.methodLink RX6 85 yX1_add, Cond.methodLink RX6 86 yX8_standingAt, Cond.methodLink RX6 90 yX6_loseToken, Cond.instanceMethod yX6_loseToken, Cond.selects RX6 yX6_loseToken yX6_loseToken, Cond.code yX6_loseToken cX6_loseToken 2 none, Cond.fieldLink RX6 93 "RingOffices$Tokens" "number" "[I", Cond.fieldLink RX6 100 "RingOffices$Tokens" "place" "[I", Cond.methodLink RX6 107 yX8_remove, Cond.instanceMethod yX8_remove, Cond.selects RX8 yX8_remove yX8_remove, Cond.code yX8_remove cX8_remove 2 none, Cond.methodLink RX8 42 yX8_has]
def wsL_law_r26 : List Cond := [Cond.instanceMethod yX8_has, Cond.selects RX8 yX8_has yX8_has, Cond.code yX8_has cX8_has 2 (some .boolean), Cond.methodLink RL 45 yX10_shut, Cond.instanceMethod yX10_shut, Cond.selects RX10 yX10_shut yX10_shut, Cond.code yX10_shut cX10_shut 3 (some .int), Cond.methodLink RX10 222 yX10_shuts, Cond.static yX10_shuts, Cond.code yX10_shuts cX10_shuts 5 (some .int), Cond.methodLink RX10 136 yX10_loses, Cond.static yX10_loses, Cond.code yX10_loses cX10_loses 2 none, Cond.methodLink RX10 104 yX10_dropToken, Cond.static yX10_dropToken, Cond.code yX10_dropToken cX10_dropToken 3 none, Cond.methodLink RL 46 yX9_lose, Cond.instanceMethod yX9_lose, Cond.selects RX9 yX9_lose yX9_lose, Cond.code yX9_lose cX9_lose 3 (some .int), Cond.fieldLink RX9 162 "RingOffices$Tokens" "number" "[I", Cond.methodLink RX9 161 yX8_has, Cond.methodLink RX9 165 yX6_loseToken, Cond.methodLink RL 49 yX10_lose]
def wsL_law_r27 : List Cond := [Cond.instanceMethod yX10_lose, Cond.selects RX10 yX10_lose yX10_lose, Cond.code yX10_lose cX10_lose 3 (some .int), Cond.methodLink RX10 225 yX10_isToken, Cond.instanceMethod yX10_isToken, Cond.selects RX10 yX10_isToken yX10_isToken, Cond.code yX10_isToken cX10_isToken 2 (some .boolean), Cond.methodLink RL 50 yX9_stray, Cond.instanceMethod yX9_stray, Cond.selects RX9 yX9_stray yX9_stray, Cond.code yX9_stray cX9_stray 3 (some .int), Cond.fieldLink RX9 171 "RingOffices$Tokens" "count" "I", Cond.fieldLink RX9 174 "RingOffices$Tokens" "lastNumber" "I", Cond.methodLink RX9 168 yX2_isOpen, Cond.methodLink RX9 172 yX8_add, Cond.methodLink RX9 177 yX6_tearUpWhereTwoMeet, Cond.instanceMethod yX6_tearUpWhereTwoMeet, Cond.selects RX6 yX6_tearUpWhereTwoMeet yX6_tearUpWhereTwoMeet, Cond.code yX6_tearUpWhereTwoMeet cX6_tearUpWhereTwoMeet 3 none, Cond.methodLink RX6 110 yX8_isFollowedThere, Cond.instanceMethod yX8_isFollowedThere, Cond.selects RX8 yX8_isFollowedThere yX8_isFollowedThere, Cond.code yX8_isFollowedThere cX8_isFollowedThere 3 (some .boolean), Cond.methodLink RL 53 yX10_stray]
def wsL_law_r28 : List Cond := [Cond.instanceMethod yX10_stray, Cond.selects RX10 yX10_stray yX10_stray, Cond.code yX10_stray cX10_stray 4 (some .int), Cond.methodLink RX10 124 yX10_tears, Cond.static yX10_tears, Cond.code yX10_tears cX10_tears 2 none, Cond.methodLink RL 54 yX9_minute, Cond.instanceMethod yX9_minute, Cond.selects RX9 yX9_minute yX9_minute, Cond.code yX9_minute cX9_minute 4 (some .int), Cond.fieldLink RX9 180 "RingOffices$State" "time" "I", Cond.methodLink RX9 183 yX6_passMinute, Cond.instanceMethod yX6_passMinute, Cond.selects RX6 yX6_passMinute yX6_passMinute, Cond.code yX6_passMinute cX6_passMinute 2 none, Cond.fieldLink RX6 117 "RingOffices$Tokens" "togo" "[I", Cond.fieldLink RX6 123 "RingOffices$Tokens" "left" "[I", Cond.methodLink RX6 114 yX2_beginDay, Cond.instanceMethod yX2_beginDay, Cond.selects RX2 yX2_beginDay yX2_beginDay, Cond.code yX2_beginDay cX2_beginDay 2 none, Cond.methodLink RX6 120 yX6_comeNearer, Cond.instanceMethod yX6_comeNearer, Cond.selects RX6 yX6_comeNearer yX6_comeNearer]
def wsL_law_r29 : List Cond := [Cond.code yX6_comeNearer cX6_comeNearer 4 none, Cond.methodLink RX6 142 yX2_isOpen, Cond.methodLink RX6 145 yX6_leave, Cond.instanceMethod yX6_leave, Cond.selects RX6 yX6_leave yX6_leave, Cond.code yX6_leave cX6_leave 3 none, Cond.fieldLink RX6 152 "RingOffices$Offices" "way" "[I", Cond.methodLink RX6 149 yX2_behind, Cond.instanceMethod yX2_behind, Cond.selects RX2 yX2_behind yX2_behind, Cond.code yX2_behind cX2_behind 2 (some .int), Cond.methodLink RX6 155 yX8_setOut, Cond.instanceMethod yX8_setOut, Cond.selects RX8 yX8_setOut yX8_setOut, Cond.code yX8_setOut cX8_setOut 4 none, Cond.methodLink RX6 126 yX6_readOn, Cond.instanceMethod yX6_readOn, Cond.selects RX6 yX6_readOn yX6_readOn, Cond.code yX6_readOn cX6_readOn 4 none, Cond.fieldLink RX6 158 "RingOffices$Tokens" "turn" "[I", Cond.fieldLink RX6 161 "RingOffices$Offices" "spokenToday" "[I", Cond.methodLink RX6 164 yX6_endLetter, Cond.instanceMethod yX6_endLetter, Cond.selects RX6 yX6_endLetter yX6_endLetter]
def wsL_law_r30 : List Cond := [Cond.code yX6_endLetter cX6_endLetter 4 none, Cond.fieldLink RX6 174 "RingOffices$Offices" "readTo" "[I", Cond.methodLink RX6 167 yX2_toOf, Cond.instanceMethod yX2_toOf, Cond.selects RX2 yX2_toOf yX2_toOf, Cond.code yX2_toOf cX2_toOf 3 (some .int), Cond.methodLink RX6 171 yX2_lengthOf, Cond.methodLink RX6 177 yX2_removeLetter, Cond.methodLink RX6 129 yX6_beginOrSetOut, Cond.instanceMethod yX6_beginOrSetOut, Cond.selects RX6 yX6_beginOrSetOut yX6_beginOrSetOut, Cond.code yX6_beginOrSetOut cX6_beginOrSetOut 4 none, Cond.fieldLink RX6 180 "RingOffices$Offices" "waiting" "[I", Cond.methodLink RX6 183 yX6_fitsInTurn, Cond.instanceMethod yX6_fitsInTurn, Cond.selects RX6 yX6_fitsInTurn yX6_fitsInTurn, Cond.code yX6_fitsInTurn cX6_fitsInTurn 3 (some .boolean), Cond.methodLink RX6 187 yX6_fitsInDay, Cond.instanceMethod yX6_fitsInDay, Cond.selects RX6 yX6_fitsInDay yX6_fitsInDay, Cond.code yX6_fitsInDay cX6_fitsInDay 2 (some .boolean), Cond.methodLink RX6 132 yX6_tearUpWhereTwoMeet, Cond.methodLink RX6 135 yX8_howManySpeak, Cond.instanceMethod yX8_howManySpeak]
def wsL_law_r31 : List Cond := [Cond.selects RX8 yX8_howManySpeak yX8_howManySpeak, Cond.code yX8_howManySpeak cX8_howManySpeak 3 (some .int), Cond.methodLink RX6 139 yX6_stayWithoutToken, Cond.instanceMethod yX6_stayWithoutToken, Cond.selects RX6 yX6_stayWithoutToken yX6_stayWithoutToken, Cond.code yX6_stayWithoutToken cX6_stayWithoutToken 2 none, Cond.methodLink RX6 190 yX2_openWithGreatestName, Cond.instanceMethod yX2_openWithGreatestName, Cond.selects RX2 yX2_openWithGreatestName yX2_openWithGreatestName, Cond.code yX2_openWithGreatestName cX2_openWithGreatestName 3 (some .int), Cond.methodLink RX2 52 yX2_isOpen, Cond.methodLink RL 57 yX10_minute, Cond.instanceMethod yX10_minute, Cond.selects RX10 yX10_minute yX10_minute, Cond.code yX10_minute cX10_minute 3 (some .int), Cond.methodLink RX10 228 yX10_minutesMany, Cond.static yX10_minutesMany, Cond.code yX10_minutesMany cX10_minutesMany 3 none, Cond.methodLink RX10 133 yX10_minutes, Cond.static yX10_minutes, Cond.code yX10_minutes cX10_minutes 2 none, Cond.methodLink RX10 114 yX10_newDay, Cond.static yX10_newDay, Cond.code yX10_newDay cX10_newDay 2 none]
def wsL_law_r32 : List Cond := [Cond.methodLink RX10 118 yX10_acts, Cond.static yX10_acts, Cond.code yX10_acts cX10_acts 2 none, Cond.methodLink RX10 95 yX10_drives, Cond.static yX10_drives, Cond.code yX10_drives cX10_drives 2 none, Cond.methodLink RX10 77 yX10_setsOut, Cond.static yX10_setsOut, Cond.code yX10_setsOut cX10_setsOut 3 none, Cond.methodLink RX10 98 yX10_speaks, Cond.static yX10_speaks, Cond.code yX10_speaks cX10_speaks 3 none, Cond.methodLink RX10 81 yX10_isThrough, Cond.static yX10_isThrough, Cond.code yX10_isThrough cX10_isThrough 4 none, Cond.methodLink RX10 101 yX10_begins, Cond.static yX10_begins, Cond.code yX10_begins cX10_begins 3 none, Cond.methodLink RX10 91 yX10_whyNot, Cond.static yX10_whyNot, Cond.code yX10_whyNot cX10_whyNot 4 (some .int), Cond.methodLink RX10 121 yX10_olderOne, Cond.static yX10_olderOne, Cond.code yX10_olderOne cX10_olderOne 2 (some .int)]
def wsL_law_r33 : List Cond := [Cond.methodLink RX10 127 yX10_speakers, Cond.static yX10_speakers, Cond.code yX10_speakers cX10_speakers 3 (some .int), Cond.methodLink RX10 130 yX10_elects, Cond.static yX10_elects, Cond.code yX10_elects cX10_elects 3 none, Cond.methodLink RX10 110 yX10_winnerOf, Cond.static yX10_winnerOf, Cond.code yX10_winnerOf cX10_winnerOf 3 (some .int), Cond.methodLink RL 58 yX9_set, Cond.instanceMethod yX9_set, Cond.selects RX9 yX9_set yX9_set, Cond.code yX9_set cX9_set 6 (some .int), Cond.fieldLink RX9 186 "RingOffices$Offices" "way" "[I", Cond.fieldLink RX9 189 "RingOffices$Offices" "name" "[I", Cond.methodLink RX9 192 yX2_isNameTaken, Cond.methodLink RX9 195 yX9_put, Cond.methodLink RL 61 yX10_set, Cond.instanceMethod yX10_set, Cond.selects RX10 yX10_set yX10_set, Cond.code yX10_set cX10_set 5 (some .int), Cond.methodLink RL 62 yX9_rule, Cond.instanceMethod yX9_rule, Cond.selects RX9 yX9_rule yX9_rule]
def wsL_law_r34 : List Cond := [Cond.code yX9_rule cX9_rule 4 (some .int), Cond.fieldLink RX9 203 "RingOffices$State" "rules" "[I", Cond.methodLink RX9 199 yX9_isRule, Cond.static yX9_isRule, Cond.code yX9_isRule cX9_isRule 2 (some .boolean), Cond.methodLink RX9 302 yX9_mostOfRule, Cond.methodLink RL 65 yX10_rule, Cond.instanceMethod yX10_rule, Cond.selects RX10 yX10_rule yX10_rule, Cond.code yX10_rule cX10_rule 4 (some .int), Cond.methodLink RX10 231 yX10_isRule, Cond.static yX10_isRule, Cond.code yX10_isRule cX10_isRule 2 (some .boolean), Cond.methodLink RL 66 yX9_keep, Cond.instanceMethod yX9_keep, Cond.selects RX9 yX9_keep yX9_keep, Cond.code yX9_keep cX9_keep 2 (some .int), Cond.methodLink RX9 206 yX5_fill, Cond.instanceMethod yX5_fill, Cond.selects RX5 yX5_fill yX5_fill, Cond.code yX5_fill cX5_fill 4 none, Cond.methodLink RX5 22 yX6_copyFrom, Cond.methodLink RL 69 yX10_keep, Cond.instanceMethod yX10_keep]
def wsL_law_r35 : List Cond := [Cond.selects RX10 yX10_keep yX10_keep, Cond.code yX10_keep cX10_keep 2 (some .int), Cond.methodLink RL 70 yX9_restore, Cond.instanceMethod yX9_restore, Cond.selects RX9 yX9_restore yX9_restore, Cond.code yX9_restore cX9_restore 3 (some .int), Cond.methodLink RX9 210 yX5_keptIn, Cond.instanceMethod yX5_keptIn, Cond.selects RX5 yX5_keptIn yX5_keptIn, Cond.code yX5_keptIn cX5_keptIn 2 (some (.object "RingOffices$State")), Cond.methodLink RL 73 yX10_restore, Cond.instanceMethod yX10_restore, Cond.selects RX10 yX10_restore yX10_restore, Cond.code yX10_restore cX10_restore 2 (some .int), Cond.methodLink RL 74 yX9_undo, Cond.instanceMethod yX9_undo, Cond.selects RX9 yX9_undo yX9_undo, Cond.code yX9_undo cX9_undo 1 (some .int), Cond.fieldLink RX9 214 "RingOffices$History" "count" "I", Cond.methodLink RX9 215 yX0_takeBack, Cond.instanceMethod yX0_takeBack, Cond.selects RX0 yX0_takeBack yX0_takeBack, Cond.code yX0_takeBack cX0_takeBack 3 none, Cond.methodLink RL 77 yX10_undo]
def wsL_law_r36 : List Cond := [Cond.instanceMethod yX10_undo, Cond.selects RX10 yX10_undo yX10_undo, Cond.code yX10_undo cX10_undo 1 (some .int), Cond.methodLink RL 78 yX9_value, Cond.instanceMethod yX9_value, Cond.selects RX9 yX9_value yX9_value, Cond.code yX9_value cX9_value 2 (some .int), Cond.fieldLink RX9 221 "RingOffices$State" "silence" "I", Cond.fieldLink RX9 230 "RingOffices$Log" "count" "I", Cond.methodLink RX9 218 yX2_howManyOpen, Cond.instanceMethod yX2_howManyOpen, Cond.selects RX2 yX2_howManyOpen yX2_howManyOpen, Cond.code yX2_howManyOpen cX2_howManyOpen 3 (some .int), Cond.methodLink RX9 224 yX2_lettersInAll, Cond.instanceMethod yX2_lettersInAll, Cond.selects RX2 yX2_lettersInAll yX2_lettersInAll, Cond.code yX2_lettersInAll cX2_lettersInAll 3 (some .int), Cond.methodLink RX9 227 yX2_lengthInAll, Cond.instanceMethod yX2_lengthInAll, Cond.selects RX2 yX2_lengthInAll yX2_lengthInAll, Cond.code yX2_lengthInAll cX2_lengthInAll 3 (some .int), Cond.methodLink RX2 63 yX2_lengthInQueue, Cond.instanceMethod yX2_lengthInQueue, Cond.selects RX2 yX2_lengthInQueue yX2_lengthInQueue]
def wsL_law_r37 : List Cond := [Cond.code yX2_lengthInQueue cX2_lengthInQueue 4 (some .int), Cond.methodLink RX2 59 yX2_lengthOf, Cond.methodLink RL 81 yX10_value, Cond.instanceMethod yX10_value, Cond.selects RX10 yX10_value yX10_value, Cond.code yX10_value cX10_value 2 (some .int), Cond.methodLink RX10 238 yX10_openAll, Cond.instanceMethod yX10_openAll, Cond.selects RX10 yX10_openAll yX10_openAll, Cond.code yX10_openAll cX10_openAll 3 (some .int), Cond.methodLink RX10 242 yX10_lettersAll, Cond.static yX10_lettersAll, Cond.code yX10_lettersAll cX10_lettersAll 3 (some .int), Cond.methodLink RX10 245 yX10_lengthAll, Cond.instanceMethod yX10_lengthAll, Cond.selects RX10 yX10_lengthAll yX10_lengthAll, Cond.code yX10_lengthAll cX10_lengthAll 3 (some .int), Cond.methodLink RX10 235 yX10_lengthOf, Cond.static yX10_lengthOf, Cond.code yX10_lengthOf cX10_lengthOf 4 (some .int), Cond.methodLink RL 82 yX9_office, Cond.instanceMethod yX9_office, Cond.selects RX9 yX9_office yX9_office, Cond.code yX9_office cX9_office 4 (some .int)]
def wsL_law_r38 : List Cond := [Cond.fieldLink RX9 231 "RingOffices$Offices" "spokenToday" "[I", Cond.fieldLink RX9 240 "RingOffices$Offices" "readTo" "[I", Cond.methodLink RX9 234 yX2_lengthInQueue, Cond.methodLink RX9 237 yX8_standingAt, Cond.methodLink RX9 243 yX2_lettersTo, Cond.instanceMethod yX2_lettersTo, Cond.selects RX2 yX2_lettersTo yX2_lettersTo, Cond.code yX2_lettersTo cX2_lettersTo 5 (some .int), Cond.methodLink RX2 67 yX2_toOf, Cond.methodLink RL 85 yX10_office, Cond.instanceMethod yX10_office, Cond.selects RX10 yX10_office yX10_office, Cond.code yX10_office cX10_office 3 (some .int), Cond.methodLink RX10 248 yX10_lettersTo, Cond.instanceMethod yX10_lettersTo, Cond.selects RX10 yX10_lettersTo yX10_lettersTo, Cond.code yX10_lettersTo cX10_lettersTo 5 (some .int), Cond.methodLink RL 86 yX9_queue, Cond.instanceMethod yX9_queue, Cond.selects RX9 yX9_queue yX9_queue, Cond.code yX9_queue cX9_queue 6 (some .int), Cond.methodLink RX9 246 yX2_toOf, Cond.methodLink RL 89 yX10_queue, Cond.instanceMethod yX10_queue]
def wsL_law_r39 : List Cond := [Cond.selects RX10 yX10_queue yX10_queue, Cond.code yX10_queue cX10_queue 4 (some .int), Cond.methodLink RL 90 yX9_token, Cond.instanceMethod yX9_token, Cond.selects RX9 yX9_token yX9_token, Cond.code yX9_token cX9_token 4 (some .int), Cond.fieldLink RX9 249 "RingOffices$Tokens" "place" "[I", Cond.fieldLink RX9 252 "RingOffices$Tokens" "togo" "[I", Cond.fieldLink RX9 255 "RingOffices$Tokens" "turn" "[I", Cond.fieldLink RX9 258 "RingOffices$Tokens" "left" "[I", Cond.methodLink RL 93 yX10_token, Cond.instanceMethod yX10_token, Cond.selects RX10 yX10_token yX10_token, Cond.code yX10_token cX10_token 3 (some .int), Cond.methodLink RL 94 yX9_winner, Cond.instanceMethod yX9_winner, Cond.selects RX9 yX9_winner yX9_winner, Cond.code yX9_winner cX9_winner 1 (some .int), Cond.methodLink RX9 261 yX2_openWithGreatestName, Cond.methodLink RL 97 yX10_winner, Cond.instanceMethod yX10_winner, Cond.selects RX10 yX10_winner yX10_winner, Cond.code yX10_winner cX10_winner 1 (some .int), Cond.methodLink RL 98 yX9_round]
def wsL_law_r40 : List Cond := [Cond.instanceMethod yX9_round, Cond.selects RX9 yX9_round yX9_round, Cond.code yX9_round cX9_round 3 (some .int), Cond.methodLink RL 101 yX10_round, Cond.instanceMethod yX10_round, Cond.selects RX10 yX10_round yX10_round, Cond.code yX10_round cX10_round 3 (some .int), Cond.methodLink RL 102 yX9_busiest, Cond.instanceMethod yX9_busiest, Cond.selects RX9 yX9_busiest yX9_busiest, Cond.code yX9_busiest cX9_busiest 3 (some .int), Cond.methodLink RL 105 yX10_busiest, Cond.instanceMethod yX10_busiest, Cond.selects RX10 yX10_busiest yX10_busiest, Cond.code yX10_busiest cX10_busiest 3 (some .int), Cond.methodLink RL 106 yX9_why, Cond.instanceMethod yX9_why, Cond.selects RX9 yX9_why yX9_why, Cond.code yX9_why cX9_why 4 (some .int), Cond.methodLink RX9 264 yX6_fitsInTurn, Cond.methodLink RX9 267 yX6_fitsInDay, Cond.methodLink RL 109 yX10_why, Cond.instanceMethod yX10_why, Cond.selects RX10 yX10_why yX10_why]
def wsL_law_r41 : List Cond := [Cond.code yX10_why cX10_why 3 (some .int), Cond.methodLink RL 110 yX9_comesIn, Cond.instanceMethod yX9_comesIn, Cond.selects RX9 yX9_comesIn yX9_comesIn, Cond.code yX9_comesIn cX9_comesIn 3 (some .int), Cond.methodLink RL 113 yX10_comesIn, Cond.instanceMethod yX10_comesIn, Cond.selects RX10 yX10_comesIn yX10_comesIn, Cond.code yX10_comesIn cX10_comesIn 3 (some .int), Cond.methodLink RX10 251 yX10_takesSpare, Cond.instanceMethod yX10_takesSpare, Cond.selects RX10 yX10_takesSpare yX10_takesSpare, Cond.code yX10_takesSpare cX10_takesSpare 1 none, Cond.methodLink RL 114 yX9_doneIn, Cond.instanceMethod yX9_doneIn, Cond.selects RX9 yX9_doneIn yX9_doneIn, Cond.code yX9_doneIn cX9_doneIn 1 (some .int), Cond.methodLink RX9 270 yX9_triedUntilDone, Cond.instanceMethod yX9_triedUntilDone, Cond.selects RX9 yX9_triedUntilDone yX9_triedUntilDone, Cond.code yX9_triedUntilDone cX9_triedUntilDone 3 (some .int), Cond.methodLink RL 117 yX10_doneIn, Cond.instanceMethod yX10_doneIn, Cond.selects RX10 yX10_doneIn yX10_doneIn]
def wsL_law_r42 : List Cond := [Cond.code yX10_doneIn cX10_doneIn 1 (some .int), Cond.methodLink RX10 254 yX10_doneInSpare, Cond.instanceMethod yX10_doneInSpare, Cond.selects RX10 yX10_doneInSpare yX10_doneInSpare, Cond.code yX10_doneInSpare cX10_doneInSpare 2 (some .int), Cond.methodLink RL 118 yX9_ifPassed, Cond.instanceMethod yX9_ifPassed, Cond.selects RX9 yX9_ifPassed yX9_ifPassed, Cond.code yX9_ifPassed cX9_ifPassed 3 (some .int), Cond.methodLink RX9 273 yX9_isForesight, Cond.static yX9_isForesight, Cond.code yX9_isForesight cX9_isForesight 2 (some .boolean), Cond.methodLink RX9 276 yX9_triedMinutes, Cond.instanceMethod yX9_triedMinutes, Cond.selects RX9 yX9_triedMinutes yX9_triedMinutes, Cond.code yX9_triedMinutes cX9_triedMinutes 4 (some .int), Cond.methodLink RX9 305 yX9_countTold, Cond.static yX9_countTold, Cond.code yX9_countTold cX9_countTold 1 (some .int), Cond.methodLink RL 121 yX10_ifPassed, Cond.instanceMethod yX10_ifPassed, Cond.selects RX10 yX10_ifPassed yX10_ifPassed, Cond.code yX10_ifPassed cX10_ifPassed 3 (some .int), Cond.methodLink RX10 257 yX10_isAhead]
def wsL_law_r43 : List Cond := [Cond.static yX10_isAhead, Cond.code yX10_isAhead cX10_isAhead 1 (some .boolean), Cond.methodLink RX10 260 yX10_isTold, Cond.static yX10_isTold, Cond.code yX10_isTold cX10_isTold 1 (some .boolean), Cond.methodLink RX10 263 yX10_passed, Cond.instanceMethod yX10_passed, Cond.selects RX10 yX10_passed yX10_passed, Cond.code yX10_passed cX10_passed 8 (some .int), Cond.methodLink RL 122 yX9_ifRule, Cond.instanceMethod yX9_ifRule, Cond.selects RX9 yX9_ifRule yX9_ifRule, Cond.code yX9_ifRule cX9_ifRule 5 (some .int), Cond.methodLink RL 126 yX10_ifRule, Cond.instanceMethod yX10_ifRule, Cond.selects RX10 yX10_ifRule yX10_ifRule, Cond.code yX10_ifRule cX10_ifRule 5 (some .int), Cond.methodLink RL 127 yX9_ifShut, Cond.instanceMethod yX9_ifShut, Cond.selects RX9 yX9_ifShut yX9_ifShut, Cond.code yX9_ifShut cX9_ifShut 4 (some .int), Cond.methodLink RL 130 yX10_ifShut, Cond.instanceMethod yX10_ifShut, Cond.selects RX10 yX10_ifShut yX10_ifShut]
def wsL_law_r44 : List Cond := [Cond.code yX10_ifShut cX10_ifShut 4 (some .int), Cond.methodLink RL 131 yX9_bestSpeak, Cond.instanceMethod yX9_bestSpeak, Cond.selects RX9 yX9_bestSpeak yX9_bestSpeak, Cond.code yX9_bestSpeak cX9_bestSpeak 6 (some .int), Cond.methodLink RL 134 yX10_bestSpeak, Cond.instanceMethod yX10_bestSpeak, Cond.selects RX10 yX10_bestSpeak yX10_bestSpeak, Cond.code yX10_bestSpeak cX10_bestSpeak 6 (some .int), Cond.methodLink RL 135 yX9_leastQuota, Cond.instanceMethod yX9_leastQuota, Cond.selects RX9 yX9_leastQuota yX9_leastQuota, Cond.code yX9_leastQuota cX9_leastQuota 3 (some .int), Cond.methodLink RL 138 yX10_leastQuota, Cond.instanceMethod yX10_leastQuota, Cond.selects RX10 yX10_leastQuota yX10_leastQuota, Cond.code yX10_leastQuota cX10_leastQuota 3 (some .int), Cond.methodLink RX10 266 yX10_doneIn, Cond.methodLink RL 139 yX9_log, Cond.instanceMethod yX9_log, Cond.selects RX9 yX9_log yX9_log, Cond.code yX9_log cX9_log 3 (some .int), Cond.methodLink RX9 279 yX1_part, Cond.instanceMethod yX1_part]
def wsL_law_r45 : List Cond := [Cond.selects RX1 yX1_part yX1_part, Cond.code yX1_part cX1_part 4 (some .int), Cond.methodLink RL 142 yX10_log, Cond.instanceMethod yX10_log, Cond.selects RX10 yX10_log yX10_log, Cond.code yX10_log cX10_log 3 (some .int), Cond.methodLink RL 143 yX9_spoken, Cond.instanceMethod yX9_spoken, Cond.selects RX9 yX9_spoken yX9_spoken, Cond.code yX9_spoken cX9_spoken 1 (some .float), Cond.methodLink RL 147 yX10_spoken, Cond.instanceMethod yX10_spoken, Cond.selects RX10 yX10_spoken yX10_spoken, Cond.code yX10_spoken cX10_spoken 1 (some .float), Cond.methodLink RL 148 yX9_meanLength, Cond.instanceMethod yX9_meanLength, Cond.selects RX9 yX9_meanLength yX9_meanLength, Cond.code yX9_meanLength cX9_meanLength 2 (some .double), Cond.methodLink RL 152 yX10_meanLength, Cond.instanceMethod yX10_meanLength, Cond.selects RX10 yX10_meanLength yX10_meanLength, Cond.code yX10_meanLength cX10_meanLength 2 (some .double), Cond.methodLink RL 153 yX9_listLength, Cond.instanceMethod yX9_listLength]
def wsL_law_r46 : List Cond := [Cond.selects RX9 yX9_listLength yX9_listLength, Cond.code yX9_listLength cX9_listLength 1 (some .int), Cond.methodLink RX9 282 yX9_writeList, Cond.instanceMethod yX9_writeList, Cond.selects RX9 yX9_writeList yX9_writeList, Cond.code yX9_writeList cX9_writeList 2 none, Cond.methodLink RX9 308 yX9_writeListLine, Cond.instanceMethod yX9_writeListLine, Cond.selects RX9 yX9_writeListLine yX9_writeListLine, Cond.code yX9_writeListLine cX9_writeListLine 4 none, Cond.methodLink RX9 311 yX7_addNumber, Cond.instanceMethod yX7_addNumber, Cond.selects RX7 yX7_addNumber yX7_addNumber, Cond.code yX7_addNumber cX7_addNumber 5 none, Cond.constant RX7 32 (1000000000), Cond.methodLink RX9 314 yX7_add, Cond.methodLink RL 156 yX10_listLength, Cond.instanceMethod yX10_listLength, Cond.selects RX10 yX10_listLength yX10_listLength, Cond.code yX10_listLength cX10_listLength 1 (some .int), Cond.fieldLink RX10 269 "RingOfficesModel" "written" "I", Cond.methodLink RX10 283 yX10_layList, Cond.instanceMethod yX10_layList, Cond.selects RX10 yX10_layList yX10_layList]
def wsL_law_r47 : List Cond := [Cond.code yX10_layList cX10_layList 4 none, Cond.methodLink RX10 276 yX10_putsNumber, Cond.instanceMethod yX10_putsNumber, Cond.selects RX10 yX10_putsNumber yX10_putsNumber, Cond.code yX10_putsNumber cX10_putsNumber 3 none, Cond.methodLink RX10 272 yX10_puts, Cond.instanceMethod yX10_puts, Cond.selects RX10 yX10_puts yX10_puts, Cond.code yX10_puts cX10_puts 2 none, Cond.methodLink RX10 279 yX10_putsWith, Cond.instanceMethod yX10_putsWith, Cond.selects RX10 yX10_putsWith yX10_putsWith, Cond.code yX10_putsWith cX10_putsWith 3 none, Cond.methodLink RL 157 yX9_listByte, Cond.instanceMethod yX9_listByte, Cond.selects RX9 yX9_listByte yX9_listByte, Cond.code yX9_listByte cX9_listByte 2 (some .int), Cond.methodLink RX9 285 yX7_byteAt, Cond.methodLink RL 160 yX10_listByte, Cond.instanceMethod yX10_listByte, Cond.selects RX10 yX10_listByte yX10_listByte, Cond.code yX10_listByte cX10_listByte 2 (some .int), Cond.methodLink RX10 286 yX10_writtenAt, Cond.instanceMethod yX10_writtenAt]
def wsL_law_r48 : List Cond := [Cond.selects RX10 yX10_writtenAt yX10_writtenAt, Cond.code yX10_writtenAt cX10_writtenAt 2 (some .int), Cond.methodLink RL 161 yX9_setupLength, Cond.instanceMethod yX9_setupLength, Cond.selects RX9 yX9_setupLength yX9_setupLength, Cond.code yX9_setupLength cX9_setupLength 1 (some .int), Cond.methodLink RX9 288 yX9_writeSetup, Cond.instanceMethod yX9_writeSetup, Cond.selects RX9 yX9_writeSetup yX9_writeSetup, Cond.code yX9_writeSetup cX9_writeSetup 2 none, Cond.methodLink RX9 317 yX7_addWord, Cond.instanceMethod yX7_addWord, Cond.selects RX7 yX7_addWord yX7_addWord, Cond.code yX7_addWord cX7_addWord 3 none, Cond.methodLink RX9 325 yX9_writeSetupOffice, Cond.instanceMethod yX9_writeSetupOffice, Cond.selects RX9 yX9_writeSetupOffice yX9_writeSetupOffice, Cond.code yX9_writeSetupOffice cX9_writeSetupOffice 2 none, Cond.methodLink RX9 328 yX9_writeSetupLetters, Cond.instanceMethod yX9_writeSetupLetters, Cond.selects RX9 yX9_writeSetupLetters yX9_writeSetupLetters, Cond.code yX9_writeSetupLetters cX9_writeSetupLetters 3 none, Cond.methodLink RX9 331 yX8_firstStanding, Cond.instanceMethod yX8_firstStanding]
def wsL_law_r49 : List Cond := [Cond.selects RX8 yX8_firstStanding yX8_firstStanding, Cond.code yX8_firstStanding cX8_firstStanding 2 (some .int), Cond.methodLink RL 164 yX10_setupLength, Cond.instanceMethod yX10_setupLength, Cond.selects RX10 yX10_setupLength yX10_setupLength, Cond.code yX10_setupLength cX10_setupLength 1 (some .int), Cond.methodLink RX10 298 yX10_laySetup, Cond.instanceMethod yX10_laySetup, Cond.selects RX10 yX10_laySetup yX10_laySetup, Cond.code yX10_laySetup cX10_laySetup 2 none, Cond.methodLink RX10 292 yX10_putsRule, Cond.instanceMethod yX10_putsRule, Cond.selects RX10 yX10_putsRule yX10_putsRule, Cond.code yX10_putsRule cX10_putsRule 3 none, Cond.methodLink RX10 289 yX10_putsWord, Cond.instanceMethod yX10_putsWord, Cond.selects RX10 yX10_putsWord yX10_putsWord, Cond.code yX10_putsWord cX10_putsWord 3 none, Cond.methodLink RX10 295 yX10_layLetters, Cond.instanceMethod yX10_layLetters, Cond.selects RX10 yX10_layLetters yX10_layLetters, Cond.code yX10_layLetters cX10_layLetters 3 none, Cond.methodLink RL 165 yX9_setupByte, Cond.instanceMethod yX9_setupByte]
def wsL_law_r50 : List Cond := [Cond.selects RX9 yX9_setupByte yX9_setupByte, Cond.code yX9_setupByte cX9_setupByte 2 (some .int), Cond.methodLink RL 168 yX10_setupByte, Cond.instanceMethod yX10_setupByte, Cond.selects RX10 yX10_setupByte yX10_setupByte, Cond.code yX10_setupByte cX10_setupByte 2 (some .int)]
def wsL_law : List Cond := (wsL_law_r1 ++ (wsL_law_r2 ++ (wsL_law_r3 ++ (wsL_law_r4 ++ (wsL_law_r5 ++ (wsL_law_r6 ++ (wsL_law_r7 ++ (wsL_law_r8 ++ (wsL_law_r9 ++ (wsL_law_r10 ++ (wsL_law_r11 ++ (wsL_law_r12 ++ (wsL_law_r13 ++ (wsL_law_r14 ++ (wsL_law_r15 ++ (wsL_law_r16 ++ (wsL_law_r17 ++ (wsL_law_r18 ++ (wsL_law_r19 ++ (wsL_law_r20 ++ (wsL_law_r21 ++ (wsL_law_r22 ++ (wsL_law_r23 ++ (wsL_law_r24 ++ (wsL_law_r25 ++ (wsL_law_r26 ++ (wsL_law_r27 ++ (wsL_law_r28 ++ (wsL_law_r29 ++ (wsL_law_r30 ++ (wsL_law_r31 ++ (wsL_law_r32 ++ (wsL_law_r33 ++ (wsL_law_r34 ++ (wsL_law_r35 ++ (wsL_law_r36 ++ (wsL_law_r37 ++ (wsL_law_r38 ++ (wsL_law_r39 ++ (wsL_law_r40 ++ (wsL_law_r41 ++ (wsL_law_r42 ++ (wsL_law_r43 ++ (wsL_law_r44 ++ (wsL_law_r45 ++ (wsL_law_r46 ++ (wsL_law_r47 ++ (wsL_law_r48 ++ (wsL_law_r49 ++ wsL_law_r50))))))))))))))))))))))))))))))))))))))))))))))))) ++ wsX90 ++ wsX100 ++ wsX60 ++ wsX00 ++ wsX50 ++ wsX40 ++ wsX30 ++ wsX70 ++ wsX20 ++ wsX80 ++ wsX10 ++ ([] : List Cond)
theorem inlX0 : ∀ w ∈ wsX00, w ∈ wsL_law := fun _ h => List.mem_append_left _ (List.mem_append_left _ (List.mem_append_left _ (List.mem_append_left _ (List.mem_append_left _ (List.mem_append_left _ (List.mem_append_left _ (List.mem_append_left _ (List.mem_append_right _ h))))))))
theorem inlX1 : ∀ w ∈ wsX10, w ∈ wsL_law := fun _ h => List.mem_append_left _ (List.mem_append_right _ h)
theorem inlX2 : ∀ w ∈ wsX20, w ∈ wsL_law := fun _ h => List.mem_append_left _ (List.mem_append_left _ (List.mem_append_left _ (List.mem_append_right _ h)))
theorem inlX3 : ∀ w ∈ wsX30, w ∈ wsL_law := fun _ h => List.mem_append_left _ (List.mem_append_left _ (List.mem_append_left _ (List.mem_append_left _ (List.mem_append_left _ (List.mem_append_right _ h)))))
theorem inlX4 : ∀ w ∈ wsX40, w ∈ wsL_law := fun _ h => List.mem_append_left _ (List.mem_append_left _ (List.mem_append_left _ (List.mem_append_left _ (List.mem_append_left _ (List.mem_append_left _ (List.mem_append_right _ h))))))
theorem inlX5 : ∀ w ∈ wsX50, w ∈ wsL_law := fun _ h => List.mem_append_left _ (List.mem_append_left _ (List.mem_append_left _ (List.mem_append_left _ (List.mem_append_left _ (List.mem_append_left _ (List.mem_append_left _ (List.mem_append_right _ h)))))))
theorem inlX6 : ∀ w ∈ wsX60, w ∈ wsL_law := fun _ h => List.mem_append_left _ (List.mem_append_left _ (List.mem_append_left _ (List.mem_append_left _ (List.mem_append_left _ (List.mem_append_left _ (List.mem_append_left _ (List.mem_append_left _ (List.mem_append_left _ (List.mem_append_right _ h)))))))))
theorem inlX7 : ∀ w ∈ wsX70, w ∈ wsL_law := fun _ h => List.mem_append_left _ (List.mem_append_left _ (List.mem_append_left _ (List.mem_append_left _ (List.mem_append_right _ h))))
theorem inlX8 : ∀ w ∈ wsX80, w ∈ wsL_law := fun _ h => List.mem_append_left _ (List.mem_append_left _ (List.mem_append_right _ h))
theorem inlX9 : ∀ w ∈ wsX90, w ∈ wsL_law := fun _ h => List.mem_append_left _ (List.mem_append_left _ (List.mem_append_left _ (List.mem_append_left _ (List.mem_append_left _ (List.mem_append_left _ (List.mem_append_left _ (List.mem_append_left _ (List.mem_append_left _ (List.mem_append_left _ (List.mem_append_left _ (List.mem_append_right _ h)))))))))))
theorem inlX10 : ∀ w ∈ wsX100, w ∈ wsL_law := fun _ h => List.mem_append_left _ (List.mem_append_left _ (List.mem_append_left _ (List.mem_append_left _ (List.mem_append_left _ (List.mem_append_left _ (List.mem_append_left _ (List.mem_append_left _ (List.mem_append_left _ (List.mem_append_left _ (List.mem_append_right _ h))))))))))
theorem u_r1 (w : Cond) (h : w ∈ wsL_law_r1) : w ∈ wsL_law := List.mem_append_left _ (List.mem_append_left _ (List.mem_append_left _ (List.mem_append_left _ (List.mem_append_left _ (List.mem_append_left _ (List.mem_append_left _ (List.mem_append_left _ (List.mem_append_left _ (List.mem_append_left _ (List.mem_append_left _ (List.mem_append_left _ (List.mem_append_left _ h))))))))))))
theorem u_r2 (w : Cond) (h : w ∈ wsL_law_r2) : w ∈ wsL_law := List.mem_append_left _ (List.mem_append_left _ (List.mem_append_left _ (List.mem_append_left _ (List.mem_append_left _ (List.mem_append_left _ (List.mem_append_left _ (List.mem_append_left _ (List.mem_append_left _ (List.mem_append_left _ (List.mem_append_left _ (List.mem_append_left _ (List.mem_append_right _ (List.mem_append_left _ h)))))))))))))
theorem u_r3 (w : Cond) (h : w ∈ wsL_law_r3) : w ∈ wsL_law := List.mem_append_left _ (List.mem_append_left _ (List.mem_append_left _ (List.mem_append_left _ (List.mem_append_left _ (List.mem_append_left _ (List.mem_append_left _ (List.mem_append_left _ (List.mem_append_left _ (List.mem_append_left _ (List.mem_append_left _ (List.mem_append_left _ (List.mem_append_right _ (List.mem_append_right _ (List.mem_append_left _ h))))))))))))))
theorem u_r4 (w : Cond) (h : w ∈ wsL_law_r4) : w ∈ wsL_law := List.mem_append_left _ (List.mem_append_left _ (List.mem_append_left _ (List.mem_append_left _ (List.mem_append_left _ (List.mem_append_left _ (List.mem_append_left _ (List.mem_append_left _ (List.mem_append_left _ (List.mem_append_left _ (List.mem_append_left _ (List.mem_append_left _ (List.mem_append_right _ (List.mem_append_right _ (List.mem_append_right _ (List.mem_append_left _ h)))))))))))))))
theorem u_r5 (w : Cond) (h : w ∈ wsL_law_r5) : w ∈ wsL_law := List.mem_append_left _ (List.mem_append_left _ (List.mem_append_left _ (List.mem_append_left _ (List.mem_append_left _ (List.mem_append_left _ (List.mem_append_left _ (List.mem_append_left _ (List.mem_append_left _ (List.mem_append_left _ (List.mem_append_left _ (List.mem_append_left _ (List.mem_append_right _ (List.mem_append_right _ (List.mem_append_right _ (List.mem_append_right _ (List.mem_append_left _ h))))))))))))))))
theorem u_r6 (w : Cond) (h : w ∈ wsL_law_r6) : w ∈ wsL_law := List.mem_append_left _ (List.mem_append_left _ (List.mem_append_left _ (List.mem_append_left _ (List.mem_append_left _ (List.mem_append_left _ (List.mem_append_left _ (List.mem_append_left _ (List.mem_append_left _ (List.mem_append_left _ (List.mem_append_left _ (List.mem_append_left _ (List.mem_append_right _ (List.mem_append_right _ (List.mem_append_right _ (List.mem_append_right _ (List.mem_append_right _ (List.mem_append_left _ h)))))))))))))))))
theorem u_r7 (w : Cond) (h : w ∈ wsL_law_r7) : w ∈ wsL_law := List.mem_append_left _ (List.mem_append_left _ (List.mem_append_left _ (List.mem_append_left _ (List.mem_append_left _ (List.mem_append_left _ (List.mem_append_left _ (List.mem_append_left _ (List.mem_append_left _ (List.mem_append_left _ (List.mem_append_left _ (List.mem_append_left _ (List.mem_append_right _ (List.mem_append_right _ (List.mem_append_right _ (List.mem_append_right _ (List.mem_append_right _ (List.mem_append_right _ (List.mem_append_left _ h))))))))))))))))))
theorem u_r8 (w : Cond) (h : w ∈ wsL_law_r8) : w ∈ wsL_law := List.mem_append_left _ (List.mem_append_left _ (List.mem_append_left _ (List.mem_append_left _ (List.mem_append_left _ (List.mem_append_left _ (List.mem_append_left _ (List.mem_append_left _ (List.mem_append_left _ (List.mem_append_left _ (List.mem_append_left _ (List.mem_append_left _ (List.mem_append_right _ (List.mem_append_right _ (List.mem_append_right _ (List.mem_append_right _ (List.mem_append_right _ (List.mem_append_right _ (List.mem_append_right _ (List.mem_append_left _ h)))))))))))))))))))
theorem u_r9 (w : Cond) (h : w ∈ wsL_law_r9) : w ∈ wsL_law := List.mem_append_left _ (List.mem_append_left _ (List.mem_append_left _ (List.mem_append_left _ (List.mem_append_left _ (List.mem_append_left _ (List.mem_append_left _ (List.mem_append_left _ (List.mem_append_left _ (List.mem_append_left _ (List.mem_append_left _ (List.mem_append_left _ (List.mem_append_right _ (List.mem_append_right _ (List.mem_append_right _ (List.mem_append_right _ (List.mem_append_right _ (List.mem_append_right _ (List.mem_append_right _ (List.mem_append_right _ (List.mem_append_left _ h))))))))))))))))))))
theorem u_r10 (w : Cond) (h : w ∈ wsL_law_r10) : w ∈ wsL_law := List.mem_append_left _ (List.mem_append_left _ (List.mem_append_left _ (List.mem_append_left _ (List.mem_append_left _ (List.mem_append_left _ (List.mem_append_left _ (List.mem_append_left _ (List.mem_append_left _ (List.mem_append_left _ (List.mem_append_left _ (List.mem_append_left _ (List.mem_append_right _ (List.mem_append_right _ (List.mem_append_right _ (List.mem_append_right _ (List.mem_append_right _ (List.mem_append_right _ (List.mem_append_right _ (List.mem_append_right _ (List.mem_append_right _ (List.mem_append_left _ h)))))))))))))))))))))
theorem u_r11 (w : Cond) (h : w ∈ wsL_law_r11) : w ∈ wsL_law := List.mem_append_left _ (List.mem_append_left _ (List.mem_append_left _ (List.mem_append_left _ (List.mem_append_left _ (List.mem_append_left _ (List.mem_append_left _ (List.mem_append_left _ (List.mem_append_left _ (List.mem_append_left _ (List.mem_append_left _ (List.mem_append_left _ (List.mem_append_right _ (List.mem_append_right _ (List.mem_append_right _ (List.mem_append_right _ (List.mem_append_right _ (List.mem_append_right _ (List.mem_append_right _ (List.mem_append_right _ (List.mem_append_right _ (List.mem_append_right _ (List.mem_append_left _ h))))))))))))))))))))))
theorem u_r12 (w : Cond) (h : w ∈ wsL_law_r12) : w ∈ wsL_law := List.mem_append_left _ (List.mem_append_left _ (List.mem_append_left _ (List.mem_append_left _ (List.mem_append_left _ (List.mem_append_left _ (List.mem_append_left _ (List.mem_append_left _ (List.mem_append_left _ (List.mem_append_left _ (List.mem_append_left _ (List.mem_append_left _ (List.mem_append_right _ (List.mem_append_right _ (List.mem_append_right _ (List.mem_append_right _ (List.mem_append_right _ (List.mem_append_right _ (List.mem_append_right _ (List.mem_append_right _ (List.mem_append_right _ (List.mem_append_right _ (List.mem_append_right _ (List.mem_append_left _ h)))))))))))))))))))))))
theorem u_r13 (w : Cond) (h : w ∈ wsL_law_r13) : w ∈ wsL_law := List.mem_append_left _ (List.mem_append_left _ (List.mem_append_left _ (List.mem_append_left _ (List.mem_append_left _ (List.mem_append_left _ (List.mem_append_left _ (List.mem_append_left _ (List.mem_append_left _ (List.mem_append_left _ (List.mem_append_left _ (List.mem_append_left _ (List.mem_append_right _ (List.mem_append_right _ (List.mem_append_right _ (List.mem_append_right _ (List.mem_append_right _ (List.mem_append_right _ (List.mem_append_right _ (List.mem_append_right _ (List.mem_append_right _ (List.mem_append_right _ (List.mem_append_right _ (List.mem_append_right _ (List.mem_append_left _ h))))))))))))))))))))))))
theorem u_r14 (w : Cond) (h : w ∈ wsL_law_r14) : w ∈ wsL_law := List.mem_append_left _ (List.mem_append_left _ (List.mem_append_left _ (List.mem_append_left _ (List.mem_append_left _ (List.mem_append_left _ (List.mem_append_left _ (List.mem_append_left _ (List.mem_append_left _ (List.mem_append_left _ (List.mem_append_left _ (List.mem_append_left _ (List.mem_append_right _ (List.mem_append_right _ (List.mem_append_right _ (List.mem_append_right _ (List.mem_append_right _ (List.mem_append_right _ (List.mem_append_right _ (List.mem_append_right _ (List.mem_append_right _ (List.mem_append_right _ (List.mem_append_right _ (List.mem_append_right _ (List.mem_append_right _ (List.mem_append_left _ h)))))))))))))))))))))))))
theorem u_r15 (w : Cond) (h : w ∈ wsL_law_r15) : w ∈ wsL_law := List.mem_append_left _ (List.mem_append_left _ (List.mem_append_left _ (List.mem_append_left _ (List.mem_append_left _ (List.mem_append_left _ (List.mem_append_left _ (List.mem_append_left _ (List.mem_append_left _ (List.mem_append_left _ (List.mem_append_left _ (List.mem_append_left _ (List.mem_append_right _ (List.mem_append_right _ (List.mem_append_right _ (List.mem_append_right _ (List.mem_append_right _ (List.mem_append_right _ (List.mem_append_right _ (List.mem_append_right _ (List.mem_append_right _ (List.mem_append_right _ (List.mem_append_right _ (List.mem_append_right _ (List.mem_append_right _ (List.mem_append_right _ (List.mem_append_left _ h))))))))))))))))))))))))))
theorem u_r16 (w : Cond) (h : w ∈ wsL_law_r16) : w ∈ wsL_law := List.mem_append_left _ (List.mem_append_left _ (List.mem_append_left _ (List.mem_append_left _ (List.mem_append_left _ (List.mem_append_left _ (List.mem_append_left _ (List.mem_append_left _ (List.mem_append_left _ (List.mem_append_left _ (List.mem_append_left _ (List.mem_append_left _ (List.mem_append_right _ (List.mem_append_right _ (List.mem_append_right _ (List.mem_append_right _ (List.mem_append_right _ (List.mem_append_right _ (List.mem_append_right _ (List.mem_append_right _ (List.mem_append_right _ (List.mem_append_right _ (List.mem_append_right _ (List.mem_append_right _ (List.mem_append_right _ (List.mem_append_right _ (List.mem_append_right _ (List.mem_append_left _ h)))))))))))))))))))))))))))
theorem u_r17 (w : Cond) (h : w ∈ wsL_law_r17) : w ∈ wsL_law := List.mem_append_left _ (List.mem_append_left _ (List.mem_append_left _ (List.mem_append_left _ (List.mem_append_left _ (List.mem_append_left _ (List.mem_append_left _ (List.mem_append_left _ (List.mem_append_left _ (List.mem_append_left _ (List.mem_append_left _ (List.mem_append_left _ (List.mem_append_right _ (List.mem_append_right _ (List.mem_append_right _ (List.mem_append_right _ (List.mem_append_right _ (List.mem_append_right _ (List.mem_append_right _ (List.mem_append_right _ (List.mem_append_right _ (List.mem_append_right _ (List.mem_append_right _ (List.mem_append_right _ (List.mem_append_right _ (List.mem_append_right _ (List.mem_append_right _ (List.mem_append_right _ (List.mem_append_left _ h))))))))))))))))))))))))))))
theorem u_r18 (w : Cond) (h : w ∈ wsL_law_r18) : w ∈ wsL_law := List.mem_append_left _ (List.mem_append_left _ (List.mem_append_left _ (List.mem_append_left _ (List.mem_append_left _ (List.mem_append_left _ (List.mem_append_left _ (List.mem_append_left _ (List.mem_append_left _ (List.mem_append_left _ (List.mem_append_left _ (List.mem_append_left _ (List.mem_append_right _ (List.mem_append_right _ (List.mem_append_right _ (List.mem_append_right _ (List.mem_append_right _ (List.mem_append_right _ (List.mem_append_right _ (List.mem_append_right _ (List.mem_append_right _ (List.mem_append_right _ (List.mem_append_right _ (List.mem_append_right _ (List.mem_append_right _ (List.mem_append_right _ (List.mem_append_right _ (List.mem_append_right _ (List.mem_append_right _ (List.mem_append_left _ h)))))))))))))))))))))))))))))
theorem u_r19 (w : Cond) (h : w ∈ wsL_law_r19) : w ∈ wsL_law := List.mem_append_left _ (List.mem_append_left _ (List.mem_append_left _ (List.mem_append_left _ (List.mem_append_left _ (List.mem_append_left _ (List.mem_append_left _ (List.mem_append_left _ (List.mem_append_left _ (List.mem_append_left _ (List.mem_append_left _ (List.mem_append_left _ (List.mem_append_right _ (List.mem_append_right _ (List.mem_append_right _ (List.mem_append_right _ (List.mem_append_right _ (List.mem_append_right _ (List.mem_append_right _ (List.mem_append_right _ (List.mem_append_right _ (List.mem_append_right _ (List.mem_append_right _ (List.mem_append_right _ (List.mem_append_right _ (List.mem_append_right _ (List.mem_append_right _ (List.mem_append_right _ (List.mem_append_right _ (List.mem_append_right _ (List.mem_append_left _ h))))))))))))))))))))))))))))))
theorem u_r20 (w : Cond) (h : w ∈ wsL_law_r20) : w ∈ wsL_law := List.mem_append_left _ (List.mem_append_left _ (List.mem_append_left _ (List.mem_append_left _ (List.mem_append_left _ (List.mem_append_left _ (List.mem_append_left _ (List.mem_append_left _ (List.mem_append_left _ (List.mem_append_left _ (List.mem_append_left _ (List.mem_append_left _ (List.mem_append_right _ (List.mem_append_right _ (List.mem_append_right _ (List.mem_append_right _ (List.mem_append_right _ (List.mem_append_right _ (List.mem_append_right _ (List.mem_append_right _ (List.mem_append_right _ (List.mem_append_right _ (List.mem_append_right _ (List.mem_append_right _ (List.mem_append_right _ (List.mem_append_right _ (List.mem_append_right _ (List.mem_append_right _ (List.mem_append_right _ (List.mem_append_right _ (List.mem_append_right _ (List.mem_append_left _ h)))))))))))))))))))))))))))))))
theorem u_r21 (w : Cond) (h : w ∈ wsL_law_r21) : w ∈ wsL_law := List.mem_append_left _ (List.mem_append_left _ (List.mem_append_left _ (List.mem_append_left _ (List.mem_append_left _ (List.mem_append_left _ (List.mem_append_left _ (List.mem_append_left _ (List.mem_append_left _ (List.mem_append_left _ (List.mem_append_left _ (List.mem_append_left _ (List.mem_append_right _ (List.mem_append_right _ (List.mem_append_right _ (List.mem_append_right _ (List.mem_append_right _ (List.mem_append_right _ (List.mem_append_right _ (List.mem_append_right _ (List.mem_append_right _ (List.mem_append_right _ (List.mem_append_right _ (List.mem_append_right _ (List.mem_append_right _ (List.mem_append_right _ (List.mem_append_right _ (List.mem_append_right _ (List.mem_append_right _ (List.mem_append_right _ (List.mem_append_right _ (List.mem_append_right _ (List.mem_append_left _ h))))))))))))))))))))))))))))))))
theorem u_r22 (w : Cond) (h : w ∈ wsL_law_r22) : w ∈ wsL_law := List.mem_append_left _ (List.mem_append_left _ (List.mem_append_left _ (List.mem_append_left _ (List.mem_append_left _ (List.mem_append_left _ (List.mem_append_left _ (List.mem_append_left _ (List.mem_append_left _ (List.mem_append_left _ (List.mem_append_left _ (List.mem_append_left _ (List.mem_append_right _ (List.mem_append_right _ (List.mem_append_right _ (List.mem_append_right _ (List.mem_append_right _ (List.mem_append_right _ (List.mem_append_right _ (List.mem_append_right _ (List.mem_append_right _ (List.mem_append_right _ (List.mem_append_right _ (List.mem_append_right _ (List.mem_append_right _ (List.mem_append_right _ (List.mem_append_right _ (List.mem_append_right _ (List.mem_append_right _ (List.mem_append_right _ (List.mem_append_right _ (List.mem_append_right _ (List.mem_append_right _ (List.mem_append_left _ h)))))))))))))))))))))))))))))))))
theorem u_r23 (w : Cond) (h : w ∈ wsL_law_r23) : w ∈ wsL_law := List.mem_append_left _ (List.mem_append_left _ (List.mem_append_left _ (List.mem_append_left _ (List.mem_append_left _ (List.mem_append_left _ (List.mem_append_left _ (List.mem_append_left _ (List.mem_append_left _ (List.mem_append_left _ (List.mem_append_left _ (List.mem_append_left _ (List.mem_append_right _ (List.mem_append_right _ (List.mem_append_right _ (List.mem_append_right _ (List.mem_append_right _ (List.mem_append_right _ (List.mem_append_right _ (List.mem_append_right _ (List.mem_append_right _ (List.mem_append_right _ (List.mem_append_right _ (List.mem_append_right _ (List.mem_append_right _ (List.mem_append_right _ (List.mem_append_right _ (List.mem_append_right _ (List.mem_append_right _ (List.mem_append_right _ (List.mem_append_right _ (List.mem_append_right _ (List.mem_append_right _ (List.mem_append_right _ (List.mem_append_left _ h))))))))))))))))))))))))))))))))))
theorem u_r24 (w : Cond) (h : w ∈ wsL_law_r24) : w ∈ wsL_law := List.mem_append_left _ (List.mem_append_left _ (List.mem_append_left _ (List.mem_append_left _ (List.mem_append_left _ (List.mem_append_left _ (List.mem_append_left _ (List.mem_append_left _ (List.mem_append_left _ (List.mem_append_left _ (List.mem_append_left _ (List.mem_append_left _ (List.mem_append_right _ (List.mem_append_right _ (List.mem_append_right _ (List.mem_append_right _ (List.mem_append_right _ (List.mem_append_right _ (List.mem_append_right _ (List.mem_append_right _ (List.mem_append_right _ (List.mem_append_right _ (List.mem_append_right _ (List.mem_append_right _ (List.mem_append_right _ (List.mem_append_right _ (List.mem_append_right _ (List.mem_append_right _ (List.mem_append_right _ (List.mem_append_right _ (List.mem_append_right _ (List.mem_append_right _ (List.mem_append_right _ (List.mem_append_right _ (List.mem_append_right _ (List.mem_append_left _ h)))))))))))))))))))))))))))))))))))
theorem u_r25 (w : Cond) (h : w ∈ wsL_law_r25) : w ∈ wsL_law := List.mem_append_left _ (List.mem_append_left _ (List.mem_append_left _ (List.mem_append_left _ (List.mem_append_left _ (List.mem_append_left _ (List.mem_append_left _ (List.mem_append_left _ (List.mem_append_left _ (List.mem_append_left _ (List.mem_append_left _ (List.mem_append_left _ (List.mem_append_right _ (List.mem_append_right _ (List.mem_append_right _ (List.mem_append_right _ (List.mem_append_right _ (List.mem_append_right _ (List.mem_append_right _ (List.mem_append_right _ (List.mem_append_right _ (List.mem_append_right _ (List.mem_append_right _ (List.mem_append_right _ (List.mem_append_right _ (List.mem_append_right _ (List.mem_append_right _ (List.mem_append_right _ (List.mem_append_right _ (List.mem_append_right _ (List.mem_append_right _ (List.mem_append_right _ (List.mem_append_right _ (List.mem_append_right _ (List.mem_append_right _ (List.mem_append_right _ (List.mem_append_left _ h))))))))))))))))))))))))))))))))))))
theorem u_r26 (w : Cond) (h : w ∈ wsL_law_r26) : w ∈ wsL_law := List.mem_append_left _ (List.mem_append_left _ (List.mem_append_left _ (List.mem_append_left _ (List.mem_append_left _ (List.mem_append_left _ (List.mem_append_left _ (List.mem_append_left _ (List.mem_append_left _ (List.mem_append_left _ (List.mem_append_left _ (List.mem_append_left _ (List.mem_append_right _ (List.mem_append_right _ (List.mem_append_right _ (List.mem_append_right _ (List.mem_append_right _ (List.mem_append_right _ (List.mem_append_right _ (List.mem_append_right _ (List.mem_append_right _ (List.mem_append_right _ (List.mem_append_right _ (List.mem_append_right _ (List.mem_append_right _ (List.mem_append_right _ (List.mem_append_right _ (List.mem_append_right _ (List.mem_append_right _ (List.mem_append_right _ (List.mem_append_right _ (List.mem_append_right _ (List.mem_append_right _ (List.mem_append_right _ (List.mem_append_right _ (List.mem_append_right _ (List.mem_append_right _ (List.mem_append_left _ h)))))))))))))))))))))))))))))))))))))
theorem u_r27 (w : Cond) (h : w ∈ wsL_law_r27) : w ∈ wsL_law := List.mem_append_left _ (List.mem_append_left _ (List.mem_append_left _ (List.mem_append_left _ (List.mem_append_left _ (List.mem_append_left _ (List.mem_append_left _ (List.mem_append_left _ (List.mem_append_left _ (List.mem_append_left _ (List.mem_append_left _ (List.mem_append_left _ (List.mem_append_right _ (List.mem_append_right _ (List.mem_append_right _ (List.mem_append_right _ (List.mem_append_right _ (List.mem_append_right _ (List.mem_append_right _ (List.mem_append_right _ (List.mem_append_right _ (List.mem_append_right _ (List.mem_append_right _ (List.mem_append_right _ (List.mem_append_right _ (List.mem_append_right _ (List.mem_append_right _ (List.mem_append_right _ (List.mem_append_right _ (List.mem_append_right _ (List.mem_append_right _ (List.mem_append_right _ (List.mem_append_right _ (List.mem_append_right _ (List.mem_append_right _ (List.mem_append_right _ (List.mem_append_right _ (List.mem_append_right _ (List.mem_append_left _ h))))))))))))))))))))))))))))))))))))))
theorem u_r28 (w : Cond) (h : w ∈ wsL_law_r28) : w ∈ wsL_law := List.mem_append_left _ (List.mem_append_left _ (List.mem_append_left _ (List.mem_append_left _ (List.mem_append_left _ (List.mem_append_left _ (List.mem_append_left _ (List.mem_append_left _ (List.mem_append_left _ (List.mem_append_left _ (List.mem_append_left _ (List.mem_append_left _ (List.mem_append_right _ (List.mem_append_right _ (List.mem_append_right _ (List.mem_append_right _ (List.mem_append_right _ (List.mem_append_right _ (List.mem_append_right _ (List.mem_append_right _ (List.mem_append_right _ (List.mem_append_right _ (List.mem_append_right _ (List.mem_append_right _ (List.mem_append_right _ (List.mem_append_right _ (List.mem_append_right _ (List.mem_append_right _ (List.mem_append_right _ (List.mem_append_right _ (List.mem_append_right _ (List.mem_append_right _ (List.mem_append_right _ (List.mem_append_right _ (List.mem_append_right _ (List.mem_append_right _ (List.mem_append_right _ (List.mem_append_right _ (List.mem_append_right _ (List.mem_append_left _ h)))))))))))))))))))))))))))))))))))))))
theorem u_r29 (w : Cond) (h : w ∈ wsL_law_r29) : w ∈ wsL_law := List.mem_append_left _ (List.mem_append_left _ (List.mem_append_left _ (List.mem_append_left _ (List.mem_append_left _ (List.mem_append_left _ (List.mem_append_left _ (List.mem_append_left _ (List.mem_append_left _ (List.mem_append_left _ (List.mem_append_left _ (List.mem_append_left _ (List.mem_append_right _ (List.mem_append_right _ (List.mem_append_right _ (List.mem_append_right _ (List.mem_append_right _ (List.mem_append_right _ (List.mem_append_right _ (List.mem_append_right _ (List.mem_append_right _ (List.mem_append_right _ (List.mem_append_right _ (List.mem_append_right _ (List.mem_append_right _ (List.mem_append_right _ (List.mem_append_right _ (List.mem_append_right _ (List.mem_append_right _ (List.mem_append_right _ (List.mem_append_right _ (List.mem_append_right _ (List.mem_append_right _ (List.mem_append_right _ (List.mem_append_right _ (List.mem_append_right _ (List.mem_append_right _ (List.mem_append_right _ (List.mem_append_right _ (List.mem_append_right _ (List.mem_append_left _ h))))))))))))))))))))))))))))))))))))))))
theorem u_r30 (w : Cond) (h : w ∈ wsL_law_r30) : w ∈ wsL_law := List.mem_append_left _ (List.mem_append_left _ (List.mem_append_left _ (List.mem_append_left _ (List.mem_append_left _ (List.mem_append_left _ (List.mem_append_left _ (List.mem_append_left _ (List.mem_append_left _ (List.mem_append_left _ (List.mem_append_left _ (List.mem_append_left _ (List.mem_append_right _ (List.mem_append_right _ (List.mem_append_right _ (List.mem_append_right _ (List.mem_append_right _ (List.mem_append_right _ (List.mem_append_right _ (List.mem_append_right _ (List.mem_append_right _ (List.mem_append_right _ (List.mem_append_right _ (List.mem_append_right _ (List.mem_append_right _ (List.mem_append_right _ (List.mem_append_right _ (List.mem_append_right _ (List.mem_append_right _ (List.mem_append_right _ (List.mem_append_right _ (List.mem_append_right _ (List.mem_append_right _ (List.mem_append_right _ (List.mem_append_right _ (List.mem_append_right _ (List.mem_append_right _ (List.mem_append_right _ (List.mem_append_right _ (List.mem_append_right _ (List.mem_append_right _ (List.mem_append_left _ h)))))))))))))))))))))))))))))))))))))))))
theorem u_r31 (w : Cond) (h : w ∈ wsL_law_r31) : w ∈ wsL_law := List.mem_append_left _ (List.mem_append_left _ (List.mem_append_left _ (List.mem_append_left _ (List.mem_append_left _ (List.mem_append_left _ (List.mem_append_left _ (List.mem_append_left _ (List.mem_append_left _ (List.mem_append_left _ (List.mem_append_left _ (List.mem_append_left _ (List.mem_append_right _ (List.mem_append_right _ (List.mem_append_right _ (List.mem_append_right _ (List.mem_append_right _ (List.mem_append_right _ (List.mem_append_right _ (List.mem_append_right _ (List.mem_append_right _ (List.mem_append_right _ (List.mem_append_right _ (List.mem_append_right _ (List.mem_append_right _ (List.mem_append_right _ (List.mem_append_right _ (List.mem_append_right _ (List.mem_append_right _ (List.mem_append_right _ (List.mem_append_right _ (List.mem_append_right _ (List.mem_append_right _ (List.mem_append_right _ (List.mem_append_right _ (List.mem_append_right _ (List.mem_append_right _ (List.mem_append_right _ (List.mem_append_right _ (List.mem_append_right _ (List.mem_append_right _ (List.mem_append_right _ (List.mem_append_left _ h))))))))))))))))))))))))))))))))))))))))))
theorem u_r32 (w : Cond) (h : w ∈ wsL_law_r32) : w ∈ wsL_law := List.mem_append_left _ (List.mem_append_left _ (List.mem_append_left _ (List.mem_append_left _ (List.mem_append_left _ (List.mem_append_left _ (List.mem_append_left _ (List.mem_append_left _ (List.mem_append_left _ (List.mem_append_left _ (List.mem_append_left _ (List.mem_append_left _ (List.mem_append_right _ (List.mem_append_right _ (List.mem_append_right _ (List.mem_append_right _ (List.mem_append_right _ (List.mem_append_right _ (List.mem_append_right _ (List.mem_append_right _ (List.mem_append_right _ (List.mem_append_right _ (List.mem_append_right _ (List.mem_append_right _ (List.mem_append_right _ (List.mem_append_right _ (List.mem_append_right _ (List.mem_append_right _ (List.mem_append_right _ (List.mem_append_right _ (List.mem_append_right _ (List.mem_append_right _ (List.mem_append_right _ (List.mem_append_right _ (List.mem_append_right _ (List.mem_append_right _ (List.mem_append_right _ (List.mem_append_right _ (List.mem_append_right _ (List.mem_append_right _ (List.mem_append_right _ (List.mem_append_right _ (List.mem_append_right _ (List.mem_append_left _ h)))))))))))))))))))))))))))))))))))))))))))
theorem u_r33 (w : Cond) (h : w ∈ wsL_law_r33) : w ∈ wsL_law := List.mem_append_left _ (List.mem_append_left _ (List.mem_append_left _ (List.mem_append_left _ (List.mem_append_left _ (List.mem_append_left _ (List.mem_append_left _ (List.mem_append_left _ (List.mem_append_left _ (List.mem_append_left _ (List.mem_append_left _ (List.mem_append_left _ (List.mem_append_right _ (List.mem_append_right _ (List.mem_append_right _ (List.mem_append_right _ (List.mem_append_right _ (List.mem_append_right _ (List.mem_append_right _ (List.mem_append_right _ (List.mem_append_right _ (List.mem_append_right _ (List.mem_append_right _ (List.mem_append_right _ (List.mem_append_right _ (List.mem_append_right _ (List.mem_append_right _ (List.mem_append_right _ (List.mem_append_right _ (List.mem_append_right _ (List.mem_append_right _ (List.mem_append_right _ (List.mem_append_right _ (List.mem_append_right _ (List.mem_append_right _ (List.mem_append_right _ (List.mem_append_right _ (List.mem_append_right _ (List.mem_append_right _ (List.mem_append_right _ (List.mem_append_right _ (List.mem_append_right _ (List.mem_append_right _ (List.mem_append_right _ (List.mem_append_left _ h))))))))))))))))))))))))))))))))))))))))))))
theorem u_r34 (w : Cond) (h : w ∈ wsL_law_r34) : w ∈ wsL_law := List.mem_append_left _ (List.mem_append_left _ (List.mem_append_left _ (List.mem_append_left _ (List.mem_append_left _ (List.mem_append_left _ (List.mem_append_left _ (List.mem_append_left _ (List.mem_append_left _ (List.mem_append_left _ (List.mem_append_left _ (List.mem_append_left _ (List.mem_append_right _ (List.mem_append_right _ (List.mem_append_right _ (List.mem_append_right _ (List.mem_append_right _ (List.mem_append_right _ (List.mem_append_right _ (List.mem_append_right _ (List.mem_append_right _ (List.mem_append_right _ (List.mem_append_right _ (List.mem_append_right _ (List.mem_append_right _ (List.mem_append_right _ (List.mem_append_right _ (List.mem_append_right _ (List.mem_append_right _ (List.mem_append_right _ (List.mem_append_right _ (List.mem_append_right _ (List.mem_append_right _ (List.mem_append_right _ (List.mem_append_right _ (List.mem_append_right _ (List.mem_append_right _ (List.mem_append_right _ (List.mem_append_right _ (List.mem_append_right _ (List.mem_append_right _ (List.mem_append_right _ (List.mem_append_right _ (List.mem_append_right _ (List.mem_append_right _ (List.mem_append_left _ h)))))))))))))))))))))))))))))))))))))))))))))
theorem u_r35 (w : Cond) (h : w ∈ wsL_law_r35) : w ∈ wsL_law := List.mem_append_left _ (List.mem_append_left _ (List.mem_append_left _ (List.mem_append_left _ (List.mem_append_left _ (List.mem_append_left _ (List.mem_append_left _ (List.mem_append_left _ (List.mem_append_left _ (List.mem_append_left _ (List.mem_append_left _ (List.mem_append_left _ (List.mem_append_right _ (List.mem_append_right _ (List.mem_append_right _ (List.mem_append_right _ (List.mem_append_right _ (List.mem_append_right _ (List.mem_append_right _ (List.mem_append_right _ (List.mem_append_right _ (List.mem_append_right _ (List.mem_append_right _ (List.mem_append_right _ (List.mem_append_right _ (List.mem_append_right _ (List.mem_append_right _ (List.mem_append_right _ (List.mem_append_right _ (List.mem_append_right _ (List.mem_append_right _ (List.mem_append_right _ (List.mem_append_right _ (List.mem_append_right _ (List.mem_append_right _ (List.mem_append_right _ (List.mem_append_right _ (List.mem_append_right _ (List.mem_append_right _ (List.mem_append_right _ (List.mem_append_right _ (List.mem_append_right _ (List.mem_append_right _ (List.mem_append_right _ (List.mem_append_right _ (List.mem_append_right _ (List.mem_append_left _ h))))))))))))))))))))))))))))))))))))))))))))))
theorem u_r36 (w : Cond) (h : w ∈ wsL_law_r36) : w ∈ wsL_law := List.mem_append_left _ (List.mem_append_left _ (List.mem_append_left _ (List.mem_append_left _ (List.mem_append_left _ (List.mem_append_left _ (List.mem_append_left _ (List.mem_append_left _ (List.mem_append_left _ (List.mem_append_left _ (List.mem_append_left _ (List.mem_append_left _ (List.mem_append_right _ (List.mem_append_right _ (List.mem_append_right _ (List.mem_append_right _ (List.mem_append_right _ (List.mem_append_right _ (List.mem_append_right _ (List.mem_append_right _ (List.mem_append_right _ (List.mem_append_right _ (List.mem_append_right _ (List.mem_append_right _ (List.mem_append_right _ (List.mem_append_right _ (List.mem_append_right _ (List.mem_append_right _ (List.mem_append_right _ (List.mem_append_right _ (List.mem_append_right _ (List.mem_append_right _ (List.mem_append_right _ (List.mem_append_right _ (List.mem_append_right _ (List.mem_append_right _ (List.mem_append_right _ (List.mem_append_right _ (List.mem_append_right _ (List.mem_append_right _ (List.mem_append_right _ (List.mem_append_right _ (List.mem_append_right _ (List.mem_append_right _ (List.mem_append_right _ (List.mem_append_right _ (List.mem_append_right _ (List.mem_append_left _ h)))))))))))))))))))))))))))))))))))))))))))))))
theorem u_r37 (w : Cond) (h : w ∈ wsL_law_r37) : w ∈ wsL_law := List.mem_append_left _ (List.mem_append_left _ (List.mem_append_left _ (List.mem_append_left _ (List.mem_append_left _ (List.mem_append_left _ (List.mem_append_left _ (List.mem_append_left _ (List.mem_append_left _ (List.mem_append_left _ (List.mem_append_left _ (List.mem_append_left _ (List.mem_append_right _ (List.mem_append_right _ (List.mem_append_right _ (List.mem_append_right _ (List.mem_append_right _ (List.mem_append_right _ (List.mem_append_right _ (List.mem_append_right _ (List.mem_append_right _ (List.mem_append_right _ (List.mem_append_right _ (List.mem_append_right _ (List.mem_append_right _ (List.mem_append_right _ (List.mem_append_right _ (List.mem_append_right _ (List.mem_append_right _ (List.mem_append_right _ (List.mem_append_right _ (List.mem_append_right _ (List.mem_append_right _ (List.mem_append_right _ (List.mem_append_right _ (List.mem_append_right _ (List.mem_append_right _ (List.mem_append_right _ (List.mem_append_right _ (List.mem_append_right _ (List.mem_append_right _ (List.mem_append_right _ (List.mem_append_right _ (List.mem_append_right _ (List.mem_append_right _ (List.mem_append_right _ (List.mem_append_right _ (List.mem_append_right _ (List.mem_append_left _ h))))))))))))))))))))))))))))))))))))))))))))))))
theorem u_r38 (w : Cond) (h : w ∈ wsL_law_r38) : w ∈ wsL_law := List.mem_append_left _ (List.mem_append_left _ (List.mem_append_left _ (List.mem_append_left _ (List.mem_append_left _ (List.mem_append_left _ (List.mem_append_left _ (List.mem_append_left _ (List.mem_append_left _ (List.mem_append_left _ (List.mem_append_left _ (List.mem_append_left _ (List.mem_append_right _ (List.mem_append_right _ (List.mem_append_right _ (List.mem_append_right _ (List.mem_append_right _ (List.mem_append_right _ (List.mem_append_right _ (List.mem_append_right _ (List.mem_append_right _ (List.mem_append_right _ (List.mem_append_right _ (List.mem_append_right _ (List.mem_append_right _ (List.mem_append_right _ (List.mem_append_right _ (List.mem_append_right _ (List.mem_append_right _ (List.mem_append_right _ (List.mem_append_right _ (List.mem_append_right _ (List.mem_append_right _ (List.mem_append_right _ (List.mem_append_right _ (List.mem_append_right _ (List.mem_append_right _ (List.mem_append_right _ (List.mem_append_right _ (List.mem_append_right _ (List.mem_append_right _ (List.mem_append_right _ (List.mem_append_right _ (List.mem_append_right _ (List.mem_append_right _ (List.mem_append_right _ (List.mem_append_right _ (List.mem_append_right _ (List.mem_append_right _ (List.mem_append_left _ h)))))))))))))))))))))))))))))))))))))))))))))))))
theorem u_r39 (w : Cond) (h : w ∈ wsL_law_r39) : w ∈ wsL_law := List.mem_append_left _ (List.mem_append_left _ (List.mem_append_left _ (List.mem_append_left _ (List.mem_append_left _ (List.mem_append_left _ (List.mem_append_left _ (List.mem_append_left _ (List.mem_append_left _ (List.mem_append_left _ (List.mem_append_left _ (List.mem_append_left _ (List.mem_append_right _ (List.mem_append_right _ (List.mem_append_right _ (List.mem_append_right _ (List.mem_append_right _ (List.mem_append_right _ (List.mem_append_right _ (List.mem_append_right _ (List.mem_append_right _ (List.mem_append_right _ (List.mem_append_right _ (List.mem_append_right _ (List.mem_append_right _ (List.mem_append_right _ (List.mem_append_right _ (List.mem_append_right _ (List.mem_append_right _ (List.mem_append_right _ (List.mem_append_right _ (List.mem_append_right _ (List.mem_append_right _ (List.mem_append_right _ (List.mem_append_right _ (List.mem_append_right _ (List.mem_append_right _ (List.mem_append_right _ (List.mem_append_right _ (List.mem_append_right _ (List.mem_append_right _ (List.mem_append_right _ (List.mem_append_right _ (List.mem_append_right _ (List.mem_append_right _ (List.mem_append_right _ (List.mem_append_right _ (List.mem_append_right _ (List.mem_append_right _ (List.mem_append_right _ (List.mem_append_left _ h))))))))))))))))))))))))))))))))))))))))))))))))))
theorem u_r40 (w : Cond) (h : w ∈ wsL_law_r40) : w ∈ wsL_law := List.mem_append_left _ (List.mem_append_left _ (List.mem_append_left _ (List.mem_append_left _ (List.mem_append_left _ (List.mem_append_left _ (List.mem_append_left _ (List.mem_append_left _ (List.mem_append_left _ (List.mem_append_left _ (List.mem_append_left _ (List.mem_append_left _ (List.mem_append_right _ (List.mem_append_right _ (List.mem_append_right _ (List.mem_append_right _ (List.mem_append_right _ (List.mem_append_right _ (List.mem_append_right _ (List.mem_append_right _ (List.mem_append_right _ (List.mem_append_right _ (List.mem_append_right _ (List.mem_append_right _ (List.mem_append_right _ (List.mem_append_right _ (List.mem_append_right _ (List.mem_append_right _ (List.mem_append_right _ (List.mem_append_right _ (List.mem_append_right _ (List.mem_append_right _ (List.mem_append_right _ (List.mem_append_right _ (List.mem_append_right _ (List.mem_append_right _ (List.mem_append_right _ (List.mem_append_right _ (List.mem_append_right _ (List.mem_append_right _ (List.mem_append_right _ (List.mem_append_right _ (List.mem_append_right _ (List.mem_append_right _ (List.mem_append_right _ (List.mem_append_right _ (List.mem_append_right _ (List.mem_append_right _ (List.mem_append_right _ (List.mem_append_right _ (List.mem_append_right _ (List.mem_append_left _ h)))))))))))))))))))))))))))))))))))))))))))))))))))
theorem u_r41 (w : Cond) (h : w ∈ wsL_law_r41) : w ∈ wsL_law := List.mem_append_left _ (List.mem_append_left _ (List.mem_append_left _ (List.mem_append_left _ (List.mem_append_left _ (List.mem_append_left _ (List.mem_append_left _ (List.mem_append_left _ (List.mem_append_left _ (List.mem_append_left _ (List.mem_append_left _ (List.mem_append_left _ (List.mem_append_right _ (List.mem_append_right _ (List.mem_append_right _ (List.mem_append_right _ (List.mem_append_right _ (List.mem_append_right _ (List.mem_append_right _ (List.mem_append_right _ (List.mem_append_right _ (List.mem_append_right _ (List.mem_append_right _ (List.mem_append_right _ (List.mem_append_right _ (List.mem_append_right _ (List.mem_append_right _ (List.mem_append_right _ (List.mem_append_right _ (List.mem_append_right _ (List.mem_append_right _ (List.mem_append_right _ (List.mem_append_right _ (List.mem_append_right _ (List.mem_append_right _ (List.mem_append_right _ (List.mem_append_right _ (List.mem_append_right _ (List.mem_append_right _ (List.mem_append_right _ (List.mem_append_right _ (List.mem_append_right _ (List.mem_append_right _ (List.mem_append_right _ (List.mem_append_right _ (List.mem_append_right _ (List.mem_append_right _ (List.mem_append_right _ (List.mem_append_right _ (List.mem_append_right _ (List.mem_append_right _ (List.mem_append_right _ (List.mem_append_left _ h))))))))))))))))))))))))))))))))))))))))))))))))))))
theorem u_r42 (w : Cond) (h : w ∈ wsL_law_r42) : w ∈ wsL_law := List.mem_append_left _ (List.mem_append_left _ (List.mem_append_left _ (List.mem_append_left _ (List.mem_append_left _ (List.mem_append_left _ (List.mem_append_left _ (List.mem_append_left _ (List.mem_append_left _ (List.mem_append_left _ (List.mem_append_left _ (List.mem_append_left _ (List.mem_append_right _ (List.mem_append_right _ (List.mem_append_right _ (List.mem_append_right _ (List.mem_append_right _ (List.mem_append_right _ (List.mem_append_right _ (List.mem_append_right _ (List.mem_append_right _ (List.mem_append_right _ (List.mem_append_right _ (List.mem_append_right _ (List.mem_append_right _ (List.mem_append_right _ (List.mem_append_right _ (List.mem_append_right _ (List.mem_append_right _ (List.mem_append_right _ (List.mem_append_right _ (List.mem_append_right _ (List.mem_append_right _ (List.mem_append_right _ (List.mem_append_right _ (List.mem_append_right _ (List.mem_append_right _ (List.mem_append_right _ (List.mem_append_right _ (List.mem_append_right _ (List.mem_append_right _ (List.mem_append_right _ (List.mem_append_right _ (List.mem_append_right _ (List.mem_append_right _ (List.mem_append_right _ (List.mem_append_right _ (List.mem_append_right _ (List.mem_append_right _ (List.mem_append_right _ (List.mem_append_right _ (List.mem_append_right _ (List.mem_append_right _ (List.mem_append_left _ h)))))))))))))))))))))))))))))))))))))))))))))))))))))
theorem u_r43 (w : Cond) (h : w ∈ wsL_law_r43) : w ∈ wsL_law := List.mem_append_left _ (List.mem_append_left _ (List.mem_append_left _ (List.mem_append_left _ (List.mem_append_left _ (List.mem_append_left _ (List.mem_append_left _ (List.mem_append_left _ (List.mem_append_left _ (List.mem_append_left _ (List.mem_append_left _ (List.mem_append_left _ (List.mem_append_right _ (List.mem_append_right _ (List.mem_append_right _ (List.mem_append_right _ (List.mem_append_right _ (List.mem_append_right _ (List.mem_append_right _ (List.mem_append_right _ (List.mem_append_right _ (List.mem_append_right _ (List.mem_append_right _ (List.mem_append_right _ (List.mem_append_right _ (List.mem_append_right _ (List.mem_append_right _ (List.mem_append_right _ (List.mem_append_right _ (List.mem_append_right _ (List.mem_append_right _ (List.mem_append_right _ (List.mem_append_right _ (List.mem_append_right _ (List.mem_append_right _ (List.mem_append_right _ (List.mem_append_right _ (List.mem_append_right _ (List.mem_append_right _ (List.mem_append_right _ (List.mem_append_right _ (List.mem_append_right _ (List.mem_append_right _ (List.mem_append_right _ (List.mem_append_right _ (List.mem_append_right _ (List.mem_append_right _ (List.mem_append_right _ (List.mem_append_right _ (List.mem_append_right _ (List.mem_append_right _ (List.mem_append_right _ (List.mem_append_right _ (List.mem_append_right _ (List.mem_append_left _ h))))))))))))))))))))))))))))))))))))))))))))))))))))))
theorem u_r44 (w : Cond) (h : w ∈ wsL_law_r44) : w ∈ wsL_law := List.mem_append_left _ (List.mem_append_left _ (List.mem_append_left _ (List.mem_append_left _ (List.mem_append_left _ (List.mem_append_left _ (List.mem_append_left _ (List.mem_append_left _ (List.mem_append_left _ (List.mem_append_left _ (List.mem_append_left _ (List.mem_append_left _ (List.mem_append_right _ (List.mem_append_right _ (List.mem_append_right _ (List.mem_append_right _ (List.mem_append_right _ (List.mem_append_right _ (List.mem_append_right _ (List.mem_append_right _ (List.mem_append_right _ (List.mem_append_right _ (List.mem_append_right _ (List.mem_append_right _ (List.mem_append_right _ (List.mem_append_right _ (List.mem_append_right _ (List.mem_append_right _ (List.mem_append_right _ (List.mem_append_right _ (List.mem_append_right _ (List.mem_append_right _ (List.mem_append_right _ (List.mem_append_right _ (List.mem_append_right _ (List.mem_append_right _ (List.mem_append_right _ (List.mem_append_right _ (List.mem_append_right _ (List.mem_append_right _ (List.mem_append_right _ (List.mem_append_right _ (List.mem_append_right _ (List.mem_append_right _ (List.mem_append_right _ (List.mem_append_right _ (List.mem_append_right _ (List.mem_append_right _ (List.mem_append_right _ (List.mem_append_right _ (List.mem_append_right _ (List.mem_append_right _ (List.mem_append_right _ (List.mem_append_right _ (List.mem_append_right _ (List.mem_append_left _ h)))))))))))))))))))))))))))))))))))))))))))))))))))))))
theorem u_r45 (w : Cond) (h : w ∈ wsL_law_r45) : w ∈ wsL_law := List.mem_append_left _ (List.mem_append_left _ (List.mem_append_left _ (List.mem_append_left _ (List.mem_append_left _ (List.mem_append_left _ (List.mem_append_left _ (List.mem_append_left _ (List.mem_append_left _ (List.mem_append_left _ (List.mem_append_left _ (List.mem_append_left _ (List.mem_append_right _ (List.mem_append_right _ (List.mem_append_right _ (List.mem_append_right _ (List.mem_append_right _ (List.mem_append_right _ (List.mem_append_right _ (List.mem_append_right _ (List.mem_append_right _ (List.mem_append_right _ (List.mem_append_right _ (List.mem_append_right _ (List.mem_append_right _ (List.mem_append_right _ (List.mem_append_right _ (List.mem_append_right _ (List.mem_append_right _ (List.mem_append_right _ (List.mem_append_right _ (List.mem_append_right _ (List.mem_append_right _ (List.mem_append_right _ (List.mem_append_right _ (List.mem_append_right _ (List.mem_append_right _ (List.mem_append_right _ (List.mem_append_right _ (List.mem_append_right _ (List.mem_append_right _ (List.mem_append_right _ (List.mem_append_right _ (List.mem_append_right _ (List.mem_append_right _ (List.mem_append_right _ (List.mem_append_right _ (List.mem_append_right _ (List.mem_append_right _ (List.mem_append_right _ (List.mem_append_right _ (List.mem_append_right _ (List.mem_append_right _ (List.mem_append_right _ (List.mem_append_right _ (List.mem_append_right _ (List.mem_append_left _ h))))))))))))))))))))))))))))))))))))))))))))))))))))))))
theorem u_r46 (w : Cond) (h : w ∈ wsL_law_r46) : w ∈ wsL_law := List.mem_append_left _ (List.mem_append_left _ (List.mem_append_left _ (List.mem_append_left _ (List.mem_append_left _ (List.mem_append_left _ (List.mem_append_left _ (List.mem_append_left _ (List.mem_append_left _ (List.mem_append_left _ (List.mem_append_left _ (List.mem_append_left _ (List.mem_append_right _ (List.mem_append_right _ (List.mem_append_right _ (List.mem_append_right _ (List.mem_append_right _ (List.mem_append_right _ (List.mem_append_right _ (List.mem_append_right _ (List.mem_append_right _ (List.mem_append_right _ (List.mem_append_right _ (List.mem_append_right _ (List.mem_append_right _ (List.mem_append_right _ (List.mem_append_right _ (List.mem_append_right _ (List.mem_append_right _ (List.mem_append_right _ (List.mem_append_right _ (List.mem_append_right _ (List.mem_append_right _ (List.mem_append_right _ (List.mem_append_right _ (List.mem_append_right _ (List.mem_append_right _ (List.mem_append_right _ (List.mem_append_right _ (List.mem_append_right _ (List.mem_append_right _ (List.mem_append_right _ (List.mem_append_right _ (List.mem_append_right _ (List.mem_append_right _ (List.mem_append_right _ (List.mem_append_right _ (List.mem_append_right _ (List.mem_append_right _ (List.mem_append_right _ (List.mem_append_right _ (List.mem_append_right _ (List.mem_append_right _ (List.mem_append_right _ (List.mem_append_right _ (List.mem_append_right _ (List.mem_append_right _ (List.mem_append_left _ h)))))))))))))))))))))))))))))))))))))))))))))))))))))))))
theorem u_r47 (w : Cond) (h : w ∈ wsL_law_r47) : w ∈ wsL_law := List.mem_append_left _ (List.mem_append_left _ (List.mem_append_left _ (List.mem_append_left _ (List.mem_append_left _ (List.mem_append_left _ (List.mem_append_left _ (List.mem_append_left _ (List.mem_append_left _ (List.mem_append_left _ (List.mem_append_left _ (List.mem_append_left _ (List.mem_append_right _ (List.mem_append_right _ (List.mem_append_right _ (List.mem_append_right _ (List.mem_append_right _ (List.mem_append_right _ (List.mem_append_right _ (List.mem_append_right _ (List.mem_append_right _ (List.mem_append_right _ (List.mem_append_right _ (List.mem_append_right _ (List.mem_append_right _ (List.mem_append_right _ (List.mem_append_right _ (List.mem_append_right _ (List.mem_append_right _ (List.mem_append_right _ (List.mem_append_right _ (List.mem_append_right _ (List.mem_append_right _ (List.mem_append_right _ (List.mem_append_right _ (List.mem_append_right _ (List.mem_append_right _ (List.mem_append_right _ (List.mem_append_right _ (List.mem_append_right _ (List.mem_append_right _ (List.mem_append_right _ (List.mem_append_right _ (List.mem_append_right _ (List.mem_append_right _ (List.mem_append_right _ (List.mem_append_right _ (List.mem_append_right _ (List.mem_append_right _ (List.mem_append_right _ (List.mem_append_right _ (List.mem_append_right _ (List.mem_append_right _ (List.mem_append_right _ (List.mem_append_right _ (List.mem_append_right _ (List.mem_append_right _ (List.mem_append_right _ (List.mem_append_left _ h))))))))))))))))))))))))))))))))))))))))))))))))))))))))))
theorem u_r48 (w : Cond) (h : w ∈ wsL_law_r48) : w ∈ wsL_law := List.mem_append_left _ (List.mem_append_left _ (List.mem_append_left _ (List.mem_append_left _ (List.mem_append_left _ (List.mem_append_left _ (List.mem_append_left _ (List.mem_append_left _ (List.mem_append_left _ (List.mem_append_left _ (List.mem_append_left _ (List.mem_append_left _ (List.mem_append_right _ (List.mem_append_right _ (List.mem_append_right _ (List.mem_append_right _ (List.mem_append_right _ (List.mem_append_right _ (List.mem_append_right _ (List.mem_append_right _ (List.mem_append_right _ (List.mem_append_right _ (List.mem_append_right _ (List.mem_append_right _ (List.mem_append_right _ (List.mem_append_right _ (List.mem_append_right _ (List.mem_append_right _ (List.mem_append_right _ (List.mem_append_right _ (List.mem_append_right _ (List.mem_append_right _ (List.mem_append_right _ (List.mem_append_right _ (List.mem_append_right _ (List.mem_append_right _ (List.mem_append_right _ (List.mem_append_right _ (List.mem_append_right _ (List.mem_append_right _ (List.mem_append_right _ (List.mem_append_right _ (List.mem_append_right _ (List.mem_append_right _ (List.mem_append_right _ (List.mem_append_right _ (List.mem_append_right _ (List.mem_append_right _ (List.mem_append_right _ (List.mem_append_right _ (List.mem_append_right _ (List.mem_append_right _ (List.mem_append_right _ (List.mem_append_right _ (List.mem_append_right _ (List.mem_append_right _ (List.mem_append_right _ (List.mem_append_right _ (List.mem_append_right _ (List.mem_append_left _ h)))))))))))))))))))))))))))))))))))))))))))))))))))))))))))
theorem u_r49 (w : Cond) (h : w ∈ wsL_law_r49) : w ∈ wsL_law := List.mem_append_left _ (List.mem_append_left _ (List.mem_append_left _ (List.mem_append_left _ (List.mem_append_left _ (List.mem_append_left _ (List.mem_append_left _ (List.mem_append_left _ (List.mem_append_left _ (List.mem_append_left _ (List.mem_append_left _ (List.mem_append_left _ (List.mem_append_right _ (List.mem_append_right _ (List.mem_append_right _ (List.mem_append_right _ (List.mem_append_right _ (List.mem_append_right _ (List.mem_append_right _ (List.mem_append_right _ (List.mem_append_right _ (List.mem_append_right _ (List.mem_append_right _ (List.mem_append_right _ (List.mem_append_right _ (List.mem_append_right _ (List.mem_append_right _ (List.mem_append_right _ (List.mem_append_right _ (List.mem_append_right _ (List.mem_append_right _ (List.mem_append_right _ (List.mem_append_right _ (List.mem_append_right _ (List.mem_append_right _ (List.mem_append_right _ (List.mem_append_right _ (List.mem_append_right _ (List.mem_append_right _ (List.mem_append_right _ (List.mem_append_right _ (List.mem_append_right _ (List.mem_append_right _ (List.mem_append_right _ (List.mem_append_right _ (List.mem_append_right _ (List.mem_append_right _ (List.mem_append_right _ (List.mem_append_right _ (List.mem_append_right _ (List.mem_append_right _ (List.mem_append_right _ (List.mem_append_right _ (List.mem_append_right _ (List.mem_append_right _ (List.mem_append_right _ (List.mem_append_right _ (List.mem_append_right _ (List.mem_append_right _ (List.mem_append_right _ (List.mem_append_left _ h))))))))))))))))))))))))))))))))))))))))))))))))))))))))))))
theorem u_r50 (w : Cond) (h : w ∈ wsL_law_r50) : w ∈ wsL_law := List.mem_append_left _ (List.mem_append_left _ (List.mem_append_left _ (List.mem_append_left _ (List.mem_append_left _ (List.mem_append_left _ (List.mem_append_left _ (List.mem_append_left _ (List.mem_append_left _ (List.mem_append_left _ (List.mem_append_left _ (List.mem_append_left _ (List.mem_append_right _ (List.mem_append_right _ (List.mem_append_right _ (List.mem_append_right _ (List.mem_append_right _ (List.mem_append_right _ (List.mem_append_right _ (List.mem_append_right _ (List.mem_append_right _ (List.mem_append_right _ (List.mem_append_right _ (List.mem_append_right _ (List.mem_append_right _ (List.mem_append_right _ (List.mem_append_right _ (List.mem_append_right _ (List.mem_append_right _ (List.mem_append_right _ (List.mem_append_right _ (List.mem_append_right _ (List.mem_append_right _ (List.mem_append_right _ (List.mem_append_right _ (List.mem_append_right _ (List.mem_append_right _ (List.mem_append_right _ (List.mem_append_right _ (List.mem_append_right _ (List.mem_append_right _ (List.mem_append_right _ (List.mem_append_right _ (List.mem_append_right _ (List.mem_append_right _ (List.mem_append_right _ (List.mem_append_right _ (List.mem_append_right _ (List.mem_append_right _ (List.mem_append_right _ (List.mem_append_right _ (List.mem_append_right _ (List.mem_append_right _ (List.mem_append_right _ (List.mem_append_right _ (List.mem_append_right _ (List.mem_append_right _ (List.mem_append_right _ (List.mem_append_right _ (List.mem_append_right _ (List.mem_append_right _ h))))))))))))))))))))))))))))))))))))))))))))))))))))))))))))
theorem ul_L_7 : Cond.classLink RL 7 RX9 ∈ wsL_law := u_r1 _ (List.mem_of_getElem? (i := 0) rfl)
theorem ua_X9 : Cond.instantiable RX9 8 ∈ wsL_law := u_r1 _ (List.mem_of_getElem? (i := 1) rfl)
theorem un_X9 : Cond.initialized RX9 ∈ wsL_law := u_r1 _ (List.mem_of_getElem? (i := 2) rfl)
theorem ul_L_10 : Cond.classLink RL 10 RX10 ∈ wsL_law := u_r1 _ (List.mem_of_getElem? (i := 3) rfl)
theorem ua_X10 : Cond.instantiable RX10 18 ∈ wsL_law := u_r1 _ (List.mem_of_getElem? (i := 4) rfl)
theorem un_X10 : Cond.initialized RX10 ∈ wsL_law := u_r1 _ (List.mem_of_getElem? (i := 5) rfl)
theorem um_L_9 : Cond.methodLink RL 9 yX9_init ∈ wsL_law := u_r1 _ (List.mem_of_getElem? (i := 6) rfl)
theorem ui_X9_init : Cond.instanceMethod yX9_init ∈ wsL_law := u_r1 _ (List.mem_of_getElem? (i := 7) rfl)
theorem uc_X9_init : Cond.code yX9_init cX9_init 1 none ∈ wsL_law := u_r1 _ (List.mem_of_getElem? (i := 8) rfl)
theorem um_X9_1 : Cond.methodLink RX9 1 objectInit ∈ wsL_law := u_r1 _ (List.mem_of_getElem? (i := 9) rfl)
theorem ui_Jobj : Cond.instanceMethod objectInit ∈ wsL_law := u_r1 _ (List.mem_of_getElem? (i := 10) rfl)
theorem uc_Jobj : Cond.code objectInit ⟨#[0xb1]⟩ 1 none ∈ wsL_law := u_r1 _ (List.mem_of_getElem? (i := 11) rfl)
theorem ul_X9_7 : Cond.classLink RX9 7 RX6 ∈ wsL_law := u_r1 _ (List.mem_of_getElem? (i := 12) rfl)
theorem ua_X6 : Cond.instantiable RX6 7 ∈ wsL_law := u_r1 _ (List.mem_of_getElem? (i := 13) rfl)
theorem un_X6 : Cond.initialized RX6 ∈ wsL_law := u_r1 _ (List.mem_of_getElem? (i := 14) rfl)
theorem uf_X9_10 : Cond.fieldLink RX9 10 "RingOffices" "now" "LRingOffices$State;" ∈ wsL_law := u_r1 _ (List.mem_of_getElem? (i := 15) rfl)
theorem ul_X9_16 : Cond.classLink RX9 16 RX0 ∈ wsL_law := u_r1 _ (List.mem_of_getElem? (i := 16) rfl)
theorem ua_X0 : Cond.instantiable RX0 3 ∈ wsL_law := u_r1 _ (List.mem_of_getElem? (i := 17) rfl)
theorem un_X0 : Cond.initialized RX0 ∈ wsL_law := u_r1 _ (List.mem_of_getElem? (i := 18) rfl)
theorem uf_X9_19 : Cond.fieldLink RX9 19 "RingOffices" "history" "LRingOffices$History;" ∈ wsL_law := u_r1 _ (List.mem_of_getElem? (i := 19) rfl)
theorem ul_X9_23 : Cond.classLink RX9 23 RX5 ∈ wsL_law := u_r1 _ (List.mem_of_getElem? (i := 20) rfl)
theorem ua_X5 : Cond.instantiable RX5 2 ∈ wsL_law := u_r1 _ (List.mem_of_getElem? (i := 21) rfl)
theorem un_X5 : Cond.initialized RX5 ∈ wsL_law := u_r1 _ (List.mem_of_getElem? (i := 22) rfl)
theorem uf_X9_26 : Cond.fieldLink RX9 26 "RingOffices" "slots" "LRingOffices$Slots;" ∈ wsL_law := u_r1 _ (List.mem_of_getElem? (i := 23) rfl)
theorem ul_X9_30 : Cond.classLink RX9 30 RX4 ∈ wsL_law := u_r2 _ (List.mem_of_getElem? (i := 0) rfl)
theorem ua_X4 : Cond.instantiable RX4 3 ∈ wsL_law := u_r2 _ (List.mem_of_getElem? (i := 1) rfl)
theorem un_X4 : Cond.initialized RX4 ∈ wsL_law := u_r2 _ (List.mem_of_getElem? (i := 2) rfl)
theorem uf_X9_33 : Cond.fieldLink RX9 33 "RingOffices" "parser" "LRingOffices$SetupParser;" ∈ wsL_law := u_r2 _ (List.mem_of_getElem? (i := 3) rfl)
theorem uf_X9_37 : Cond.fieldLink RX9 37 "RingOffices$SetupParser" "scanner" "LRingOffices$Scanner;" ∈ wsL_law := u_r2 _ (List.mem_of_getElem? (i := 4) rfl)
theorem uf_X9_41 : Cond.fieldLink RX9 41 "RingOffices$Scanner" "text" "LRingOffices$Text;" ∈ wsL_law := u_r2 _ (List.mem_of_getElem? (i := 5) rfl)
theorem uf_X9_47 : Cond.fieldLink RX9 47 "RingOffices" "tape" "LRingOffices$Text;" ∈ wsL_law := u_r2 _ (List.mem_of_getElem? (i := 6) rfl)
theorem uf_X9_50 : Cond.fieldLink RX9 50 "RingOffices$SetupParser" "draft" "LRingOffices$State;" ∈ wsL_law := u_r2 _ (List.mem_of_getElem? (i := 7) rfl)
theorem uf_X9_53 : Cond.fieldLink RX9 53 "RingOffices" "scratch" "LRingOffices$State;" ∈ wsL_law := u_r2 _ (List.mem_of_getElem? (i := 8) rfl)
theorem ul_X9_56 : Cond.classLink RX9 56 RX7 ∈ wsL_law := u_r2 _ (List.mem_of_getElem? (i := 9) rfl)
theorem ua_X7 : Cond.instantiable RX7 2 ∈ wsL_law := u_r2 _ (List.mem_of_getElem? (i := 10) rfl)
theorem un_X7 : Cond.initialized RX7 ∈ wsL_law := u_r2 _ (List.mem_of_getElem? (i := 11) rfl)
theorem uf_X9_61 : Cond.fieldLink RX9 61 "RingOffices" "page" "LRingOffices$Text;" ∈ wsL_law := u_r2 _ (List.mem_of_getElem? (i := 12) rfl)
theorem uf_X9_64 : Cond.fieldLink RX9 64 "RingOffices" "errorAt" "I" ∈ wsL_law := u_r2 _ (List.mem_of_getElem? (i := 13) rfl)
theorem ui_X6_init : Cond.instanceMethod yX6_init ∈ wsL_law := u_r2 _ (List.mem_of_getElem? (i := 14) rfl)
theorem uc_X6_init : Cond.code yX6_init cX6_init 1 none ∈ wsL_law := u_r2 _ (List.mem_of_getElem? (i := 15) rfl)
theorem um_X6_3 : Cond.methodLink RX6 3 objectInit ∈ wsL_law := u_r2 _ (List.mem_of_getElem? (i := 16) rfl)
theorem ur_int : Cond.arrayClass .int ∈ wsL_law := u_r2 _ (List.mem_of_getElem? (i := 17) rfl)
theorem uf_X6_9 : Cond.fieldLink RX6 9 "RingOffices$State" "rules" "[I" ∈ wsL_law := u_r2 _ (List.mem_of_getElem? (i := 18) rfl)
theorem uf_X6_15 : Cond.fieldLink RX6 15 "RingOffices$State" "counts" "[I" ∈ wsL_law := u_r2 _ (List.mem_of_getElem? (i := 19) rfl)
theorem ul_X6_18 : Cond.classLink RX6 18 RX2 ∈ wsL_law := u_r2 _ (List.mem_of_getElem? (i := 20) rfl)
theorem ua_X2 : Cond.instantiable RX2 9 ∈ wsL_law := u_r2 _ (List.mem_of_getElem? (i := 21) rfl)
theorem un_X2 : Cond.initialized RX2 ∈ wsL_law := u_r2 _ (List.mem_of_getElem? (i := 22) rfl)
theorem uf_X6_21 : Cond.fieldLink RX6 21 "RingOffices$State" "offices" "LRingOffices$Offices;" ∈ wsL_law := u_r2 _ (List.mem_of_getElem? (i := 23) rfl)
theorem ul_X6_25 : Cond.classLink RX6 25 RX8 ∈ wsL_law := u_r3 _ (List.mem_of_getElem? (i := 0) rfl)
theorem ua_X8 : Cond.instantiable RX8 7 ∈ wsL_law := u_r3 _ (List.mem_of_getElem? (i := 1) rfl)
theorem un_X8 : Cond.initialized RX8 ∈ wsL_law := u_r3 _ (List.mem_of_getElem? (i := 2) rfl)
theorem uf_X6_28 : Cond.fieldLink RX6 28 "RingOffices$State" "tokens" "LRingOffices$Tokens;" ∈ wsL_law := u_r3 _ (List.mem_of_getElem? (i := 3) rfl)
theorem ul_X6_32 : Cond.classLink RX6 32 RX1 ∈ wsL_law := u_r3 _ (List.mem_of_getElem? (i := 4) rfl)
theorem ua_X1 : Cond.instantiable RX1 5 ∈ wsL_law := u_r3 _ (List.mem_of_getElem? (i := 5) rfl)
theorem un_X1 : Cond.initialized RX1 ∈ wsL_law := u_r3 _ (List.mem_of_getElem? (i := 6) rfl)
theorem uf_X6_35 : Cond.fieldLink RX6 35 "RingOffices$State" "log" "LRingOffices$Log;" ∈ wsL_law := u_r3 _ (List.mem_of_getElem? (i := 7) rfl)
theorem ui_X2_init : Cond.instanceMethod yX2_init ∈ wsL_law := u_r3 _ (List.mem_of_getElem? (i := 8) rfl)
theorem uc_X2_init : Cond.code yX2_init cX2_init 1 none ∈ wsL_law := u_r3 _ (List.mem_of_getElem? (i := 9) rfl)
theorem um_X2_3 : Cond.methodLink RX2 3 objectInit ∈ wsL_law := u_r3 _ (List.mem_of_getElem? (i := 10) rfl)
theorem uf_X2_9 : Cond.fieldLink RX2 9 "RingOffices$Offices" "way" "[I" ∈ wsL_law := u_r3 _ (List.mem_of_getElem? (i := 11) rfl)
theorem uf_X2_15 : Cond.fieldLink RX2 15 "RingOffices$Offices" "name" "[I" ∈ wsL_law := u_r3 _ (List.mem_of_getElem? (i := 12) rfl)
theorem uf_X2_18 : Cond.fieldLink RX2 18 "RingOffices$Offices" "open" "[I" ∈ wsL_law := u_r3 _ (List.mem_of_getElem? (i := 13) rfl)
theorem uf_X2_21 : Cond.fieldLink RX2 21 "RingOffices$Offices" "spokenToday" "[I" ∈ wsL_law := u_r3 _ (List.mem_of_getElem? (i := 14) rfl)
theorem uf_X2_24 : Cond.fieldLink RX2 24 "RingOffices$Offices" "readTo" "[I" ∈ wsL_law := u_r3 _ (List.mem_of_getElem? (i := 15) rfl)
theorem uf_X2_27 : Cond.fieldLink RX2 27 "RingOffices$Offices" "waiting" "[I" ∈ wsL_law := u_r3 _ (List.mem_of_getElem? (i := 16) rfl)
theorem uf_X2_30 : Cond.fieldLink RX2 30 "RingOffices$Offices" "letterTo" "[I" ∈ wsL_law := u_r3 _ (List.mem_of_getElem? (i := 17) rfl)
theorem uf_X2_33 : Cond.fieldLink RX2 33 "RingOffices$Offices" "letterLength" "[I" ∈ wsL_law := u_r3 _ (List.mem_of_getElem? (i := 18) rfl)
theorem ui_X8_init : Cond.instanceMethod yX8_init ∈ wsL_law := u_r3 _ (List.mem_of_getElem? (i := 19) rfl)
theorem uc_X8_init : Cond.code yX8_init cX8_init 1 none ∈ wsL_law := u_r3 _ (List.mem_of_getElem? (i := 20) rfl)
theorem um_X8_3 : Cond.methodLink RX8 3 objectInit ∈ wsL_law := u_r3 _ (List.mem_of_getElem? (i := 21) rfl)
theorem uf_X8_9 : Cond.fieldLink RX8 9 "RingOffices$Tokens" "number" "[I" ∈ wsL_law := u_r3 _ (List.mem_of_getElem? (i := 22) rfl)
theorem uf_X8_15 : Cond.fieldLink RX8 15 "RingOffices$Tokens" "place" "[I" ∈ wsL_law := u_r3 _ (List.mem_of_getElem? (i := 23) rfl)
theorem uf_X8_18 : Cond.fieldLink RX8 18 "RingOffices$Tokens" "togo" "[I" ∈ wsL_law := u_r4 _ (List.mem_of_getElem? (i := 0) rfl)
theorem uf_X8_21 : Cond.fieldLink RX8 21 "RingOffices$Tokens" "turn" "[I" ∈ wsL_law := u_r4 _ (List.mem_of_getElem? (i := 1) rfl)
theorem uf_X8_24 : Cond.fieldLink RX8 24 "RingOffices$Tokens" "left" "[I" ∈ wsL_law := u_r4 _ (List.mem_of_getElem? (i := 2) rfl)
theorem ui_X1_init : Cond.instanceMethod yX1_init ∈ wsL_law := u_r4 _ (List.mem_of_getElem? (i := 3) rfl)
theorem uc_X1_init : Cond.code yX1_init cX1_init 1 none ∈ wsL_law := u_r4 _ (List.mem_of_getElem? (i := 4) rfl)
theorem um_X1_3 : Cond.methodLink RX1 3 objectInit ∈ wsL_law := u_r4 _ (List.mem_of_getElem? (i := 5) rfl)
theorem uf_X1_9 : Cond.fieldLink RX1 9 "RingOffices$Log" "kind" "[I" ∈ wsL_law := u_r4 _ (List.mem_of_getElem? (i := 6) rfl)
theorem uf_X1_15 : Cond.fieldLink RX1 15 "RingOffices$Log" "first" "[I" ∈ wsL_law := u_r4 _ (List.mem_of_getElem? (i := 7) rfl)
theorem uf_X1_18 : Cond.fieldLink RX1 18 "RingOffices$Log" "second" "[I" ∈ wsL_law := u_r4 _ (List.mem_of_getElem? (i := 8) rfl)
theorem um_X9_18 : Cond.methodLink RX9 18 yX0_init ∈ wsL_law := u_r4 _ (List.mem_of_getElem? (i := 9) rfl)
theorem ui_X0_init : Cond.instanceMethod yX0_init ∈ wsL_law := u_r4 _ (List.mem_of_getElem? (i := 10) rfl)
theorem uc_X0_init : Cond.code yX0_init cX0_init 2 none ∈ wsL_law := u_r4 _ (List.mem_of_getElem? (i := 11) rfl)
theorem um_X0_3 : Cond.methodLink RX0 3 objectInit ∈ wsL_law := u_r4 _ (List.mem_of_getElem? (i := 12) rfl)
theorem ul_X0_9 : Cond.classLink RX0 9 RX6 ∈ wsL_law := u_r4 _ (List.mem_of_getElem? (i := 13) rfl)
theorem uf_X0_11 : Cond.fieldLink RX0 11 "RingOffices$History" "states" "[LRingOffices$State;" ∈ wsL_law := u_r4 _ (List.mem_of_getElem? (i := 14) rfl)
theorem um_X9_25 : Cond.methodLink RX9 25 yX5_init ∈ wsL_law := u_r4 _ (List.mem_of_getElem? (i := 15) rfl)
theorem ui_X5_init : Cond.instanceMethod yX5_init ∈ wsL_law := u_r4 _ (List.mem_of_getElem? (i := 16) rfl)
theorem uc_X5_init : Cond.code yX5_init cX5_init 2 none ∈ wsL_law := u_r4 _ (List.mem_of_getElem? (i := 17) rfl)
theorem um_X5_3 : Cond.methodLink RX5 3 objectInit ∈ wsL_law := u_r4 _ (List.mem_of_getElem? (i := 18) rfl)
theorem ul_X5_9 : Cond.classLink RX5 9 RX6 ∈ wsL_law := u_r4 _ (List.mem_of_getElem? (i := 19) rfl)
theorem uf_X5_11 : Cond.fieldLink RX5 11 "RingOffices$Slots" "states" "[LRingOffices$State;" ∈ wsL_law := u_r4 _ (List.mem_of_getElem? (i := 20) rfl)
theorem ur_boolean : Cond.arrayClass .boolean ∈ wsL_law := u_r4 _ (List.mem_of_getElem? (i := 21) rfl)
theorem uf_X5_17 : Cond.fieldLink RX5 17 "RingOffices$Slots" "isFull" "[Z" ∈ wsL_law := u_r4 _ (List.mem_of_getElem? (i := 22) rfl)
theorem ui_X4_init : Cond.instanceMethod yX4_init ∈ wsL_law := u_r4 _ (List.mem_of_getElem? (i := 23) rfl)
theorem uc_X4_init : Cond.code yX4_init cX4_init 1 none ∈ wsL_law := u_r5 _ (List.mem_of_getElem? (i := 0) rfl)
theorem um_X4_3 : Cond.methodLink RX4 3 objectInit ∈ wsL_law := u_r5 _ (List.mem_of_getElem? (i := 1) rfl)
theorem ul_X4_9 : Cond.classLink RX4 9 RX3 ∈ wsL_law := u_r5 _ (List.mem_of_getElem? (i := 2) rfl)
theorem ua_X3 : Cond.instantiable RX3 5 ∈ wsL_law := u_r5 _ (List.mem_of_getElem? (i := 3) rfl)
theorem un_X3 : Cond.initialized RX3 ∈ wsL_law := u_r5 _ (List.mem_of_getElem? (i := 4) rfl)
theorem uf_X4_12 : Cond.fieldLink RX4 12 "RingOffices$SetupParser" "scanner" "LRingOffices$Scanner;" ∈ wsL_law := u_r5 _ (List.mem_of_getElem? (i := 5) rfl)
theorem ul_X4_18 : Cond.classLink RX4 18 RX6 ∈ wsL_law := u_r5 _ (List.mem_of_getElem? (i := 6) rfl)
theorem uf_X4_21 : Cond.fieldLink RX4 21 "RingOffices$SetupParser" "draft" "LRingOffices$State;" ∈ wsL_law := u_r5 _ (List.mem_of_getElem? (i := 7) rfl)
theorem ui_X3_init : Cond.instanceMethod yX3_init ∈ wsL_law := u_r5 _ (List.mem_of_getElem? (i := 8) rfl)
theorem uc_X3_init : Cond.code yX3_init cX3_init 1 none ∈ wsL_law := u_r5 _ (List.mem_of_getElem? (i := 9) rfl)
theorem um_X3_3 : Cond.methodLink RX3 3 objectInit ∈ wsL_law := u_r5 _ (List.mem_of_getElem? (i := 10) rfl)
theorem ul_X3_9 : Cond.classLink RX3 9 RX7 ∈ wsL_law := u_r5 _ (List.mem_of_getElem? (i := 11) rfl)
theorem uf_X3_14 : Cond.fieldLink RX3 14 "RingOffices$Scanner" "text" "LRingOffices$Text;" ∈ wsL_law := u_r5 _ (List.mem_of_getElem? (i := 12) rfl)
theorem um_X3_11 : Cond.methodLink RX3 11 yX7_init ∈ wsL_law := u_r5 _ (List.mem_of_getElem? (i := 13) rfl)
theorem ui_X7_init : Cond.instanceMethod yX7_init ∈ wsL_law := u_r5 _ (List.mem_of_getElem? (i := 14) rfl)
theorem uc_X7_init : Cond.code yX7_init cX7_init 2 none ∈ wsL_law := u_r5 _ (List.mem_of_getElem? (i := 15) rfl)
theorem um_X7_3 : Cond.methodLink RX7 3 objectInit ∈ wsL_law := u_r5 _ (List.mem_of_getElem? (i := 16) rfl)
theorem ur_byte : Cond.arrayClass .byte ∈ wsL_law := u_r5 _ (List.mem_of_getElem? (i := 17) rfl)
theorem uf_X7_9 : Cond.fieldLink RX7 9 "RingOffices$Text" "bytes" "[B" ∈ wsL_law := u_r5 _ (List.mem_of_getElem? (i := 18) rfl)
theorem um_X9_58 : Cond.methodLink RX9 58 yX7_init ∈ wsL_law := u_r5 _ (List.mem_of_getElem? (i := 19) rfl)
theorem um_X9_68 : Cond.methodLink RX9 68 yX6_beginAsNew ∈ wsL_law := u_r5 _ (List.mem_of_getElem? (i := 20) rfl)
theorem ui_X6_beginAsNew : Cond.instanceMethod yX6_beginAsNew ∈ wsL_law := u_r5 _ (List.mem_of_getElem? (i := 21) rfl)
theorem us_X6_beginAsNew : Cond.selects RX6 yX6_beginAsNew yX6_beginAsNew ∈ wsL_law := u_r5 _ (List.mem_of_getElem? (i := 22) rfl)
theorem uc_X6_beginAsNew : Cond.code yX6_beginAsNew cX6_beginAsNew 1 none ∈ wsL_law := u_r5 _ (List.mem_of_getElem? (i := 23) rfl)
theorem ut_X9_put : Cond.static yX9_put ∈ wsL_law := u_r6 _ (List.mem_of_getElem? (i := 0) rfl)
theorem uc_X9_put : Cond.code yX9_put cX9_put 3 none ∈ wsL_law := u_r6 _ (List.mem_of_getElem? (i := 1) rfl)
theorem um_X6_64 : Cond.methodLink RX6 64 yX2_add ∈ wsL_law := u_r6 _ (List.mem_of_getElem? (i := 2) rfl)
theorem ui_X2_add : Cond.instanceMethod yX2_add ∈ wsL_law := u_r6 _ (List.mem_of_getElem? (i := 3) rfl)
theorem us_X2_add : Cond.selects RX2 yX2_add yX2_add ∈ wsL_law := u_r6 _ (List.mem_of_getElem? (i := 4) rfl)
theorem uc_X2_add : Cond.code yX2_add cX2_add 4 none ∈ wsL_law := u_r6 _ (List.mem_of_getElem? (i := 5) rfl)
theorem uf_X2_40 : Cond.fieldLink RX2 40 "RingOffices$Offices" "count" "I" ∈ wsL_law := u_r6 _ (List.mem_of_getElem? (i := 6) rfl)
theorem um_X6_68 : Cond.methodLink RX6 68 yX8_add ∈ wsL_law := u_r6 _ (List.mem_of_getElem? (i := 7) rfl)
theorem ui_X8_add : Cond.instanceMethod yX8_add ∈ wsL_law := u_r6 _ (List.mem_of_getElem? (i := 8) rfl)
theorem us_X8_add : Cond.selects RX8 yX8_add yX8_add ∈ wsL_law := u_r6 _ (List.mem_of_getElem? (i := 9) rfl)
theorem uc_X8_add : Cond.code yX8_add cX8_add 2 none ∈ wsL_law := u_r6 _ (List.mem_of_getElem? (i := 10) rfl)
theorem uf_X8_31 : Cond.fieldLink RX8 31 "RingOffices$Tokens" "count" "I" ∈ wsL_law := u_r6 _ (List.mem_of_getElem? (i := 11) rfl)
theorem uf_X8_35 : Cond.fieldLink RX8 35 "RingOffices$Tokens" "lastNumber" "I" ∈ wsL_law := u_r6 _ (List.mem_of_getElem? (i := 12) rfl)
theorem um_L_12 : Cond.methodLink RL 12 yX10_init ∈ wsL_law := u_r6 _ (List.mem_of_getElem? (i := 13) rfl)
theorem ui_X10_init : Cond.instanceMethod yX10_init ∈ wsL_law := u_r6 _ (List.mem_of_getElem? (i := 14) rfl)
theorem uc_X10_init : Cond.code yX10_init cX10_init 1 none ∈ wsL_law := u_r6 _ (List.mem_of_getElem? (i := 15) rfl)
theorem um_X10_1 : Cond.methodLink RX10 1 objectInit ∈ wsL_law := u_r6 _ (List.mem_of_getElem? (i := 16) rfl)
theorem uf_X10_7 : Cond.fieldLink RX10 7 "RingOfficesModel" "now" "[I" ∈ wsL_law := u_r6 _ (List.mem_of_getElem? (i := 17) rfl)
theorem uf_X10_13 : Cond.fieldLink RX10 13 "RingOfficesModel" "draft" "[I" ∈ wsL_law := u_r6 _ (List.mem_of_getElem? (i := 18) rfl)
theorem uf_X10_16 : Cond.fieldLink RX10 16 "RingOfficesModel" "spare" "[I" ∈ wsL_law := u_r6 _ (List.mem_of_getElem? (i := 19) rfl)
theorem uf_X10_19 : Cond.fieldLink RX10 19 "RingOfficesModel" "earlier" "[I" ∈ wsL_law := u_r6 _ (List.mem_of_getElem? (i := 20) rfl)
theorem uf_X10_22 : Cond.fieldLink RX10 22 "RingOfficesModel" "slots" "[I" ∈ wsL_law := u_r6 _ (List.mem_of_getElem? (i := 21) rfl)
theorem uf_X10_25 : Cond.fieldLink RX10 25 "RingOfficesModel" "isKept" "[Z" ∈ wsL_law := u_r6 _ (List.mem_of_getElem? (i := 22) rfl)
theorem uf_X10_29 : Cond.fieldLink RX10 29 "RingOfficesModel" "tape" "[I" ∈ wsL_law := u_r6 _ (List.mem_of_getElem? (i := 23) rfl)
theorem uf_X10_32 : Cond.fieldLink RX10 32 "RingOfficesModel" "error" "I" ∈ wsL_law := u_r7 _ (List.mem_of_getElem? (i := 0) rfl)
theorem uf_X10_36 : Cond.fieldLink RX10 36 "RingOfficesModel" "out" "[I" ∈ wsL_law := u_r7 _ (List.mem_of_getElem? (i := 1) rfl)
theorem um_X10_39 : Cond.methodLink RX10 39 yX10_addOffice ∈ wsL_law := u_r7 _ (List.mem_of_getElem? (i := 2) rfl)
theorem ut_X10_addOffice : Cond.static yX10_addOffice ∈ wsL_law := u_r7 _ (List.mem_of_getElem? (i := 3) rfl)
theorem uc_X10_addOffice : Cond.code yX10_addOffice cX10_addOffice 6 none ∈ wsL_law := u_r7 _ (List.mem_of_getElem? (i := 4) rfl)
theorem um_X10_54 : Cond.methodLink RX10 54 yX10_officeAt ∈ wsL_law := u_r7 _ (List.mem_of_getElem? (i := 5) rfl)
theorem ut_X10_officeAt : Cond.static yX10_officeAt ∈ wsL_law := u_r7 _ (List.mem_of_getElem? (i := 6) rfl)
theorem uc_X10_officeAt : Cond.code yX10_officeAt cX10_officeAt 2 (some .int) ∈ wsL_law := u_r7 _ (List.mem_of_getElem? (i := 7) rfl)
theorem um_X10_43 : Cond.methodLink RX10 43 yX10_addToken ∈ wsL_law := u_r7 _ (List.mem_of_getElem? (i := 8) rfl)
theorem ut_X10_addToken : Cond.static yX10_addToken ∈ wsL_law := u_r7 _ (List.mem_of_getElem? (i := 9) rfl)
theorem uc_X10_addToken : Cond.code yX10_addToken cX10_addToken 3 (some .int) ∈ wsL_law := u_r7 _ (List.mem_of_getElem? (i := 10) rfl)
theorem um_X10_66 : Cond.methodLink RX10 66 yX10_tokenAt ∈ wsL_law := u_r7 _ (List.mem_of_getElem? (i := 11) rfl)
theorem ut_X10_tokenAt : Cond.static yX10_tokenAt ∈ wsL_law := u_r7 _ (List.mem_of_getElem? (i := 12) rfl)
theorem uc_X10_tokenAt : Cond.code yX10_tokenAt cX10_tokenAt 2 (some .int) ∈ wsL_law := u_r7 _ (List.mem_of_getElem? (i := 13) rfl)
theorem um_L_13 : Cond.methodLink RL 13 yX9_append ∈ wsL_law := u_r7 _ (List.mem_of_getElem? (i := 14) rfl)
theorem ui_X9_append : Cond.instanceMethod yX9_append ∈ wsL_law := u_r7 _ (List.mem_of_getElem? (i := 15) rfl)
theorem us_X9_append : Cond.selects RX9 yX9_append yX9_append ∈ wsL_law := u_r7 _ (List.mem_of_getElem? (i := 16) rfl)
theorem uc_X9_append : Cond.code yX9_append cX9_append 6 (some .int) ∈ wsL_law := u_r7 _ (List.mem_of_getElem? (i := 17) rfl)
theorem uf_X9_71 : Cond.fieldLink RX9 71 "RingOffices$Text" "length" "I" ∈ wsL_law := u_r7 _ (List.mem_of_getElem? (i := 18) rfl)
theorem um_X9_74 : Cond.methodLink RX9 74 yX7_addFourBytes ∈ wsL_law := u_r7 _ (List.mem_of_getElem? (i := 19) rfl)
theorem ui_X7_addFourBytes : Cond.instanceMethod yX7_addFourBytes ∈ wsL_law := u_r7 _ (List.mem_of_getElem? (i := 20) rfl)
theorem us_X7_addFourBytes : Cond.selects RX7 yX7_addFourBytes yX7_addFourBytes ∈ wsL_law := u_r7 _ (List.mem_of_getElem? (i := 21) rfl)
theorem uc_X7_addFourBytes : Cond.code yX7_addFourBytes cX7_addFourBytes 2 none ∈ wsL_law := u_r7 _ (List.mem_of_getElem? (i := 22) rfl)
theorem um_X7_28 : Cond.methodLink RX7 28 yX7_add ∈ wsL_law := u_r7 _ (List.mem_of_getElem? (i := 23) rfl)
theorem ui_X7_add : Cond.instanceMethod yX7_add ∈ wsL_law := u_r8 _ (List.mem_of_getElem? (i := 0) rfl)
theorem us_X7_add : Cond.selects RX7 yX7_add yX7_add ∈ wsL_law := u_r8 _ (List.mem_of_getElem? (i := 1) rfl)
theorem uc_X7_add : Cond.code yX7_add cX7_add 2 none ∈ wsL_law := u_r8 _ (List.mem_of_getElem? (i := 2) rfl)
theorem uf_X7_15 : Cond.fieldLink RX7 15 "RingOffices$Text" "length" "I" ∈ wsL_law := u_r8 _ (List.mem_of_getElem? (i := 3) rfl)
theorem um_L_17 : Cond.methodLink RL 17 yX10_append ∈ wsL_law := u_r8 _ (List.mem_of_getElem? (i := 4) rfl)
theorem ui_X10_append : Cond.instanceMethod yX10_append ∈ wsL_law := u_r8 _ (List.mem_of_getElem? (i := 5) rfl)
theorem us_X10_append : Cond.selects RX10 yX10_append yX10_append ∈ wsL_law := u_r8 _ (List.mem_of_getElem? (i := 6) rfl)
theorem uc_X10_append : Cond.code yX10_append cX10_append 8 (some .int) ∈ wsL_law := u_r8 _ (List.mem_of_getElem? (i := 7) rfl)
theorem uf_X10_139 : Cond.fieldLink RX10 139 "RingOfficesModel" "length" "I" ∈ wsL_law := u_r8 _ (List.mem_of_getElem? (i := 8) rfl)
theorem um_L_18 : Cond.methodLink RL 18 yX9_truncate ∈ wsL_law := u_r8 _ (List.mem_of_getElem? (i := 9) rfl)
theorem ui_X9_truncate : Cond.instanceMethod yX9_truncate ∈ wsL_law := u_r8 _ (List.mem_of_getElem? (i := 10) rfl)
theorem us_X9_truncate : Cond.selects RX9 yX9_truncate yX9_truncate ∈ wsL_law := u_r8 _ (List.mem_of_getElem? (i := 11) rfl)
theorem uc_X9_truncate : Cond.code yX9_truncate cX9_truncate 2 (some .int) ∈ wsL_law := u_r8 _ (List.mem_of_getElem? (i := 12) rfl)
theorem um_L_22 : Cond.methodLink RL 22 yX10_truncate ∈ wsL_law := u_r8 _ (List.mem_of_getElem? (i := 13) rfl)
theorem ui_X10_truncate : Cond.instanceMethod yX10_truncate ∈ wsL_law := u_r8 _ (List.mem_of_getElem? (i := 14) rfl)
theorem us_X10_truncate : Cond.selects RX10 yX10_truncate yX10_truncate ∈ wsL_law := u_r8 _ (List.mem_of_getElem? (i := 15) rfl)
theorem uc_X10_truncate : Cond.code yX10_truncate cX10_truncate 2 (some .int) ∈ wsL_law := u_r8 _ (List.mem_of_getElem? (i := 16) rfl)
theorem um_L_23 : Cond.methodLink RL 23 yX9_load ∈ wsL_law := u_r8 _ (List.mem_of_getElem? (i := 17) rfl)
theorem ui_X9_load : Cond.instanceMethod yX9_load ∈ wsL_law := u_r8 _ (List.mem_of_getElem? (i := 18) rfl)
theorem us_X9_load : Cond.selects RX9 yX9_load yX9_load ∈ wsL_law := u_r8 _ (List.mem_of_getElem? (i := 19) rfl)
theorem uc_X9_load : Cond.code yX9_load cX9_load 1 (some .int) ∈ wsL_law := u_r8 _ (List.mem_of_getElem? (i := 20) rfl)
theorem uf_X9_89 : Cond.fieldLink RX9 89 "RingOffices$State" "offices" "LRingOffices$Offices;" ∈ wsL_law := u_r8 _ (List.mem_of_getElem? (i := 21) rfl)
theorem uf_X9_93 : Cond.fieldLink RX9 93 "RingOffices$Offices" "count" "I" ∈ wsL_law := u_r8 _ (List.mem_of_getElem? (i := 22) rfl)
theorem um_X9_77 : Cond.methodLink RX9 77 yX4_parse ∈ wsL_law := u_r8 _ (List.mem_of_getElem? (i := 23) rfl)
theorem ui_X4_parse : Cond.instanceMethod yX4_parse ∈ wsL_law := u_r9 _ (List.mem_of_getElem? (i := 0) rfl)
theorem us_X4_parse : Cond.selects RX4 yX4_parse yX4_parse ∈ wsL_law := u_r9 _ (List.mem_of_getElem? (i := 1) rfl)
theorem uc_X4_parse : Cond.code yX4_parse cX4_parse 2 (some .int) ∈ wsL_law := u_r9 _ (List.mem_of_getElem? (i := 2) rfl)
theorem uf_X4_49 : Cond.fieldLink RX4 49 "RingOffices$Scanner" "kind" "I" ∈ wsL_law := u_r9 _ (List.mem_of_getElem? (i := 3) rfl)
theorem uf_X4_53 : Cond.fieldLink RX4 53 "RingOffices$Scanner" "start" "I" ∈ wsL_law := u_r9 _ (List.mem_of_getElem? (i := 4) rfl)
theorem um_X4_25 : Cond.methodLink RX4 25 yX6_clear ∈ wsL_law := u_r9 _ (List.mem_of_getElem? (i := 5) rfl)
theorem ui_X6_clear : Cond.instanceMethod yX6_clear ∈ wsL_law := u_r9 _ (List.mem_of_getElem? (i := 6) rfl)
theorem us_X6_clear : Cond.selects RX6 yX6_clear yX6_clear ∈ wsL_law := u_r9 _ (List.mem_of_getElem? (i := 7) rfl)
theorem uc_X6_clear : Cond.code yX6_clear cX6_clear 2 none ∈ wsL_law := u_r9 _ (List.mem_of_getElem? (i := 8) rfl)
theorem uf_X6_71 : Cond.fieldLink RX6 71 "RingOffices$Offices" "count" "I" ∈ wsL_law := u_r9 _ (List.mem_of_getElem? (i := 9) rfl)
theorem uf_X6_74 : Cond.fieldLink RX6 74 "RingOffices$Tokens" "count" "I" ∈ wsL_law := u_r9 _ (List.mem_of_getElem? (i := 10) rfl)
theorem uf_X6_75 : Cond.fieldLink RX6 75 "RingOffices$Tokens" "lastNumber" "I" ∈ wsL_law := u_r9 _ (List.mem_of_getElem? (i := 11) rfl)
theorem uf_X6_78 : Cond.fieldLink RX6 78 "RingOffices$Log" "oldest" "I" ∈ wsL_law := u_r9 _ (List.mem_of_getElem? (i := 12) rfl)
theorem uf_X6_81 : Cond.fieldLink RX6 81 "RingOffices$Log" "count" "I" ∈ wsL_law := u_r9 _ (List.mem_of_getElem? (i := 13) rfl)
theorem uf_X6_53 : Cond.fieldLink RX6 53 "RingOffices$State" "time" "I" ∈ wsL_law := u_r9 _ (List.mem_of_getElem? (i := 14) rfl)
theorem uf_X6_57 : Cond.fieldLink RX6 57 "RingOffices$State" "silence" "I" ∈ wsL_law := u_r9 _ (List.mem_of_getElem? (i := 15) rfl)
theorem um_X4_28 : Cond.methodLink RX4 28 yX3_begin ∈ wsL_law := u_r9 _ (List.mem_of_getElem? (i := 16) rfl)
theorem ui_X3_begin : Cond.instanceMethod yX3_begin ∈ wsL_law := u_r9 _ (List.mem_of_getElem? (i := 17) rfl)
theorem us_X3_begin : Cond.selects RX3 yX3_begin yX3_begin ∈ wsL_law := u_r9 _ (List.mem_of_getElem? (i := 18) rfl)
theorem uc_X3_begin : Cond.code yX3_begin cX3_begin 1 none ∈ wsL_law := u_r9 _ (List.mem_of_getElem? (i := 19) rfl)
theorem uf_X3_20 : Cond.fieldLink RX3 20 "RingOffices$Scanner" "end" "I" ∈ wsL_law := u_r9 _ (List.mem_of_getElem? (i := 20) rfl)
theorem um_X3_24 : Cond.methodLink RX3 24 yX3_advance ∈ wsL_law := u_r9 _ (List.mem_of_getElem? (i := 21) rfl)
theorem ui_X3_advance : Cond.instanceMethod yX3_advance ∈ wsL_law := u_r9 _ (List.mem_of_getElem? (i := 22) rfl)
theorem us_X3_advance : Cond.selects RX3 yX3_advance yX3_advance ∈ wsL_law := u_r9 _ (List.mem_of_getElem? (i := 23) rfl)
theorem uc_X3_advance : Cond.code yX3_advance cX3_advance 2 none ∈ wsL_law := u_r10 _ (List.mem_of_getElem? (i := 0) rfl)
theorem uf_X3_30 : Cond.fieldLink RX3 30 "RingOffices$Scanner" "start" "I" ∈ wsL_law := u_r10 _ (List.mem_of_getElem? (i := 1) rfl)
theorem uf_X3_37 : Cond.fieldLink RX3 37 "RingOffices$Text" "length" "I" ∈ wsL_law := u_r10 _ (List.mem_of_getElem? (i := 2) rfl)
theorem uf_X3_40 : Cond.fieldLink RX3 40 "RingOffices$Scanner" "kind" "I" ∈ wsL_law := u_r10 _ (List.mem_of_getElem? (i := 3) rfl)
theorem um_X3_27 : Cond.methodLink RX3 27 yX3_skipWhiteSpace ∈ wsL_law := u_r10 _ (List.mem_of_getElem? (i := 4) rfl)
theorem ui_X3_skipWhiteSpace : Cond.instanceMethod yX3_skipWhiteSpace ∈ wsL_law := u_r10 _ (List.mem_of_getElem? (i := 5) rfl)
theorem us_X3_skipWhiteSpace : Cond.selects RX3 yX3_skipWhiteSpace yX3_skipWhiteSpace ∈ wsL_law := u_r10 _ (List.mem_of_getElem? (i := 6) rfl)
theorem uc_X3_skipWhiteSpace : Cond.code yX3_skipWhiteSpace cX3_skipWhiteSpace 1 none ∈ wsL_law := u_r10 _ (List.mem_of_getElem? (i := 7) rfl)
theorem um_X3_33 : Cond.methodLink RX3 33 yX7_byteAt ∈ wsL_law := u_r10 _ (List.mem_of_getElem? (i := 8) rfl)
theorem ui_X7_byteAt : Cond.instanceMethod yX7_byteAt ∈ wsL_law := u_r10 _ (List.mem_of_getElem? (i := 9) rfl)
theorem us_X7_byteAt : Cond.selects RX7 yX7_byteAt yX7_byteAt ∈ wsL_law := u_r10 _ (List.mem_of_getElem? (i := 10) rfl)
theorem uc_X7_byteAt : Cond.code yX7_byteAt cX7_byteAt 2 (some .int) ∈ wsL_law := u_r10 _ (List.mem_of_getElem? (i := 11) rfl)
theorem um_X3_59 : Cond.methodLink RX3 59 yX3_isWhiteSpace ∈ wsL_law := u_r10 _ (List.mem_of_getElem? (i := 12) rfl)
theorem ut_X3_isWhiteSpace : Cond.static yX3_isWhiteSpace ∈ wsL_law := u_r10 _ (List.mem_of_getElem? (i := 13) rfl)
theorem uc_X3_isWhiteSpace : Cond.code yX3_isWhiteSpace cX3_isWhiteSpace 1 (some .boolean) ∈ wsL_law := u_r10 _ (List.mem_of_getElem? (i := 14) rfl)
theorem um_X3_43 : Cond.methodLink RX3 43 yX3_isDigit ∈ wsL_law := u_r10 _ (List.mem_of_getElem? (i := 15) rfl)
theorem ut_X3_isDigit : Cond.static yX3_isDigit ∈ wsL_law := u_r10 _ (List.mem_of_getElem? (i := 16) rfl)
theorem uc_X3_isDigit : Cond.code yX3_isDigit cX3_isDigit 1 (some .boolean) ∈ wsL_law := u_r10 _ (List.mem_of_getElem? (i := 17) rfl)
theorem um_X3_47 : Cond.methodLink RX3 47 yX3_readNumeral ∈ wsL_law := u_r10 _ (List.mem_of_getElem? (i := 18) rfl)
theorem ui_X3_readNumeral : Cond.instanceMethod yX3_readNumeral ∈ wsL_law := u_r10 _ (List.mem_of_getElem? (i := 19) rfl)
theorem us_X3_readNumeral : Cond.selects RX3 yX3_readNumeral yX3_readNumeral ∈ wsL_law := u_r10 _ (List.mem_of_getElem? (i := 20) rfl)
theorem uc_X3_readNumeral : Cond.code yX3_readNumeral cX3_readNumeral 1 none ∈ wsL_law := u_r10 _ (List.mem_of_getElem? (i := 21) rfl)
theorem uf_X3_62 : Cond.fieldLink RX3 62 "RingOffices$Scanner" "number" "I" ∈ wsL_law := u_r10 _ (List.mem_of_getElem? (i := 22) rfl)
theorem um_X3_50 : Cond.methodLink RX3 50 yX3_isSmallLetter ∈ wsL_law := u_r10 _ (List.mem_of_getElem? (i := 23) rfl)
theorem ut_X3_isSmallLetter : Cond.static yX3_isSmallLetter ∈ wsL_law := u_r11 _ (List.mem_of_getElem? (i := 0) rfl)
theorem uc_X3_isSmallLetter : Cond.code yX3_isSmallLetter cX3_isSmallLetter 1 (some .boolean) ∈ wsL_law := u_r11 _ (List.mem_of_getElem? (i := 1) rfl)
theorem um_X3_53 : Cond.methodLink RX3 53 yX3_readWord ∈ wsL_law := u_r11 _ (List.mem_of_getElem? (i := 2) rfl)
theorem ui_X3_readWord : Cond.instanceMethod yX3_readWord ∈ wsL_law := u_r11 _ (List.mem_of_getElem? (i := 3) rfl)
theorem us_X3_readWord : Cond.selects RX3 yX3_readWord yX3_readWord ∈ wsL_law := u_r11 _ (List.mem_of_getElem? (i := 4) rfl)
theorem uc_X3_readWord : Cond.code yX3_readWord cX3_readWord 2 none ∈ wsL_law := u_r11 _ (List.mem_of_getElem? (i := 5) rfl)
theorem um_X3_65 : Cond.methodLink RX3 65 yX3_keyword ∈ wsL_law := u_r11 _ (List.mem_of_getElem? (i := 6) rfl)
theorem ut_X3_keyword : Cond.static yX3_keyword ∈ wsL_law := u_r11 _ (List.mem_of_getElem? (i := 7) rfl)
theorem uc_X3_keyword : Cond.code yX3_keyword cX3_keyword 1 (some (.object "java/lang/String")) ∈ wsL_law := u_r11 _ (List.mem_of_getElem? (i := 8) rfl)
theorem um_X3_69 : Cond.methodLink RX3 69 yX7_isWord ∈ wsL_law := u_r11 _ (List.mem_of_getElem? (i := 9) rfl)
theorem ui_X7_isWord : Cond.instanceMethod yX7_isWord ∈ wsL_law := u_r11 _ (List.mem_of_getElem? (i := 10) rfl)
theorem us_X7_isWord : Cond.selects RX7 yX7_isWord yX7_isWord ∈ wsL_law := u_r11 _ (List.mem_of_getElem? (i := 11) rfl)
theorem uc_X7_isWord : Cond.code yX7_isWord cX7_isWord 5 (some .boolean) ∈ wsL_law := u_r11 _ (List.mem_of_getElem? (i := 12) rfl)
theorem um_X7_19 : Cond.methodLink RX7 19 yJ0_length_8abf5 ∈ wsL_law := u_r11 _ (List.mem_of_getElem? (i := 13) rfl)
theorem ui_J0_length_8abf5 : Cond.instanceMethod yJ0_length_8abf5 ∈ wsL_law := u_r11 _ (List.mem_of_getElem? (i := 14) rfl)
theorem us_J0_length_8abf5 : Cond.selects RJ0 yJ0_length_8abf5 yJ0_length_8abf5 ∈ wsL_law := u_r11 _ (List.mem_of_getElem? (i := 15) rfl)
theorem un_J0 : Cond.initialized RJ0 ∈ wsL_law := u_r11 _ (List.mem_of_getElem? (i := 16) rfl)
theorem uc_J0_length_8abf5 : Cond.code yJ0_length_8abf5 cJ0_length_8abf5 1 (some .int) ∈ wsL_law := u_r11 _ (List.mem_of_getElem? (i := 17) rfl)
theorem uf_J0_9 : Cond.fieldLink RJ0 9 "java/lang/String" "value" "[B" ∈ wsL_law := u_r11 _ (List.mem_of_getElem? (i := 18) rfl)
theorem um_J0_335 : Cond.methodLink RJ0 335 yJ0_coder_7d493 ∈ wsL_law := u_r11 _ (List.mem_of_getElem? (i := 19) rfl)
theorem ui_J0_coder_7d493 : Cond.instanceMethod yJ0_coder_7d493 ∈ wsL_law := u_r11 _ (List.mem_of_getElem? (i := 20) rfl)
theorem us_J0_coder_7d493 : Cond.selects RJ0 yJ0_coder_7d493 yJ0_coder_7d493 ∈ wsL_law := u_r11 _ (List.mem_of_getElem? (i := 21) rfl)
theorem uc_J0_coder_7d493 : Cond.code yJ0_coder_7d493 cJ0_coder_7d493 1 (some .byte) ∈ wsL_law := u_r11 _ (List.mem_of_getElem? (i := 22) rfl)
theorem uf_J0_38 : Cond.fieldLink RJ0 38 "java/lang/String" "COMPACT_STRINGS" "Z" ∈ wsL_law := u_r11 _ (List.mem_of_getElem? (i := 23) rfl)
theorem uf_J0_15 : Cond.fieldLink RJ0 15 "java/lang/String" "coder" "B" ∈ wsL_law := u_r12 _ (List.mem_of_getElem? (i := 0) rfl)
theorem um_X7_24 : Cond.methodLink RX7 24 yJ0_charAt_5068e ∈ wsL_law := u_r12 _ (List.mem_of_getElem? (i := 1) rfl)
theorem ui_J0_charAt_5068e : Cond.instanceMethod yJ0_charAt_5068e ∈ wsL_law := u_r12 _ (List.mem_of_getElem? (i := 2) rfl)
theorem us_J0_charAt_5068e : Cond.selects RJ0 yJ0_charAt_5068e yJ0_charAt_5068e ∈ wsL_law := u_r12 _ (List.mem_of_getElem? (i := 3) rfl)
theorem uc_J0_charAt_5068e : Cond.code yJ0_charAt_5068e cJ0_charAt_5068e 2 (some .char) ∈ wsL_law := u_r12 _ (List.mem_of_getElem? (i := 4) rfl)
theorem um_J0_492 : Cond.methodLink RJ0 492 yJ0_isLatin1_aae02 ∈ wsL_law := u_r12 _ (List.mem_of_getElem? (i := 5) rfl)
theorem ui_J0_isLatin1_aae02 : Cond.instanceMethod yJ0_isLatin1_aae02 ∈ wsL_law := u_r12 _ (List.mem_of_getElem? (i := 6) rfl)
theorem us_J0_isLatin1_aae02 : Cond.selects RJ0 yJ0_isLatin1_aae02 yJ0_isLatin1_aae02 ∈ wsL_law := u_r12 _ (List.mem_of_getElem? (i := 7) rfl)
theorem uc_J0_isLatin1_aae02 : Cond.code yJ0_isLatin1_aae02 cJ0_isLatin1_aae02 1 (some .boolean) ∈ wsL_law := u_r12 _ (List.mem_of_getElem? (i := 8) rfl)
theorem um_J0_495 : Cond.methodLink RJ0 495 yJ1_charAt_3b067 ∈ wsL_law := u_r12 _ (List.mem_of_getElem? (i := 9) rfl)
theorem ut_J1_charAt_3b067 : Cond.static yJ1_charAt_3b067 ∈ wsL_law := u_r12 _ (List.mem_of_getElem? (i := 10) rfl)
theorem un_J1 : Cond.initialized RJ1 ∈ wsL_law := u_r12 _ (List.mem_of_getElem? (i := 11) rfl)
theorem uc_J1_charAt_3b067 : Cond.code yJ1_charAt_3b067 cJ1_charAt_3b067 2 (some .char) ∈ wsL_law := u_r12 _ (List.mem_of_getElem? (i := 12) rfl)
theorem um_J1_9 : Cond.methodLink RJ1 9 yJ0_checkIndex_df160 ∈ wsL_law := u_r12 _ (List.mem_of_getElem? (i := 13) rfl)
theorem ut_J0_checkIndex_df160 : Cond.static yJ0_checkIndex_df160 ∈ wsL_law := u_r12 _ (List.mem_of_getElem? (i := 14) rfl)
theorem uc_J0_checkIndex_df160 : Cond.code yJ0_checkIndex_df160 cJ0_checkIndex_df160 2 none ∈ wsL_law := u_r12 _ (List.mem_of_getElem? (i := 15) rfl)
theorem uf_J0_1053 : Cond.fieldLink RJ0 1053 "jdk/internal/util/Preconditions" "SIOOBE_FORMATTER" "Ljava/util/function/BiFunction;" ∈ wsL_law := u_r12 _ (List.mem_of_getElem? (i := 16) rfl)
theorem um_J0_1059 : Cond.methodLink RJ0 1059 yJ3_checkIndex_8e157 ∈ wsL_law := u_r12 _ (List.mem_of_getElem? (i := 17) rfl)
theorem ut_J3_checkIndex_8e157 : Cond.static yJ3_checkIndex_8e157 ∈ wsL_law := u_r12 _ (List.mem_of_getElem? (i := 18) rfl)
theorem un_J3 : Cond.initialized RJ3 ∈ wsL_law := u_r12 _ (List.mem_of_getElem? (i := 19) rfl)
theorem uc_J3_checkIndex_8e157 : Cond.code yJ3_checkIndex_8e157 cJ3_checkIndex_8e157 3 (some .int) ∈ wsL_law := u_r12 _ (List.mem_of_getElem? (i := 20) rfl)
theorem um_J0_498 : Cond.methodLink RJ0 498 yJ2_charAt_3b067 ∈ wsL_law := u_r12 _ (List.mem_of_getElem? (i := 21) rfl)
theorem ut_J2_charAt_3b067 : Cond.static yJ2_charAt_3b067 ∈ wsL_law := u_r12 _ (List.mem_of_getElem? (i := 22) rfl)
theorem un_J2 : Cond.initialized RJ2 ∈ wsL_law := u_r12 _ (List.mem_of_getElem? (i := 23) rfl)
theorem uc_J2_charAt_3b067 : Cond.code yJ2_charAt_3b067 cJ2_charAt_3b067 2 (some .char) ∈ wsL_law := u_r13 _ (List.mem_of_getElem? (i := 0) rfl)
theorem um_J2_67 : Cond.methodLink RJ2 67 yJ2_checkIndex_2214a ∈ wsL_law := u_r13 _ (List.mem_of_getElem? (i := 1) rfl)
theorem ut_J2_checkIndex_2214a : Cond.static yJ2_checkIndex_2214a ∈ wsL_law := u_r13 _ (List.mem_of_getElem? (i := 2) rfl)
theorem uc_J2_checkIndex_2214a : Cond.code yJ2_checkIndex_2214a cJ2_checkIndex_2214a 2 none ∈ wsL_law := u_r13 _ (List.mem_of_getElem? (i := 3) rfl)
theorem um_J2_48 : Cond.methodLink RJ2 48 yJ2_length_9d52b ∈ wsL_law := u_r13 _ (List.mem_of_getElem? (i := 4) rfl)
theorem ut_J2_length_9d52b : Cond.static yJ2_length_9d52b ∈ wsL_law := u_r13 _ (List.mem_of_getElem? (i := 5) rfl)
theorem uc_J2_length_9d52b : Cond.code yJ2_length_9d52b cJ2_length_9d52b 1 (some .int) ∈ wsL_law := u_r13 _ (List.mem_of_getElem? (i := 6) rfl)
theorem um_J2_414 : Cond.methodLink RJ2 414 yJ0_checkIndex_df160 ∈ wsL_law := u_r13 _ (List.mem_of_getElem? (i := 7) rfl)
theorem um_J2_71 : Cond.methodLink RJ2 71 yJ2_getChar_3b067 ∈ wsL_law := u_r13 _ (List.mem_of_getElem? (i := 8) rfl)
theorem ut_J2_getChar_3b067 : Cond.static yJ2_getChar_3b067 ∈ wsL_law := u_r13 _ (List.mem_of_getElem? (i := 9) rfl)
theorem uc_J2_getChar_3b067 : Cond.code yJ2_getChar_3b067 cJ2_getChar_3b067 2 (some .char) ∈ wsL_law := u_r13 _ (List.mem_of_getElem? (i := 10) rfl)
theorem uf_J2_44 : Cond.fieldLink RJ2 44 "java/lang/StringUTF16" "$assertionsDisabled" "Z" ∈ wsL_law := u_r13 _ (List.mem_of_getElem? (i := 11) rfl)
theorem uf_J2_59 : Cond.fieldLink RJ2 59 "java/lang/StringUTF16" "HI_BYTE_SHIFT" "I" ∈ wsL_law := u_r13 _ (List.mem_of_getElem? (i := 12) rfl)
theorem uf_J2_63 : Cond.fieldLink RJ2 63 "java/lang/StringUTF16" "LO_BYTE_SHIFT" "I" ∈ wsL_law := u_r13 _ (List.mem_of_getElem? (i := 13) rfl)
theorem um_X3_56 : Cond.methodLink RX3 56 yX3_readOther ∈ wsL_law := u_r13 _ (List.mem_of_getElem? (i := 14) rfl)
theorem ui_X3_readOther : Cond.instanceMethod yX3_readOther ∈ wsL_law := u_r13 _ (List.mem_of_getElem? (i := 15) rfl)
theorem us_X3_readOther : Cond.selects RX3 yX3_readOther yX3_readOther ∈ wsL_law := u_r13 _ (List.mem_of_getElem? (i := 16) rfl)
theorem uc_X3_readOther : Cond.code yX3_readOther cX3_readOther 2 none ∈ wsL_law := u_r13 _ (List.mem_of_getElem? (i := 17) rfl)
theorem um_X4_31 : Cond.methodLink RX4 31 yX4_parseRule ∈ wsL_law := u_r13 _ (List.mem_of_getElem? (i := 18) rfl)
theorem ui_X4_parseRule : Cond.instanceMethod yX4_parseRule ∈ wsL_law := u_r13 _ (List.mem_of_getElem? (i := 19) rfl)
theorem us_X4_parseRule : Cond.selects RX4 yX4_parseRule yX4_parseRule ∈ wsL_law := u_r13 _ (List.mem_of_getElem? (i := 20) rfl)
theorem uc_X4_parseRule : Cond.code yX4_parseRule cX4_parseRule 3 (some .boolean) ∈ wsL_law := u_r13 _ (List.mem_of_getElem? (i := 21) rfl)
theorem uf_X4_63 : Cond.fieldLink RX4 63 "RingOffices$State" "rules" "[I" ∈ wsL_law := u_r13 _ (List.mem_of_getElem? (i := 22) rfl)
theorem uf_X4_67 : Cond.fieldLink RX4 67 "RingOffices$SetupParser" "taken" "I" ∈ wsL_law := u_r13 _ (List.mem_of_getElem? (i := 23) rfl)
theorem um_X4_35 : Cond.methodLink RX4 35 yX4_take ∈ wsL_law := u_r14 _ (List.mem_of_getElem? (i := 0) rfl)
theorem ui_X4_take : Cond.instanceMethod yX4_take ∈ wsL_law := u_r14 _ (List.mem_of_getElem? (i := 1) rfl)
theorem us_X4_take : Cond.selects RX4 yX4_take yX4_take ∈ wsL_law := u_r14 _ (List.mem_of_getElem? (i := 2) rfl)
theorem uc_X4_take : Cond.code yX4_take cX4_take 2 (some .boolean) ∈ wsL_law := u_r14 _ (List.mem_of_getElem? (i := 3) rfl)
theorem um_X4_122 : Cond.methodLink RX4 122 yX3_advance ∈ wsL_law := u_r14 _ (List.mem_of_getElem? (i := 4) rfl)
theorem ut_X9_mostOfRule : Cond.static yX9_mostOfRule ∈ wsL_law := u_r14 _ (List.mem_of_getElem? (i := 5) rfl)
theorem uc_X9_mostOfRule : Cond.code yX9_mostOfRule cX9_mostOfRule 1 (some .int) ∈ wsL_law := u_r14 _ (List.mem_of_getElem? (i := 6) rfl)
theorem um_X4_60 : Cond.methodLink RX4 60 yX4_takeNumber ∈ wsL_law := u_r14 _ (List.mem_of_getElem? (i := 7) rfl)
theorem ui_X4_takeNumber : Cond.instanceMethod yX4_takeNumber ∈ wsL_law := u_r14 _ (List.mem_of_getElem? (i := 8) rfl)
theorem us_X4_takeNumber : Cond.selects RX4 yX4_takeNumber yX4_takeNumber ∈ wsL_law := u_r14 _ (List.mem_of_getElem? (i := 9) rfl)
theorem uc_X4_takeNumber : Cond.code yX4_takeNumber cX4_takeNumber 3 (some .boolean) ∈ wsL_law := u_r14 _ (List.mem_of_getElem? (i := 10) rfl)
theorem uf_X4_78 : Cond.fieldLink RX4 78 "RingOffices$Scanner" "number" "I" ∈ wsL_law := u_r14 _ (List.mem_of_getElem? (i := 11) rfl)
theorem ut_X9_isWithin : Cond.static yX9_isWithin ∈ wsL_law := u_r14 _ (List.mem_of_getElem? (i := 12) rfl)
theorem uc_X9_isWithin : Cond.code yX9_isWithin cX9_isWithin 3 (some .boolean) ∈ wsL_law := u_r14 _ (List.mem_of_getElem? (i := 13) rfl)
theorem um_X4_39 : Cond.methodLink RX4 39 yX4_parseOffices ∈ wsL_law := u_r14 _ (List.mem_of_getElem? (i := 14) rfl)
theorem ui_X4_parseOffices : Cond.instanceMethod yX4_parseOffices ∈ wsL_law := u_r14 _ (List.mem_of_getElem? (i := 15) rfl)
theorem us_X4_parseOffices : Cond.selects RX4 yX4_parseOffices yX4_parseOffices ∈ wsL_law := u_r14 _ (List.mem_of_getElem? (i := 16) rfl)
theorem uc_X4_parseOffices : Cond.code yX4_parseOffices cX4_parseOffices 5 (some .boolean) ∈ wsL_law := u_r14 _ (List.mem_of_getElem? (i := 17) rfl)
theorem uf_X4_74 : Cond.fieldLink RX4 74 "RingOffices$State" "offices" "LRingOffices$Offices;" ∈ wsL_law := u_r14 _ (List.mem_of_getElem? (i := 18) rfl)
theorem uf_X4_90 : Cond.fieldLink RX4 90 "RingOffices$Offices" "count" "I" ∈ wsL_law := u_r14 _ (List.mem_of_getElem? (i := 19) rfl)
theorem um_X4_81 : Cond.methodLink RX4 81 yX2_isNameTaken ∈ wsL_law := u_r14 _ (List.mem_of_getElem? (i := 20) rfl)
theorem ui_X2_isNameTaken : Cond.instanceMethod yX2_isNameTaken ∈ wsL_law := u_r14 _ (List.mem_of_getElem? (i := 21) rfl)
theorem us_X2_isNameTaken : Cond.selects RX2 yX2_isNameTaken yX2_isNameTaken ∈ wsL_law := u_r14 _ (List.mem_of_getElem? (i := 22) rfl)
theorem uc_X2_isNameTaken : Cond.code yX2_isNameTaken cX2_isNameTaken 3 (some .boolean) ∈ wsL_law := u_r14 _ (List.mem_of_getElem? (i := 23) rfl)
theorem ut_X9_at : Cond.static yX9_at ∈ wsL_law := u_r15 _ (List.mem_of_getElem? (i := 0) rfl)
theorem uc_X9_at : Cond.code yX9_at cX9_at 2 (some .int) ∈ wsL_law := u_r15 _ (List.mem_of_getElem? (i := 1) rfl)
theorem um_X4_86 : Cond.methodLink RX4 86 yX2_add ∈ wsL_law := u_r15 _ (List.mem_of_getElem? (i := 2) rfl)
theorem um_X4_43 : Cond.methodLink RX4 43 yX4_parseLetters ∈ wsL_law := u_r15 _ (List.mem_of_getElem? (i := 3) rfl)
theorem ui_X4_parseLetters : Cond.instanceMethod yX4_parseLetters ∈ wsL_law := u_r15 _ (List.mem_of_getElem? (i := 4) rfl)
theorem us_X4_parseLetters : Cond.selects RX4 yX4_parseLetters yX4_parseLetters ∈ wsL_law := u_r15 _ (List.mem_of_getElem? (i := 5) rfl)
theorem uc_X4_parseLetters : Cond.code yX4_parseLetters cX4_parseLetters 5 (some .boolean) ∈ wsL_law := u_r15 _ (List.mem_of_getElem? (i := 6) rfl)
theorem uf_X4_93 : Cond.fieldLink RX4 93 "RingOffices$Offices" "waiting" "[I" ∈ wsL_law := u_r15 _ (List.mem_of_getElem? (i := 7) rfl)
theorem uf_X4_103 : Cond.fieldLink RX4 103 "RingOffices$State" "counts" "[I" ∈ wsL_law := u_r15 _ (List.mem_of_getElem? (i := 8) rfl)
theorem um_X4_100 : Cond.methodLink RX4 100 yX2_addLetter ∈ wsL_law := u_r15 _ (List.mem_of_getElem? (i := 9) rfl)
theorem ui_X2_addLetter : Cond.instanceMethod yX2_addLetter ∈ wsL_law := u_r15 _ (List.mem_of_getElem? (i := 10) rfl)
theorem us_X2_addLetter : Cond.selects RX2 yX2_addLetter yX2_addLetter ∈ wsL_law := u_r15 _ (List.mem_of_getElem? (i := 11) rfl)
theorem uc_X2_addLetter : Cond.code yX2_addLetter cX2_addLetter 5 none ∈ wsL_law := u_r15 _ (List.mem_of_getElem? (i := 12) rfl)
theorem ut_X9_raise : Cond.static yX9_raise ∈ wsL_law := u_r15 _ (List.mem_of_getElem? (i := 13) rfl)
theorem uc_X9_raise : Cond.code yX9_raise cX9_raise 2 none ∈ wsL_law := u_r15 _ (List.mem_of_getElem? (i := 14) rfl)
theorem um_X4_46 : Cond.methodLink RX4 46 yX4_parseToken ∈ wsL_law := u_r15 _ (List.mem_of_getElem? (i := 15) rfl)
theorem ui_X4_parseToken : Cond.instanceMethod yX4_parseToken ∈ wsL_law := u_r15 _ (List.mem_of_getElem? (i := 16) rfl)
theorem us_X4_parseToken : Cond.selects RX4 yX4_parseToken yX4_parseToken ∈ wsL_law := u_r15 _ (List.mem_of_getElem? (i := 17) rfl)
theorem uc_X4_parseToken : Cond.code yX4_parseToken cX4_parseToken 1 (some .boolean) ∈ wsL_law := u_r15 _ (List.mem_of_getElem? (i := 18) rfl)
theorem uf_X4_113 : Cond.fieldLink RX4 113 "RingOffices$State" "tokens" "LRingOffices$Tokens;" ∈ wsL_law := u_r15 _ (List.mem_of_getElem? (i := 19) rfl)
theorem um_X4_110 : Cond.methodLink RX4 110 yX2_isOpen ∈ wsL_law := u_r15 _ (List.mem_of_getElem? (i := 20) rfl)
theorem ui_X2_isOpen : Cond.instanceMethod yX2_isOpen ∈ wsL_law := u_r15 _ (List.mem_of_getElem? (i := 21) rfl)
theorem us_X2_isOpen : Cond.selects RX2 yX2_isOpen yX2_isOpen ∈ wsL_law := u_r15 _ (List.mem_of_getElem? (i := 22) rfl)
theorem uc_X2_isOpen : Cond.code yX2_isOpen cX2_isOpen 2 (some .boolean) ∈ wsL_law := u_r15 _ (List.mem_of_getElem? (i := 23) rfl)
theorem um_X4_117 : Cond.methodLink RX4 117 yX8_add ∈ wsL_law := u_r16 _ (List.mem_of_getElem? (i := 0) rfl)
theorem um_X9_81 : Cond.methodLink RX9 81 yX6_copyFrom ∈ wsL_law := u_r16 _ (List.mem_of_getElem? (i := 1) rfl)
theorem ui_X6_copyFrom : Cond.instanceMethod yX6_copyFrom ∈ wsL_law := u_r16 _ (List.mem_of_getElem? (i := 2) rfl)
theorem us_X6_copyFrom : Cond.selects RX6 yX6_copyFrom yX6_copyFrom ∈ wsL_law := u_r16 _ (List.mem_of_getElem? (i := 3) rfl)
theorem uc_X6_copyFrom : Cond.code yX6_copyFrom cX6_copyFrom 2 none ∈ wsL_law := u_r16 _ (List.mem_of_getElem? (i := 4) rfl)
theorem ut_X9_copyRow : Cond.static yX9_copyRow ∈ wsL_law := u_r16 _ (List.mem_of_getElem? (i := 5) rfl)
theorem uc_X9_copyRow : Cond.code yX9_copyRow cX9_copyRow 2 none ∈ wsL_law := u_r16 _ (List.mem_of_getElem? (i := 6) rfl)
theorem um_X9_291 : Cond.methodLink RX9 291 Lib.Math.min.name ∈ wsL_law := u_r16 _ (List.mem_of_getElem? (i := 7) rfl)
theorem ut_Jmin : Cond.static Lib.Math.min.name ∈ wsL_law := u_r16 _ (List.mem_of_getElem? (i := 8) rfl)
theorem un_Math : Cond.initialized "java/lang/Math" ∈ wsL_law := u_r16 _ (List.mem_of_getElem? (i := 9) rfl)
theorem uc_Jmin : Cond.code Lib.Math.min.name Lib.Math.min.code 2 (some .int) ∈ wsL_law := u_r16 _ (List.mem_of_getElem? (i := 10) rfl)
theorem um_X9_296 : Cond.methodLink RX9 296 arraycopyName ∈ wsL_law := u_r16 _ (List.mem_of_getElem? (i := 11) rfl)
theorem uv_Jcopy : Cond.native arraycopyName ∈ wsL_law := u_r16 _ (List.mem_of_getElem? (i := 12) rfl)
theorem ut_Jcopy : Cond.static arraycopyName ∈ wsL_law := u_r16 _ (List.mem_of_getElem? (i := 13) rfl)
theorem un_System : Cond.initialized "java/lang/System" ∈ wsL_law := u_r16 _ (List.mem_of_getElem? (i := 14) rfl)
theorem um_X6_43 : Cond.methodLink RX6 43 yX2_copyFrom ∈ wsL_law := u_r16 _ (List.mem_of_getElem? (i := 15) rfl)
theorem ui_X2_copyFrom : Cond.instanceMethod yX2_copyFrom ∈ wsL_law := u_r16 _ (List.mem_of_getElem? (i := 16) rfl)
theorem us_X2_copyFrom : Cond.selects RX2 yX2_copyFrom yX2_copyFrom ∈ wsL_law := u_r16 _ (List.mem_of_getElem? (i := 17) rfl)
theorem uc_X2_copyFrom : Cond.code yX2_copyFrom cX2_copyFrom 2 none ∈ wsL_law := u_r16 _ (List.mem_of_getElem? (i := 18) rfl)
theorem um_X6_47 : Cond.methodLink RX6 47 yX8_copyFrom ∈ wsL_law := u_r16 _ (List.mem_of_getElem? (i := 19) rfl)
theorem ui_X8_copyFrom : Cond.instanceMethod yX8_copyFrom ∈ wsL_law := u_r16 _ (List.mem_of_getElem? (i := 20) rfl)
theorem us_X8_copyFrom : Cond.selects RX8 yX8_copyFrom yX8_copyFrom ∈ wsL_law := u_r16 _ (List.mem_of_getElem? (i := 21) rfl)
theorem uc_X8_copyFrom : Cond.code yX8_copyFrom cX8_copyFrom 2 none ∈ wsL_law := u_r16 _ (List.mem_of_getElem? (i := 22) rfl)
theorem um_X6_50 : Cond.methodLink RX6 50 yX1_copyFrom ∈ wsL_law := u_r16 _ (List.mem_of_getElem? (i := 23) rfl)
theorem ui_X1_copyFrom : Cond.instanceMethod yX1_copyFrom ∈ wsL_law := u_r17 _ (List.mem_of_getElem? (i := 0) rfl)
theorem us_X1_copyFrom : Cond.selects RX1 yX1_copyFrom yX1_copyFrom ∈ wsL_law := u_r17 _ (List.mem_of_getElem? (i := 1) rfl)
theorem uc_X1_copyFrom : Cond.code yX1_copyFrom cX1_copyFrom 2 none ∈ wsL_law := u_r17 _ (List.mem_of_getElem? (i := 2) rfl)
theorem uf_X1_25 : Cond.fieldLink RX1 25 "RingOffices$Log" "oldest" "I" ∈ wsL_law := u_r17 _ (List.mem_of_getElem? (i := 3) rfl)
theorem uf_X1_29 : Cond.fieldLink RX1 29 "RingOffices$Log" "count" "I" ∈ wsL_law := u_r17 _ (List.mem_of_getElem? (i := 4) rfl)
theorem um_X9_85 : Cond.methodLink RX9 85 yX5_forget ∈ wsL_law := u_r17 _ (List.mem_of_getElem? (i := 5) rfl)
theorem ui_X5_forget : Cond.instanceMethod yX5_forget ∈ wsL_law := u_r17 _ (List.mem_of_getElem? (i := 6) rfl)
theorem us_X5_forget : Cond.selects RX5 yX5_forget yX5_forget ∈ wsL_law := u_r17 _ (List.mem_of_getElem? (i := 7) rfl)
theorem uc_X5_forget : Cond.code yX5_forget cX5_forget 2 none ∈ wsL_law := u_r17 _ (List.mem_of_getElem? (i := 8) rfl)
theorem um_X9_88 : Cond.methodLink RX9 88 yX0_forget ∈ wsL_law := u_r17 _ (List.mem_of_getElem? (i := 9) rfl)
theorem ui_X0_forget : Cond.instanceMethod yX0_forget ∈ wsL_law := u_r17 _ (List.mem_of_getElem? (i := 10) rfl)
theorem us_X0_forget : Cond.selects RX0 yX0_forget yX0_forget ∈ wsL_law := u_r17 _ (List.mem_of_getElem? (i := 11) rfl)
theorem uc_X0_forget : Cond.code yX0_forget cX0_forget 1 none ∈ wsL_law := u_r17 _ (List.mem_of_getElem? (i := 12) rfl)
theorem uf_X0_18 : Cond.fieldLink RX0 18 "RingOffices$History" "count" "I" ∈ wsL_law := u_r17 _ (List.mem_of_getElem? (i := 13) rfl)
theorem um_L_27 : Cond.methodLink RL 27 yX10_load ∈ wsL_law := u_r17 _ (List.mem_of_getElem? (i := 14) rfl)
theorem ui_X10_load : Cond.instanceMethod yX10_load ∈ wsL_law := u_r17 _ (List.mem_of_getElem? (i := 15) rfl)
theorem us_X10_load : Cond.selects RX10 yX10_load yX10_load ∈ wsL_law := u_r17 _ (List.mem_of_getElem? (i := 16) rfl)
theorem uc_X10_load : Cond.code yX10_load cX10_load 2 (some .int) ∈ wsL_law := u_r17 _ (List.mem_of_getElem? (i := 17) rfl)
theorem uf_X10_142 : Cond.fieldLink RX10 142 "RingOfficesModel" "at" "I" ∈ wsL_law := u_r17 _ (List.mem_of_getElem? (i := 18) rfl)
theorem uf_X10_167 : Cond.fieldLink RX10 167 "RingOfficesModel" "fails" "Z" ∈ wsL_law := u_r17 _ (List.mem_of_getElem? (i := 19) rfl)
theorem uk_X10_192 : Cond.constant RX10 192 (10415990) ∈ wsL_law := u_r17 _ (List.mem_of_getElem? (i := 20) rfl)
theorem uk_X10_196 : Cond.constant RX10 196 (9454556) ∈ wsL_law := u_r17 _ (List.mem_of_getElem? (i := 21) rfl)
theorem uk_X10_197 : Cond.constant RX10 197 (9459316) ∈ wsL_law := u_r17 _ (List.mem_of_getElem? (i := 22) rfl)
theorem uf_X10_151 : Cond.fieldLink RX10 151 "RingOfficesModel" "kind" "I" ∈ wsL_law := u_r17 _ (List.mem_of_getElem? (i := 23) rfl)
theorem uk_X10_184 : Cond.constant RX10 184 (218546996) ∈ wsL_law := u_r18 _ (List.mem_of_getElem? (i := 0) rfl)
theorem uk_X10_201 : Cond.constant RX10 201 (175252482) ∈ wsL_law := u_r18 _ (List.mem_of_getElem? (i := 1) rfl)
theorem uk_X10_205 : Cond.constant RX10 205 (10932233) ∈ wsL_law := u_r18 _ (List.mem_of_getElem? (i := 2) rfl)
theorem uf_X10_209 : Cond.fieldLink RX10 209 "RingOfficesModel" "undos" "I" ∈ wsL_law := u_r18 _ (List.mem_of_getElem? (i := 3) rfl)
theorem um_X10_171 : Cond.methodLink RX10 171 yX10_next ∈ wsL_law := u_r18 _ (List.mem_of_getElem? (i := 4) rfl)
theorem ui_X10_next : Cond.instanceMethod yX10_next ∈ wsL_law := u_r18 _ (List.mem_of_getElem? (i := 5) rfl)
theorem us_X10_next : Cond.selects RX10 yX10_next yX10_next ∈ wsL_law := u_r18 _ (List.mem_of_getElem? (i := 6) rfl)
theorem uc_X10_next : Cond.code yX10_next cX10_next 1 none ∈ wsL_law := u_r18 _ (List.mem_of_getElem? (i := 7) rfl)
theorem uf_X10_145 : Cond.fieldLink RX10 145 "RingOfficesModel" "begin" "I" ∈ wsL_law := u_r18 _ (List.mem_of_getElem? (i := 8) rfl)
theorem uf_X10_148 : Cond.fieldLink RX10 148 "RingOfficesModel" "value" "I" ∈ wsL_law := u_r18 _ (List.mem_of_getElem? (i := 9) rfl)
theorem um_X10_154 : Cond.methodLink RX10 154 yX10_isSmall ∈ wsL_law := u_r18 _ (List.mem_of_getElem? (i := 10) rfl)
theorem ui_X10_isSmall : Cond.instanceMethod yX10_isSmall ∈ wsL_law := u_r18 _ (List.mem_of_getElem? (i := 11) rfl)
theorem us_X10_isSmall : Cond.selects RX10 yX10_isSmall yX10_isSmall ∈ wsL_law := u_r18 _ (List.mem_of_getElem? (i := 12) rfl)
theorem uc_X10_isSmall : Cond.code yX10_isSmall cX10_isSmall 2 (some .boolean) ∈ wsL_law := u_r18 _ (List.mem_of_getElem? (i := 13) rfl)
theorem um_X10_158 : Cond.methodLink RX10 158 yX10_nextWord ∈ wsL_law := u_r18 _ (List.mem_of_getElem? (i := 14) rfl)
theorem ui_X10_nextWord : Cond.instanceMethod yX10_nextWord ∈ wsL_law := u_r18 _ (List.mem_of_getElem? (i := 15) rfl)
theorem us_X10_nextWord : Cond.selects RX10 yX10_nextWord yX10_nextWord ∈ wsL_law := u_r18 _ (List.mem_of_getElem? (i := 16) rfl)
theorem uc_X10_nextWord : Cond.code yX10_nextWord cX10_nextWord 1 none ∈ wsL_law := u_r18 _ (List.mem_of_getElem? (i := 17) rfl)
theorem um_X10_161 : Cond.methodLink RX10 161 yX10_isDigit ∈ wsL_law := u_r18 _ (List.mem_of_getElem? (i := 18) rfl)
theorem ui_X10_isDigit : Cond.instanceMethod yX10_isDigit ∈ wsL_law := u_r18 _ (List.mem_of_getElem? (i := 19) rfl)
theorem us_X10_isDigit : Cond.selects RX10 yX10_isDigit yX10_isDigit ∈ wsL_law := u_r18 _ (List.mem_of_getElem? (i := 20) rfl)
theorem uc_X10_isDigit : Cond.code yX10_isDigit cX10_isDigit 2 (some .boolean) ∈ wsL_law := u_r18 _ (List.mem_of_getElem? (i := 21) rfl)
theorem um_X10_164 : Cond.methodLink RX10 164 yX10_nextNumber ∈ wsL_law := u_r18 _ (List.mem_of_getElem? (i := 22) rfl)
theorem ui_X10_nextNumber : Cond.instanceMethod yX10_nextNumber ∈ wsL_law := u_r18 _ (List.mem_of_getElem? (i := 23) rfl)
theorem us_X10_nextNumber : Cond.selects RX10 yX10_nextNumber yX10_nextNumber ∈ wsL_law := u_r19 _ (List.mem_of_getElem? (i := 0) rfl)
theorem uc_X10_nextNumber : Cond.code yX10_nextNumber cX10_nextNumber 1 none ∈ wsL_law := u_r19 _ (List.mem_of_getElem? (i := 1) rfl)
theorem um_X10_193 : Cond.methodLink RX10 193 yX10_takesRule ∈ wsL_law := u_r19 _ (List.mem_of_getElem? (i := 2) rfl)
theorem ui_X10_takesRule : Cond.instanceMethod yX10_takesRule ∈ wsL_law := u_r19 _ (List.mem_of_getElem? (i := 3) rfl)
theorem us_X10_takesRule : Cond.selects RX10 yX10_takesRule yX10_takesRule ∈ wsL_law := u_r19 _ (List.mem_of_getElem? (i := 4) rfl)
theorem uc_X10_takesRule : Cond.code yX10_takesRule cX10_takesRule 3 (some .int) ∈ wsL_law := u_r19 _ (List.mem_of_getElem? (i := 5) rfl)
theorem um_X10_178 : Cond.methodLink RX10 178 yX10_is ∈ wsL_law := u_r19 _ (List.mem_of_getElem? (i := 6) rfl)
theorem ui_X10_is : Cond.instanceMethod yX10_is ∈ wsL_law := u_r19 _ (List.mem_of_getElem? (i := 7) rfl)
theorem us_X10_is : Cond.selects RX10 yX10_is yX10_is ∈ wsL_law := u_r19 _ (List.mem_of_getElem? (i := 8) rfl)
theorem uc_X10_is : Cond.code yX10_is cX10_is 2 (some .boolean) ∈ wsL_law := u_r19 _ (List.mem_of_getElem? (i := 9) rfl)
theorem um_X10_174 : Cond.methodLink RX10 174 yX10_takes ∈ wsL_law := u_r19 _ (List.mem_of_getElem? (i := 10) rfl)
theorem ui_X10_takes : Cond.instanceMethod yX10_takes ∈ wsL_law := u_r19 _ (List.mem_of_getElem? (i := 11) rfl)
theorem us_X10_takes : Cond.selects RX10 yX10_takes yX10_takes ∈ wsL_law := u_r19 _ (List.mem_of_getElem? (i := 12) rfl)
theorem uc_X10_takes : Cond.code yX10_takes cX10_takes 2 (some .boolean) ∈ wsL_law := u_r19 _ (List.mem_of_getElem? (i := 13) rfl)
theorem um_X10_181 : Cond.methodLink RX10 181 yX10_takesNumber ∈ wsL_law := u_r19 _ (List.mem_of_getElem? (i := 14) rfl)
theorem ui_X10_takesNumber : Cond.instanceMethod yX10_takesNumber ∈ wsL_law := u_r19 _ (List.mem_of_getElem? (i := 15) rfl)
theorem us_X10_takesNumber : Cond.selects RX10 yX10_takesNumber yX10_takesNumber ∈ wsL_law := u_r19 _ (List.mem_of_getElem? (i := 16) rfl)
theorem uc_X10_takesNumber : Cond.code yX10_takesNumber cX10_takesNumber 4 (some .int) ∈ wsL_law := u_r19 _ (List.mem_of_getElem? (i := 17) rfl)
theorem um_X10_58 : Cond.methodLink RX10 58 yX10_in ∈ wsL_law := u_r19 _ (List.mem_of_getElem? (i := 18) rfl)
theorem ut_X10_in : Cond.static yX10_in ∈ wsL_law := u_r19 _ (List.mem_of_getElem? (i := 19) rfl)
theorem uc_X10_in : Cond.code yX10_in cX10_in 3 (some .boolean) ∈ wsL_law := u_r19 _ (List.mem_of_getElem? (i := 20) rfl)
theorem um_X10_198 : Cond.methodLink RX10 198 yX10_readOffice ∈ wsL_law := u_r19 _ (List.mem_of_getElem? (i := 21) rfl)
theorem ui_X10_readOffice : Cond.instanceMethod yX10_readOffice ∈ wsL_law := u_r19 _ (List.mem_of_getElem? (i := 22) rfl)
theorem us_X10_readOffice : Cond.selects RX10 yX10_readOffice yX10_readOffice ∈ wsL_law := u_r19 _ (List.mem_of_getElem? (i := 23) rfl)
theorem uc_X10_readOffice : Cond.code yX10_readOffice cX10_readOffice 4 none ∈ wsL_law := u_r20 _ (List.mem_of_getElem? (i := 0) rfl)
theorem uk_X10_188 : Cond.constant RX10 188 (380396) ∈ wsL_law := u_r20 _ (List.mem_of_getElem? (i := 1) rfl)
theorem um_X10_185 : Cond.methodLink RX10 185 yX10_isNamed ∈ wsL_law := u_r20 _ (List.mem_of_getElem? (i := 2) rfl)
theorem ut_X10_isNamed : Cond.static yX10_isNamed ∈ wsL_law := u_r20 _ (List.mem_of_getElem? (i := 3) rfl)
theorem uc_X10_isNamed : Cond.code yX10_isNamed cX10_isNamed 3 (some .boolean) ∈ wsL_law := u_r20 _ (List.mem_of_getElem? (i := 4) rfl)
theorem um_X10_202 : Cond.methodLink RX10 202 yX10_readLetter ∈ wsL_law := u_r20 _ (List.mem_of_getElem? (i := 5) rfl)
theorem ui_X10_readLetter : Cond.instanceMethod yX10_readLetter ∈ wsL_law := u_r20 _ (List.mem_of_getElem? (i := 6) rfl)
theorem us_X10_readLetter : Cond.selects RX10 yX10_readLetter yX10_readLetter ∈ wsL_law := u_r20 _ (List.mem_of_getElem? (i := 7) rfl)
theorem uc_X10_readLetter : Cond.code yX10_readLetter cX10_readLetter 4 none ∈ wsL_law := u_r20 _ (List.mem_of_getElem? (i := 8) rfl)
theorem um_X10_189 : Cond.methodLink RX10 189 yX10_addLetter ∈ wsL_law := u_r20 _ (List.mem_of_getElem? (i := 9) rfl)
theorem ut_X10_addLetter : Cond.static yX10_addLetter ∈ wsL_law := u_r20 _ (List.mem_of_getElem? (i := 10) rfl)
theorem uc_X10_addLetter : Cond.code yX10_addLetter cX10_addLetter 5 none ∈ wsL_law := u_r20 _ (List.mem_of_getElem? (i := 11) rfl)
theorem um_X10_62 : Cond.methodLink RX10 62 yX10_letterAt ∈ wsL_law := u_r20 _ (List.mem_of_getElem? (i := 12) rfl)
theorem ut_X10_letterAt : Cond.static yX10_letterAt ∈ wsL_law := u_r20 _ (List.mem_of_getElem? (i := 13) rfl)
theorem uc_X10_letterAt : Cond.code yX10_letterAt cX10_letterAt 3 (some .int) ∈ wsL_law := u_r20 _ (List.mem_of_getElem? (i := 14) rfl)
theorem um_X10_206 : Cond.methodLink RX10 206 yX10_readToken ∈ wsL_law := u_r20 _ (List.mem_of_getElem? (i := 15) rfl)
theorem ui_X10_readToken : Cond.instanceMethod yX10_readToken ∈ wsL_law := u_r20 _ (List.mem_of_getElem? (i := 16) rfl)
theorem us_X10_readToken : Cond.selects RX10 yX10_readToken yX10_readToken ∈ wsL_law := u_r20 _ (List.mem_of_getElem? (i := 17) rfl)
theorem uc_X10_readToken : Cond.code yX10_readToken cX10_readToken 2 none ∈ wsL_law := u_r20 _ (List.mem_of_getElem? (i := 18) rfl)
theorem um_X10_73 : Cond.methodLink RX10 73 yX10_isOpen ∈ wsL_law := u_r20 _ (List.mem_of_getElem? (i := 19) rfl)
theorem ut_X10_isOpen : Cond.static yX10_isOpen ∈ wsL_law := u_r20 _ (List.mem_of_getElem? (i := 20) rfl)
theorem uc_X10_isOpen : Cond.code yX10_isOpen cX10_isOpen 2 (some .boolean) ∈ wsL_law := u_r20 _ (List.mem_of_getElem? (i := 21) rfl)
theorem um_X10_50 : Cond.methodLink RX10 50 yX10_layRow ∈ wsL_law := u_r20 _ (List.mem_of_getElem? (i := 22) rfl)
theorem ut_X10_layRow : Cond.static yX10_layRow ∈ wsL_law := u_r20 _ (List.mem_of_getElem? (i := 23) rfl)
theorem uc_X10_layRow : Cond.code yX10_layRow cX10_layRow 5 none ∈ wsL_law := u_r21 _ (List.mem_of_getElem? (i := 0) rfl)
theorem um_L_28 : Cond.methodLink RL 28 yX9_errorPosition ∈ wsL_law := u_r21 _ (List.mem_of_getElem? (i := 1) rfl)
theorem ui_X9_errorPosition : Cond.instanceMethod yX9_errorPosition ∈ wsL_law := u_r21 _ (List.mem_of_getElem? (i := 2) rfl)
theorem us_X9_errorPosition : Cond.selects RX9 yX9_errorPosition yX9_errorPosition ∈ wsL_law := u_r21 _ (List.mem_of_getElem? (i := 3) rfl)
theorem uc_X9_errorPosition : Cond.code yX9_errorPosition cX9_errorPosition 1 (some .int) ∈ wsL_law := u_r21 _ (List.mem_of_getElem? (i := 4) rfl)
theorem um_L_31 : Cond.methodLink RL 31 yX10_errorPosition ∈ wsL_law := u_r21 _ (List.mem_of_getElem? (i := 5) rfl)
theorem ui_X10_errorPosition : Cond.instanceMethod yX10_errorPosition ∈ wsL_law := u_r21 _ (List.mem_of_getElem? (i := 6) rfl)
theorem us_X10_errorPosition : Cond.selects RX10 yX10_errorPosition yX10_errorPosition ∈ wsL_law := u_r21 _ (List.mem_of_getElem? (i := 7) rfl)
theorem uc_X10_errorPosition : Cond.code yX10_errorPosition cX10_errorPosition 1 (some .int) ∈ wsL_law := u_r21 _ (List.mem_of_getElem? (i := 8) rfl)
theorem um_L_32 : Cond.methodLink RL 32 yX9_letter ∈ wsL_law := u_r21 _ (List.mem_of_getElem? (i := 9) rfl)
theorem ui_X9_letter : Cond.instanceMethod yX9_letter ∈ wsL_law := u_r21 _ (List.mem_of_getElem? (i := 10) rfl)
theorem us_X9_letter : Cond.selects RX9 yX9_letter yX9_letter ∈ wsL_law := u_r21 _ (List.mem_of_getElem? (i := 11) rfl)
theorem uc_X9_letter : Cond.code yX9_letter cX9_letter 5 (some .int) ∈ wsL_law := u_r21 _ (List.mem_of_getElem? (i := 12) rfl)
theorem uf_X9_106 : Cond.fieldLink RX9 106 "RingOffices$Offices" "waiting" "[I" ∈ wsL_law := u_r21 _ (List.mem_of_getElem? (i := 13) rfl)
theorem uf_X9_121 : Cond.fieldLink RX9 121 "RingOffices$State" "counts" "[I" ∈ wsL_law := u_r21 _ (List.mem_of_getElem? (i := 14) rfl)
theorem uf_X9_128 : Cond.fieldLink RX9 128 "RingOffices$State" "log" "LRingOffices$Log;" ∈ wsL_law := u_r21 _ (List.mem_of_getElem? (i := 15) rfl)
theorem um_X9_98 : Cond.methodLink RX9 98 yX2_has ∈ wsL_law := u_r21 _ (List.mem_of_getElem? (i := 16) rfl)
theorem ui_X2_has : Cond.instanceMethod yX2_has ∈ wsL_law := u_r21 _ (List.mem_of_getElem? (i := 17) rfl)
theorem us_X2_has : Cond.selects RX2 yX2_has yX2_has ∈ wsL_law := u_r21 _ (List.mem_of_getElem? (i := 18) rfl)
theorem uc_X2_has : Cond.code yX2_has cX2_has 2 (some .boolean) ∈ wsL_law := u_r21 _ (List.mem_of_getElem? (i := 19) rfl)
theorem um_X9_102 : Cond.methodLink RX9 102 yX9_isWithin ∈ wsL_law := u_r21 _ (List.mem_of_getElem? (i := 20) rfl)
theorem um_X9_110 : Cond.methodLink RX9 110 yX9_at ∈ wsL_law := u_r21 _ (List.mem_of_getElem? (i := 21) rfl)
theorem um_X9_114 : Cond.methodLink RX9 114 yX0_remember ∈ wsL_law := u_r21 _ (List.mem_of_getElem? (i := 22) rfl)
theorem ui_X0_remember : Cond.instanceMethod yX0_remember ∈ wsL_law := u_r21 _ (List.mem_of_getElem? (i := 23) rfl)
theorem us_X0_remember : Cond.selects RX0 yX0_remember yX0_remember ∈ wsL_law := u_r22 _ (List.mem_of_getElem? (i := 0) rfl)
theorem uc_X0_remember : Cond.code yX0_remember cX0_remember 2 none ∈ wsL_law := u_r22 _ (List.mem_of_getElem? (i := 1) rfl)
theorem uf_X0_26 : Cond.fieldLink RX0 26 "RingOffices$History" "next" "I" ∈ wsL_law := u_r22 _ (List.mem_of_getElem? (i := 2) rfl)
theorem um_X0_22 : Cond.methodLink RX0 22 yX0_copyTo ∈ wsL_law := u_r22 _ (List.mem_of_getElem? (i := 3) rfl)
theorem ui_X0_copyTo : Cond.instanceMethod yX0_copyTo ∈ wsL_law := u_r22 _ (List.mem_of_getElem? (i := 4) rfl)
theorem us_X0_copyTo : Cond.selects RX0 yX0_copyTo yX0_copyTo ∈ wsL_law := u_r22 _ (List.mem_of_getElem? (i := 5) rfl)
theorem uc_X0_copyTo : Cond.code yX0_copyTo cX0_copyTo 3 none ∈ wsL_law := u_r22 _ (List.mem_of_getElem? (i := 6) rfl)
theorem um_X0_29 : Cond.methodLink RX0 29 yX6_copyFrom ∈ wsL_law := u_r22 _ (List.mem_of_getElem? (i := 7) rfl)
theorem um_X9_117 : Cond.methodLink RX9 117 yX2_addLetter ∈ wsL_law := u_r22 _ (List.mem_of_getElem? (i := 8) rfl)
theorem um_X9_124 : Cond.methodLink RX9 124 yX9_raise ∈ wsL_law := u_r22 _ (List.mem_of_getElem? (i := 9) rfl)
theorem um_X9_132 : Cond.methodLink RX9 132 yX1_add ∈ wsL_law := u_r22 _ (List.mem_of_getElem? (i := 10) rfl)
theorem ui_X1_add : Cond.instanceMethod yX1_add ∈ wsL_law := u_r22 _ (List.mem_of_getElem? (i := 11) rfl)
theorem us_X1_add : Cond.selects RX1 yX1_add yX1_add ∈ wsL_law := u_r22 _ (List.mem_of_getElem? (i := 12) rfl)
theorem uc_X1_add : Cond.code yX1_add cX1_add 5 none ∈ wsL_law := u_r22 _ (List.mem_of_getElem? (i := 13) rfl)
theorem um_L_36 : Cond.methodLink RL 36 yX10_letter ∈ wsL_law := u_r22 _ (List.mem_of_getElem? (i := 14) rfl)
theorem ui_X10_letter : Cond.instanceMethod yX10_letter ∈ wsL_law := u_r22 _ (List.mem_of_getElem? (i := 15) rfl)
theorem us_X10_letter : Cond.selects RX10 yX10_letter yX10_letter ∈ wsL_law := u_r22 _ (List.mem_of_getElem? (i := 16) rfl)
theorem uc_X10_letter : Cond.code yX10_letter cX10_letter 4 (some .int) ∈ wsL_law := u_r22 _ (List.mem_of_getElem? (i := 17) rfl)
theorem um_X10_212 : Cond.methodLink RX10 212 yX10_isOffice ∈ wsL_law := u_r22 _ (List.mem_of_getElem? (i := 18) rfl)
theorem ui_X10_isOffice : Cond.instanceMethod yX10_isOffice ∈ wsL_law := u_r22 _ (List.mem_of_getElem? (i := 19) rfl)
theorem us_X10_isOffice : Cond.selects RX10 yX10_isOffice yX10_isOffice ∈ wsL_law := u_r22 _ (List.mem_of_getElem? (i := 20) rfl)
theorem uc_X10_isOffice : Cond.code yX10_isOffice cX10_isOffice 2 (some .boolean) ∈ wsL_law := u_r22 _ (List.mem_of_getElem? (i := 21) rfl)
theorem um_X10_215 : Cond.methodLink RX10 215 yX10_keepForUndo ∈ wsL_law := u_r22 _ (List.mem_of_getElem? (i := 22) rfl)
theorem ui_X10_keepForUndo : Cond.instanceMethod yX10_keepForUndo ∈ wsL_law := u_r22 _ (List.mem_of_getElem? (i := 23) rfl)
theorem us_X10_keepForUndo : Cond.selects RX10 yX10_keepForUndo yX10_keepForUndo ∈ wsL_law := u_r23 _ (List.mem_of_getElem? (i := 0) rfl)
theorem uc_X10_keepForUndo : Cond.code yX10_keepForUndo cX10_keepForUndo 2 none ∈ wsL_law := u_r23 _ (List.mem_of_getElem? (i := 1) rfl)
theorem um_X10_88 : Cond.methodLink RX10 88 yX10_tells ∈ wsL_law := u_r23 _ (List.mem_of_getElem? (i := 2) rfl)
theorem ut_X10_tells : Cond.static yX10_tells ∈ wsL_law := u_r23 _ (List.mem_of_getElem? (i := 3) rfl)
theorem uc_X10_tells : Cond.code yX10_tells cX10_tells 5 none ∈ wsL_law := u_r23 _ (List.mem_of_getElem? (i := 4) rfl)
theorem um_L_37 : Cond.methodLink RL 37 yX9_cancel ∈ wsL_law := u_r23 _ (List.mem_of_getElem? (i := 5) rfl)
theorem ui_X9_cancel : Cond.instanceMethod yX9_cancel ∈ wsL_law := u_r23 _ (List.mem_of_getElem? (i := 6) rfl)
theorem us_X9_cancel : Cond.selects RX9 yX9_cancel yX9_cancel ∈ wsL_law := u_r23 _ (List.mem_of_getElem? (i := 7) rfl)
theorem uc_X9_cancel : Cond.code yX9_cancel cX9_cancel 5 (some .int) ∈ wsL_law := u_r23 _ (List.mem_of_getElem? (i := 8) rfl)
theorem uf_X9_137 : Cond.fieldLink RX9 137 "RingOffices$State" "tokens" "LRingOffices$Tokens;" ∈ wsL_law := u_r23 _ (List.mem_of_getElem? (i := 9) rfl)
theorem um_X9_141 : Cond.methodLink RX9 141 yX8_leftAt ∈ wsL_law := u_r23 _ (List.mem_of_getElem? (i := 10) rfl)
theorem ui_X8_leftAt : Cond.instanceMethod yX8_leftAt ∈ wsL_law := u_r23 _ (List.mem_of_getElem? (i := 11) rfl)
theorem us_X8_leftAt : Cond.selects RX8 yX8_leftAt yX8_leftAt ∈ wsL_law := u_r23 _ (List.mem_of_getElem? (i := 12) rfl)
theorem uc_X8_leftAt : Cond.code yX8_leftAt cX8_leftAt 2 (some .int) ∈ wsL_law := u_r23 _ (List.mem_of_getElem? (i := 13) rfl)
theorem um_X8_57 : Cond.methodLink RX8 57 yX8_standingAt ∈ wsL_law := u_r23 _ (List.mem_of_getElem? (i := 14) rfl)
theorem ui_X8_standingAt : Cond.instanceMethod yX8_standingAt ∈ wsL_law := u_r23 _ (List.mem_of_getElem? (i := 15) rfl)
theorem us_X8_standingAt : Cond.selects RX8 yX8_standingAt yX8_standingAt ∈ wsL_law := u_r23 _ (List.mem_of_getElem? (i := 16) rfl)
theorem uc_X8_standingAt : Cond.code yX8_standingAt cX8_standingAt 3 (some .int) ∈ wsL_law := u_r23 _ (List.mem_of_getElem? (i := 17) rfl)
theorem um_X8_53 : Cond.methodLink RX8 53 yX8_isAt ∈ wsL_law := u_r23 _ (List.mem_of_getElem? (i := 18) rfl)
theorem ui_X8_isAt : Cond.instanceMethod yX8_isAt ∈ wsL_law := u_r23 _ (List.mem_of_getElem? (i := 19) rfl)
theorem us_X8_isAt : Cond.selects RX8 yX8_isAt yX8_isAt ∈ wsL_law := u_r23 _ (List.mem_of_getElem? (i := 20) rfl)
theorem uc_X8_isAt : Cond.code yX8_isAt cX8_isAt 3 (some .boolean) ∈ wsL_law := u_r23 _ (List.mem_of_getElem? (i := 21) rfl)
theorem um_X9_147 : Cond.methodLink RX9 147 yX2_lengthOf ∈ wsL_law := u_r23 _ (List.mem_of_getElem? (i := 22) rfl)
theorem ui_X2_lengthOf : Cond.instanceMethod yX2_lengthOf ∈ wsL_law := u_r23 _ (List.mem_of_getElem? (i := 23) rfl)
theorem us_X2_lengthOf : Cond.selects RX2 yX2_lengthOf yX2_lengthOf ∈ wsL_law := u_r24 _ (List.mem_of_getElem? (i := 0) rfl)
theorem uc_X2_lengthOf : Cond.code yX2_lengthOf cX2_lengthOf 3 (some .int) ∈ wsL_law := u_r24 _ (List.mem_of_getElem? (i := 1) rfl)
theorem um_X9_151 : Cond.methodLink RX9 151 yX2_removeLetter ∈ wsL_law := u_r24 _ (List.mem_of_getElem? (i := 2) rfl)
theorem ui_X2_removeLetter : Cond.instanceMethod yX2_removeLetter ∈ wsL_law := u_r24 _ (List.mem_of_getElem? (i := 3) rfl)
theorem us_X2_removeLetter : Cond.selects RX2 yX2_removeLetter yX2_removeLetter ∈ wsL_law := u_r24 _ (List.mem_of_getElem? (i := 4) rfl)
theorem uc_X2_removeLetter : Cond.code yX2_removeLetter cX2_removeLetter 5 none ∈ wsL_law := u_r24 _ (List.mem_of_getElem? (i := 5) rfl)
theorem ut_X9_takeOut : Cond.static yX9_takeOut ∈ wsL_law := u_r24 _ (List.mem_of_getElem? (i := 6) rfl)
theorem uc_X9_takeOut : Cond.code yX9_takeOut cX9_takeOut 3 none ∈ wsL_law := u_r24 _ (List.mem_of_getElem? (i := 7) rfl)
theorem um_L_41 : Cond.methodLink RL 41 yX10_cancel ∈ wsL_law := u_r24 _ (List.mem_of_getElem? (i := 8) rfl)
theorem ui_X10_cancel : Cond.instanceMethod yX10_cancel ∈ wsL_law := u_r24 _ (List.mem_of_getElem? (i := 9) rfl)
theorem us_X10_cancel : Cond.selects RX10 yX10_cancel yX10_cancel ∈ wsL_law := u_r24 _ (List.mem_of_getElem? (i := 10) rfl)
theorem uc_X10_cancel : Cond.code yX10_cancel cX10_cancel 4 (some .int) ∈ wsL_law := u_r24 _ (List.mem_of_getElem? (i := 11) rfl)
theorem um_X10_218 : Cond.methodLink RX10 218 yX10_leftAt ∈ wsL_law := u_r24 _ (List.mem_of_getElem? (i := 12) rfl)
theorem ui_X10_leftAt : Cond.instanceMethod yX10_leftAt ∈ wsL_law := u_r24 _ (List.mem_of_getElem? (i := 13) rfl)
theorem us_X10_leftAt : Cond.selects RX10 yX10_leftAt yX10_leftAt ∈ wsL_law := u_r24 _ (List.mem_of_getElem? (i := 14) rfl)
theorem uc_X10_leftAt : Cond.code yX10_leftAt cX10_leftAt 3 (some .int) ∈ wsL_law := u_r24 _ (List.mem_of_getElem? (i := 15) rfl)
theorem um_X10_107 : Cond.methodLink RX10 107 yX10_tokenOn ∈ wsL_law := u_r24 _ (List.mem_of_getElem? (i := 16) rfl)
theorem ut_X10_tokenOn : Cond.static yX10_tokenOn ∈ wsL_law := u_r24 _ (List.mem_of_getElem? (i := 17) rfl)
theorem uc_X10_tokenOn : Cond.code yX10_tokenOn cX10_tokenOn 4 (some .int) ∈ wsL_law := u_r24 _ (List.mem_of_getElem? (i := 18) rfl)
theorem um_X10_69 : Cond.methodLink RX10 69 yX10_isAt ∈ wsL_law := u_r24 _ (List.mem_of_getElem? (i := 19) rfl)
theorem ut_X10_isAt : Cond.static yX10_isAt ∈ wsL_law := u_r24 _ (List.mem_of_getElem? (i := 20) rfl)
theorem uc_X10_isAt : Cond.code yX10_isAt cX10_isAt 3 (some .boolean) ∈ wsL_law := u_r24 _ (List.mem_of_getElem? (i := 21) rfl)
theorem um_X10_84 : Cond.methodLink RX10 84 yX10_dropLetter ∈ wsL_law := u_r24 _ (List.mem_of_getElem? (i := 22) rfl)
theorem ut_X10_dropLetter : Cond.static yX10_dropLetter ∈ wsL_law := u_r24 _ (List.mem_of_getElem? (i := 23) rfl)
theorem uc_X10_dropLetter : Cond.code yX10_dropLetter cX10_dropLetter 4 none ∈ wsL_law := u_r25 _ (List.mem_of_getElem? (i := 0) rfl)
theorem um_L_42 : Cond.methodLink RL 42 yX9_shut ∈ wsL_law := u_r25 _ (List.mem_of_getElem? (i := 1) rfl)
theorem ui_X9_shut : Cond.instanceMethod yX9_shut ∈ wsL_law := u_r25 _ (List.mem_of_getElem? (i := 2) rfl)
theorem us_X9_shut : Cond.selects RX9 yX9_shut yX9_shut ∈ wsL_law := u_r25 _ (List.mem_of_getElem? (i := 3) rfl)
theorem uc_X9_shut : Cond.code yX9_shut cX9_shut 4 (some .int) ∈ wsL_law := u_r25 _ (List.mem_of_getElem? (i := 4) rfl)
theorem uf_X9_155 : Cond.fieldLink RX9 155 "RingOffices$Offices" "open" "[I" ∈ wsL_law := u_r25 _ (List.mem_of_getElem? (i := 5) rfl)
theorem um_X9_158 : Cond.methodLink RX9 158 yX6_shutOrOpen ∈ wsL_law := u_r25 _ (List.mem_of_getElem? (i := 6) rfl)
theorem ui_X6_shutOrOpen : Cond.instanceMethod yX6_shutOrOpen ∈ wsL_law := u_r25 _ (List.mem_of_getElem? (i := 7) rfl)
theorem us_X6_shutOrOpen : Cond.selects RX6 yX6_shutOrOpen yX6_shutOrOpen ∈ wsL_law := u_r25 _ (List.mem_of_getElem? (i := 8) rfl)
theorem uc_X6_shutOrOpen : Cond.code yX6_shutOrOpen cX6_shutOrOpen 4 none ∈ wsL_law := u_r25 _ (List.mem_of_getElem? (i := 9) rfl)
theorem uf_X6_82 : Cond.fieldLink RX6 82 "RingOffices$Offices" "open" "[I" ∈ wsL_law := u_r25 _ (List.mem_of_getElem? (i := 10) rfl)
theorem um_X6_85 : Cond.methodLink RX6 85 yX1_add ∈ wsL_law := u_r25 _ (List.mem_of_getElem? (i := 11) rfl)
theorem um_X6_86 : Cond.methodLink RX6 86 yX8_standingAt ∈ wsL_law := u_r25 _ (List.mem_of_getElem? (i := 12) rfl)
theorem um_X6_90 : Cond.methodLink RX6 90 yX6_loseToken ∈ wsL_law := u_r25 _ (List.mem_of_getElem? (i := 13) rfl)
theorem ui_X6_loseToken : Cond.instanceMethod yX6_loseToken ∈ wsL_law := u_r25 _ (List.mem_of_getElem? (i := 14) rfl)
theorem us_X6_loseToken : Cond.selects RX6 yX6_loseToken yX6_loseToken ∈ wsL_law := u_r25 _ (List.mem_of_getElem? (i := 15) rfl)
theorem uc_X6_loseToken : Cond.code yX6_loseToken cX6_loseToken 2 none ∈ wsL_law := u_r25 _ (List.mem_of_getElem? (i := 16) rfl)
theorem uf_X6_93 : Cond.fieldLink RX6 93 "RingOffices$Tokens" "number" "[I" ∈ wsL_law := u_r25 _ (List.mem_of_getElem? (i := 17) rfl)
theorem uf_X6_100 : Cond.fieldLink RX6 100 "RingOffices$Tokens" "place" "[I" ∈ wsL_law := u_r25 _ (List.mem_of_getElem? (i := 18) rfl)
theorem um_X6_107 : Cond.methodLink RX6 107 yX8_remove ∈ wsL_law := u_r25 _ (List.mem_of_getElem? (i := 19) rfl)
theorem ui_X8_remove : Cond.instanceMethod yX8_remove ∈ wsL_law := u_r25 _ (List.mem_of_getElem? (i := 20) rfl)
theorem us_X8_remove : Cond.selects RX8 yX8_remove yX8_remove ∈ wsL_law := u_r25 _ (List.mem_of_getElem? (i := 21) rfl)
theorem uc_X8_remove : Cond.code yX8_remove cX8_remove 2 none ∈ wsL_law := u_r25 _ (List.mem_of_getElem? (i := 22) rfl)
theorem um_X8_42 : Cond.methodLink RX8 42 yX8_has ∈ wsL_law := u_r25 _ (List.mem_of_getElem? (i := 23) rfl)
theorem ui_X8_has : Cond.instanceMethod yX8_has ∈ wsL_law := u_r26 _ (List.mem_of_getElem? (i := 0) rfl)
theorem us_X8_has : Cond.selects RX8 yX8_has yX8_has ∈ wsL_law := u_r26 _ (List.mem_of_getElem? (i := 1) rfl)
theorem uc_X8_has : Cond.code yX8_has cX8_has 2 (some .boolean) ∈ wsL_law := u_r26 _ (List.mem_of_getElem? (i := 2) rfl)
theorem um_L_45 : Cond.methodLink RL 45 yX10_shut ∈ wsL_law := u_r26 _ (List.mem_of_getElem? (i := 3) rfl)
theorem ui_X10_shut : Cond.instanceMethod yX10_shut ∈ wsL_law := u_r26 _ (List.mem_of_getElem? (i := 4) rfl)
theorem us_X10_shut : Cond.selects RX10 yX10_shut yX10_shut ∈ wsL_law := u_r26 _ (List.mem_of_getElem? (i := 5) rfl)
theorem uc_X10_shut : Cond.code yX10_shut cX10_shut 3 (some .int) ∈ wsL_law := u_r26 _ (List.mem_of_getElem? (i := 6) rfl)
theorem um_X10_222 : Cond.methodLink RX10 222 yX10_shuts ∈ wsL_law := u_r26 _ (List.mem_of_getElem? (i := 7) rfl)
theorem ut_X10_shuts : Cond.static yX10_shuts ∈ wsL_law := u_r26 _ (List.mem_of_getElem? (i := 8) rfl)
theorem uc_X10_shuts : Cond.code yX10_shuts cX10_shuts 5 (some .int) ∈ wsL_law := u_r26 _ (List.mem_of_getElem? (i := 9) rfl)
theorem um_X10_136 : Cond.methodLink RX10 136 yX10_loses ∈ wsL_law := u_r26 _ (List.mem_of_getElem? (i := 10) rfl)
theorem ut_X10_loses : Cond.static yX10_loses ∈ wsL_law := u_r26 _ (List.mem_of_getElem? (i := 11) rfl)
theorem uc_X10_loses : Cond.code yX10_loses cX10_loses 2 none ∈ wsL_law := u_r26 _ (List.mem_of_getElem? (i := 12) rfl)
theorem um_X10_104 : Cond.methodLink RX10 104 yX10_dropToken ∈ wsL_law := u_r26 _ (List.mem_of_getElem? (i := 13) rfl)
theorem ut_X10_dropToken : Cond.static yX10_dropToken ∈ wsL_law := u_r26 _ (List.mem_of_getElem? (i := 14) rfl)
theorem uc_X10_dropToken : Cond.code yX10_dropToken cX10_dropToken 3 none ∈ wsL_law := u_r26 _ (List.mem_of_getElem? (i := 15) rfl)
theorem um_L_46 : Cond.methodLink RL 46 yX9_lose ∈ wsL_law := u_r26 _ (List.mem_of_getElem? (i := 16) rfl)
theorem ui_X9_lose : Cond.instanceMethod yX9_lose ∈ wsL_law := u_r26 _ (List.mem_of_getElem? (i := 17) rfl)
theorem us_X9_lose : Cond.selects RX9 yX9_lose yX9_lose ∈ wsL_law := u_r26 _ (List.mem_of_getElem? (i := 18) rfl)
theorem uc_X9_lose : Cond.code yX9_lose cX9_lose 3 (some .int) ∈ wsL_law := u_r26 _ (List.mem_of_getElem? (i := 19) rfl)
theorem uf_X9_162 : Cond.fieldLink RX9 162 "RingOffices$Tokens" "number" "[I" ∈ wsL_law := u_r26 _ (List.mem_of_getElem? (i := 20) rfl)
theorem um_X9_161 : Cond.methodLink RX9 161 yX8_has ∈ wsL_law := u_r26 _ (List.mem_of_getElem? (i := 21) rfl)
theorem um_X9_165 : Cond.methodLink RX9 165 yX6_loseToken ∈ wsL_law := u_r26 _ (List.mem_of_getElem? (i := 22) rfl)
theorem um_L_49 : Cond.methodLink RL 49 yX10_lose ∈ wsL_law := u_r26 _ (List.mem_of_getElem? (i := 23) rfl)
theorem ui_X10_lose : Cond.instanceMethod yX10_lose ∈ wsL_law := u_r27 _ (List.mem_of_getElem? (i := 0) rfl)
theorem us_X10_lose : Cond.selects RX10 yX10_lose yX10_lose ∈ wsL_law := u_r27 _ (List.mem_of_getElem? (i := 1) rfl)
theorem uc_X10_lose : Cond.code yX10_lose cX10_lose 3 (some .int) ∈ wsL_law := u_r27 _ (List.mem_of_getElem? (i := 2) rfl)
theorem um_X10_225 : Cond.methodLink RX10 225 yX10_isToken ∈ wsL_law := u_r27 _ (List.mem_of_getElem? (i := 3) rfl)
theorem ui_X10_isToken : Cond.instanceMethod yX10_isToken ∈ wsL_law := u_r27 _ (List.mem_of_getElem? (i := 4) rfl)
theorem us_X10_isToken : Cond.selects RX10 yX10_isToken yX10_isToken ∈ wsL_law := u_r27 _ (List.mem_of_getElem? (i := 5) rfl)
theorem uc_X10_isToken : Cond.code yX10_isToken cX10_isToken 2 (some .boolean) ∈ wsL_law := u_r27 _ (List.mem_of_getElem? (i := 6) rfl)
theorem um_L_50 : Cond.methodLink RL 50 yX9_stray ∈ wsL_law := u_r27 _ (List.mem_of_getElem? (i := 7) rfl)
theorem ui_X9_stray : Cond.instanceMethod yX9_stray ∈ wsL_law := u_r27 _ (List.mem_of_getElem? (i := 8) rfl)
theorem us_X9_stray : Cond.selects RX9 yX9_stray yX9_stray ∈ wsL_law := u_r27 _ (List.mem_of_getElem? (i := 9) rfl)
theorem uc_X9_stray : Cond.code yX9_stray cX9_stray 3 (some .int) ∈ wsL_law := u_r27 _ (List.mem_of_getElem? (i := 10) rfl)
theorem uf_X9_171 : Cond.fieldLink RX9 171 "RingOffices$Tokens" "count" "I" ∈ wsL_law := u_r27 _ (List.mem_of_getElem? (i := 11) rfl)
theorem uf_X9_174 : Cond.fieldLink RX9 174 "RingOffices$Tokens" "lastNumber" "I" ∈ wsL_law := u_r27 _ (List.mem_of_getElem? (i := 12) rfl)
theorem um_X9_168 : Cond.methodLink RX9 168 yX2_isOpen ∈ wsL_law := u_r27 _ (List.mem_of_getElem? (i := 13) rfl)
theorem um_X9_172 : Cond.methodLink RX9 172 yX8_add ∈ wsL_law := u_r27 _ (List.mem_of_getElem? (i := 14) rfl)
theorem um_X9_177 : Cond.methodLink RX9 177 yX6_tearUpWhereTwoMeet ∈ wsL_law := u_r27 _ (List.mem_of_getElem? (i := 15) rfl)
theorem ui_X6_tearUpWhereTwoMeet : Cond.instanceMethod yX6_tearUpWhereTwoMeet ∈ wsL_law := u_r27 _ (List.mem_of_getElem? (i := 16) rfl)
theorem us_X6_tearUpWhereTwoMeet : Cond.selects RX6 yX6_tearUpWhereTwoMeet yX6_tearUpWhereTwoMeet ∈ wsL_law := u_r27 _ (List.mem_of_getElem? (i := 17) rfl)
theorem uc_X6_tearUpWhereTwoMeet : Cond.code yX6_tearUpWhereTwoMeet cX6_tearUpWhereTwoMeet 3 none ∈ wsL_law := u_r27 _ (List.mem_of_getElem? (i := 18) rfl)
theorem um_X6_110 : Cond.methodLink RX6 110 yX8_isFollowedThere ∈ wsL_law := u_r27 _ (List.mem_of_getElem? (i := 19) rfl)
theorem ui_X8_isFollowedThere : Cond.instanceMethod yX8_isFollowedThere ∈ wsL_law := u_r27 _ (List.mem_of_getElem? (i := 20) rfl)
theorem us_X8_isFollowedThere : Cond.selects RX8 yX8_isFollowedThere yX8_isFollowedThere ∈ wsL_law := u_r27 _ (List.mem_of_getElem? (i := 21) rfl)
theorem uc_X8_isFollowedThere : Cond.code yX8_isFollowedThere cX8_isFollowedThere 3 (some .boolean) ∈ wsL_law := u_r27 _ (List.mem_of_getElem? (i := 22) rfl)
theorem um_L_53 : Cond.methodLink RL 53 yX10_stray ∈ wsL_law := u_r27 _ (List.mem_of_getElem? (i := 23) rfl)
theorem ui_X10_stray : Cond.instanceMethod yX10_stray ∈ wsL_law := u_r28 _ (List.mem_of_getElem? (i := 0) rfl)
theorem us_X10_stray : Cond.selects RX10 yX10_stray yX10_stray ∈ wsL_law := u_r28 _ (List.mem_of_getElem? (i := 1) rfl)
theorem uc_X10_stray : Cond.code yX10_stray cX10_stray 4 (some .int) ∈ wsL_law := u_r28 _ (List.mem_of_getElem? (i := 2) rfl)
theorem um_X10_124 : Cond.methodLink RX10 124 yX10_tears ∈ wsL_law := u_r28 _ (List.mem_of_getElem? (i := 3) rfl)
theorem ut_X10_tears : Cond.static yX10_tears ∈ wsL_law := u_r28 _ (List.mem_of_getElem? (i := 4) rfl)
theorem uc_X10_tears : Cond.code yX10_tears cX10_tears 2 none ∈ wsL_law := u_r28 _ (List.mem_of_getElem? (i := 5) rfl)
theorem um_L_54 : Cond.methodLink RL 54 yX9_minute ∈ wsL_law := u_r28 _ (List.mem_of_getElem? (i := 6) rfl)
theorem ui_X9_minute : Cond.instanceMethod yX9_minute ∈ wsL_law := u_r28 _ (List.mem_of_getElem? (i := 7) rfl)
theorem us_X9_minute : Cond.selects RX9 yX9_minute yX9_minute ∈ wsL_law := u_r28 _ (List.mem_of_getElem? (i := 8) rfl)
theorem uc_X9_minute : Cond.code yX9_minute cX9_minute 4 (some .int) ∈ wsL_law := u_r28 _ (List.mem_of_getElem? (i := 9) rfl)
theorem uf_X9_180 : Cond.fieldLink RX9 180 "RingOffices$State" "time" "I" ∈ wsL_law := u_r28 _ (List.mem_of_getElem? (i := 10) rfl)
theorem um_X9_183 : Cond.methodLink RX9 183 yX6_passMinute ∈ wsL_law := u_r28 _ (List.mem_of_getElem? (i := 11) rfl)
theorem ui_X6_passMinute : Cond.instanceMethod yX6_passMinute ∈ wsL_law := u_r28 _ (List.mem_of_getElem? (i := 12) rfl)
theorem us_X6_passMinute : Cond.selects RX6 yX6_passMinute yX6_passMinute ∈ wsL_law := u_r28 _ (List.mem_of_getElem? (i := 13) rfl)
theorem uc_X6_passMinute : Cond.code yX6_passMinute cX6_passMinute 2 none ∈ wsL_law := u_r28 _ (List.mem_of_getElem? (i := 14) rfl)
theorem uf_X6_117 : Cond.fieldLink RX6 117 "RingOffices$Tokens" "togo" "[I" ∈ wsL_law := u_r28 _ (List.mem_of_getElem? (i := 15) rfl)
theorem uf_X6_123 : Cond.fieldLink RX6 123 "RingOffices$Tokens" "left" "[I" ∈ wsL_law := u_r28 _ (List.mem_of_getElem? (i := 16) rfl)
theorem um_X6_114 : Cond.methodLink RX6 114 yX2_beginDay ∈ wsL_law := u_r28 _ (List.mem_of_getElem? (i := 17) rfl)
theorem ui_X2_beginDay : Cond.instanceMethod yX2_beginDay ∈ wsL_law := u_r28 _ (List.mem_of_getElem? (i := 18) rfl)
theorem us_X2_beginDay : Cond.selects RX2 yX2_beginDay yX2_beginDay ∈ wsL_law := u_r28 _ (List.mem_of_getElem? (i := 19) rfl)
theorem uc_X2_beginDay : Cond.code yX2_beginDay cX2_beginDay 2 none ∈ wsL_law := u_r28 _ (List.mem_of_getElem? (i := 20) rfl)
theorem um_X6_120 : Cond.methodLink RX6 120 yX6_comeNearer ∈ wsL_law := u_r28 _ (List.mem_of_getElem? (i := 21) rfl)
theorem ui_X6_comeNearer : Cond.instanceMethod yX6_comeNearer ∈ wsL_law := u_r28 _ (List.mem_of_getElem? (i := 22) rfl)
theorem us_X6_comeNearer : Cond.selects RX6 yX6_comeNearer yX6_comeNearer ∈ wsL_law := u_r28 _ (List.mem_of_getElem? (i := 23) rfl)
theorem uc_X6_comeNearer : Cond.code yX6_comeNearer cX6_comeNearer 4 none ∈ wsL_law := u_r29 _ (List.mem_of_getElem? (i := 0) rfl)
theorem um_X6_142 : Cond.methodLink RX6 142 yX2_isOpen ∈ wsL_law := u_r29 _ (List.mem_of_getElem? (i := 1) rfl)
theorem um_X6_145 : Cond.methodLink RX6 145 yX6_leave ∈ wsL_law := u_r29 _ (List.mem_of_getElem? (i := 2) rfl)
theorem ui_X6_leave : Cond.instanceMethod yX6_leave ∈ wsL_law := u_r29 _ (List.mem_of_getElem? (i := 3) rfl)
theorem us_X6_leave : Cond.selects RX6 yX6_leave yX6_leave ∈ wsL_law := u_r29 _ (List.mem_of_getElem? (i := 4) rfl)
theorem uc_X6_leave : Cond.code yX6_leave cX6_leave 3 none ∈ wsL_law := u_r29 _ (List.mem_of_getElem? (i := 5) rfl)
theorem uf_X6_152 : Cond.fieldLink RX6 152 "RingOffices$Offices" "way" "[I" ∈ wsL_law := u_r29 _ (List.mem_of_getElem? (i := 6) rfl)
theorem um_X6_149 : Cond.methodLink RX6 149 yX2_behind ∈ wsL_law := u_r29 _ (List.mem_of_getElem? (i := 7) rfl)
theorem ui_X2_behind : Cond.instanceMethod yX2_behind ∈ wsL_law := u_r29 _ (List.mem_of_getElem? (i := 8) rfl)
theorem us_X2_behind : Cond.selects RX2 yX2_behind yX2_behind ∈ wsL_law := u_r29 _ (List.mem_of_getElem? (i := 9) rfl)
theorem uc_X2_behind : Cond.code yX2_behind cX2_behind 2 (some .int) ∈ wsL_law := u_r29 _ (List.mem_of_getElem? (i := 10) rfl)
theorem um_X6_155 : Cond.methodLink RX6 155 yX8_setOut ∈ wsL_law := u_r29 _ (List.mem_of_getElem? (i := 11) rfl)
theorem ui_X8_setOut : Cond.instanceMethod yX8_setOut ∈ wsL_law := u_r29 _ (List.mem_of_getElem? (i := 12) rfl)
theorem us_X8_setOut : Cond.selects RX8 yX8_setOut yX8_setOut ∈ wsL_law := u_r29 _ (List.mem_of_getElem? (i := 13) rfl)
theorem uc_X8_setOut : Cond.code yX8_setOut cX8_setOut 4 none ∈ wsL_law := u_r29 _ (List.mem_of_getElem? (i := 14) rfl)
theorem um_X6_126 : Cond.methodLink RX6 126 yX6_readOn ∈ wsL_law := u_r29 _ (List.mem_of_getElem? (i := 15) rfl)
theorem ui_X6_readOn : Cond.instanceMethod yX6_readOn ∈ wsL_law := u_r29 _ (List.mem_of_getElem? (i := 16) rfl)
theorem us_X6_readOn : Cond.selects RX6 yX6_readOn yX6_readOn ∈ wsL_law := u_r29 _ (List.mem_of_getElem? (i := 17) rfl)
theorem uc_X6_readOn : Cond.code yX6_readOn cX6_readOn 4 none ∈ wsL_law := u_r29 _ (List.mem_of_getElem? (i := 18) rfl)
theorem uf_X6_158 : Cond.fieldLink RX6 158 "RingOffices$Tokens" "turn" "[I" ∈ wsL_law := u_r29 _ (List.mem_of_getElem? (i := 19) rfl)
theorem uf_X6_161 : Cond.fieldLink RX6 161 "RingOffices$Offices" "spokenToday" "[I" ∈ wsL_law := u_r29 _ (List.mem_of_getElem? (i := 20) rfl)
theorem um_X6_164 : Cond.methodLink RX6 164 yX6_endLetter ∈ wsL_law := u_r29 _ (List.mem_of_getElem? (i := 21) rfl)
theorem ui_X6_endLetter : Cond.instanceMethod yX6_endLetter ∈ wsL_law := u_r29 _ (List.mem_of_getElem? (i := 22) rfl)
theorem us_X6_endLetter : Cond.selects RX6 yX6_endLetter yX6_endLetter ∈ wsL_law := u_r29 _ (List.mem_of_getElem? (i := 23) rfl)
theorem uc_X6_endLetter : Cond.code yX6_endLetter cX6_endLetter 4 none ∈ wsL_law := u_r30 _ (List.mem_of_getElem? (i := 0) rfl)
theorem uf_X6_174 : Cond.fieldLink RX6 174 "RingOffices$Offices" "readTo" "[I" ∈ wsL_law := u_r30 _ (List.mem_of_getElem? (i := 1) rfl)
theorem um_X6_167 : Cond.methodLink RX6 167 yX2_toOf ∈ wsL_law := u_r30 _ (List.mem_of_getElem? (i := 2) rfl)
theorem ui_X2_toOf : Cond.instanceMethod yX2_toOf ∈ wsL_law := u_r30 _ (List.mem_of_getElem? (i := 3) rfl)
theorem us_X2_toOf : Cond.selects RX2 yX2_toOf yX2_toOf ∈ wsL_law := u_r30 _ (List.mem_of_getElem? (i := 4) rfl)
theorem uc_X2_toOf : Cond.code yX2_toOf cX2_toOf 3 (some .int) ∈ wsL_law := u_r30 _ (List.mem_of_getElem? (i := 5) rfl)
theorem um_X6_171 : Cond.methodLink RX6 171 yX2_lengthOf ∈ wsL_law := u_r30 _ (List.mem_of_getElem? (i := 6) rfl)
theorem um_X6_177 : Cond.methodLink RX6 177 yX2_removeLetter ∈ wsL_law := u_r30 _ (List.mem_of_getElem? (i := 7) rfl)
theorem um_X6_129 : Cond.methodLink RX6 129 yX6_beginOrSetOut ∈ wsL_law := u_r30 _ (List.mem_of_getElem? (i := 8) rfl)
theorem ui_X6_beginOrSetOut : Cond.instanceMethod yX6_beginOrSetOut ∈ wsL_law := u_r30 _ (List.mem_of_getElem? (i := 9) rfl)
theorem us_X6_beginOrSetOut : Cond.selects RX6 yX6_beginOrSetOut yX6_beginOrSetOut ∈ wsL_law := u_r30 _ (List.mem_of_getElem? (i := 10) rfl)
theorem uc_X6_beginOrSetOut : Cond.code yX6_beginOrSetOut cX6_beginOrSetOut 4 none ∈ wsL_law := u_r30 _ (List.mem_of_getElem? (i := 11) rfl)
theorem uf_X6_180 : Cond.fieldLink RX6 180 "RingOffices$Offices" "waiting" "[I" ∈ wsL_law := u_r30 _ (List.mem_of_getElem? (i := 12) rfl)
theorem um_X6_183 : Cond.methodLink RX6 183 yX6_fitsInTurn ∈ wsL_law := u_r30 _ (List.mem_of_getElem? (i := 13) rfl)
theorem ui_X6_fitsInTurn : Cond.instanceMethod yX6_fitsInTurn ∈ wsL_law := u_r30 _ (List.mem_of_getElem? (i := 14) rfl)
theorem us_X6_fitsInTurn : Cond.selects RX6 yX6_fitsInTurn yX6_fitsInTurn ∈ wsL_law := u_r30 _ (List.mem_of_getElem? (i := 15) rfl)
theorem uc_X6_fitsInTurn : Cond.code yX6_fitsInTurn cX6_fitsInTurn 3 (some .boolean) ∈ wsL_law := u_r30 _ (List.mem_of_getElem? (i := 16) rfl)
theorem um_X6_187 : Cond.methodLink RX6 187 yX6_fitsInDay ∈ wsL_law := u_r30 _ (List.mem_of_getElem? (i := 17) rfl)
theorem ui_X6_fitsInDay : Cond.instanceMethod yX6_fitsInDay ∈ wsL_law := u_r30 _ (List.mem_of_getElem? (i := 18) rfl)
theorem us_X6_fitsInDay : Cond.selects RX6 yX6_fitsInDay yX6_fitsInDay ∈ wsL_law := u_r30 _ (List.mem_of_getElem? (i := 19) rfl)
theorem uc_X6_fitsInDay : Cond.code yX6_fitsInDay cX6_fitsInDay 2 (some .boolean) ∈ wsL_law := u_r30 _ (List.mem_of_getElem? (i := 20) rfl)
theorem um_X6_132 : Cond.methodLink RX6 132 yX6_tearUpWhereTwoMeet ∈ wsL_law := u_r30 _ (List.mem_of_getElem? (i := 21) rfl)
theorem um_X6_135 : Cond.methodLink RX6 135 yX8_howManySpeak ∈ wsL_law := u_r30 _ (List.mem_of_getElem? (i := 22) rfl)
theorem ui_X8_howManySpeak : Cond.instanceMethod yX8_howManySpeak ∈ wsL_law := u_r30 _ (List.mem_of_getElem? (i := 23) rfl)
theorem us_X8_howManySpeak : Cond.selects RX8 yX8_howManySpeak yX8_howManySpeak ∈ wsL_law := u_r31 _ (List.mem_of_getElem? (i := 0) rfl)
theorem uc_X8_howManySpeak : Cond.code yX8_howManySpeak cX8_howManySpeak 3 (some .int) ∈ wsL_law := u_r31 _ (List.mem_of_getElem? (i := 1) rfl)
theorem um_X6_139 : Cond.methodLink RX6 139 yX6_stayWithoutToken ∈ wsL_law := u_r31 _ (List.mem_of_getElem? (i := 2) rfl)
theorem ui_X6_stayWithoutToken : Cond.instanceMethod yX6_stayWithoutToken ∈ wsL_law := u_r31 _ (List.mem_of_getElem? (i := 3) rfl)
theorem us_X6_stayWithoutToken : Cond.selects RX6 yX6_stayWithoutToken yX6_stayWithoutToken ∈ wsL_law := u_r31 _ (List.mem_of_getElem? (i := 4) rfl)
theorem uc_X6_stayWithoutToken : Cond.code yX6_stayWithoutToken cX6_stayWithoutToken 2 none ∈ wsL_law := u_r31 _ (List.mem_of_getElem? (i := 5) rfl)
theorem um_X6_190 : Cond.methodLink RX6 190 yX2_openWithGreatestName ∈ wsL_law := u_r31 _ (List.mem_of_getElem? (i := 6) rfl)
theorem ui_X2_openWithGreatestName : Cond.instanceMethod yX2_openWithGreatestName ∈ wsL_law := u_r31 _ (List.mem_of_getElem? (i := 7) rfl)
theorem us_X2_openWithGreatestName : Cond.selects RX2 yX2_openWithGreatestName yX2_openWithGreatestName ∈ wsL_law := u_r31 _ (List.mem_of_getElem? (i := 8) rfl)
theorem uc_X2_openWithGreatestName : Cond.code yX2_openWithGreatestName cX2_openWithGreatestName 3 (some .int) ∈ wsL_law := u_r31 _ (List.mem_of_getElem? (i := 9) rfl)
theorem um_X2_52 : Cond.methodLink RX2 52 yX2_isOpen ∈ wsL_law := u_r31 _ (List.mem_of_getElem? (i := 10) rfl)
theorem um_L_57 : Cond.methodLink RL 57 yX10_minute ∈ wsL_law := u_r31 _ (List.mem_of_getElem? (i := 11) rfl)
theorem ui_X10_minute : Cond.instanceMethod yX10_minute ∈ wsL_law := u_r31 _ (List.mem_of_getElem? (i := 12) rfl)
theorem us_X10_minute : Cond.selects RX10 yX10_minute yX10_minute ∈ wsL_law := u_r31 _ (List.mem_of_getElem? (i := 13) rfl)
theorem uc_X10_minute : Cond.code yX10_minute cX10_minute 3 (some .int) ∈ wsL_law := u_r31 _ (List.mem_of_getElem? (i := 14) rfl)
theorem um_X10_228 : Cond.methodLink RX10 228 yX10_minutesMany ∈ wsL_law := u_r31 _ (List.mem_of_getElem? (i := 15) rfl)
theorem ut_X10_minutesMany : Cond.static yX10_minutesMany ∈ wsL_law := u_r31 _ (List.mem_of_getElem? (i := 16) rfl)
theorem uc_X10_minutesMany : Cond.code yX10_minutesMany cX10_minutesMany 3 none ∈ wsL_law := u_r31 _ (List.mem_of_getElem? (i := 17) rfl)
theorem um_X10_133 : Cond.methodLink RX10 133 yX10_minutes ∈ wsL_law := u_r31 _ (List.mem_of_getElem? (i := 18) rfl)
theorem ut_X10_minutes : Cond.static yX10_minutes ∈ wsL_law := u_r31 _ (List.mem_of_getElem? (i := 19) rfl)
theorem uc_X10_minutes : Cond.code yX10_minutes cX10_minutes 2 none ∈ wsL_law := u_r31 _ (List.mem_of_getElem? (i := 20) rfl)
theorem um_X10_114 : Cond.methodLink RX10 114 yX10_newDay ∈ wsL_law := u_r31 _ (List.mem_of_getElem? (i := 21) rfl)
theorem ut_X10_newDay : Cond.static yX10_newDay ∈ wsL_law := u_r31 _ (List.mem_of_getElem? (i := 22) rfl)
theorem uc_X10_newDay : Cond.code yX10_newDay cX10_newDay 2 none ∈ wsL_law := u_r31 _ (List.mem_of_getElem? (i := 23) rfl)
theorem um_X10_118 : Cond.methodLink RX10 118 yX10_acts ∈ wsL_law := u_r32 _ (List.mem_of_getElem? (i := 0) rfl)
theorem ut_X10_acts : Cond.static yX10_acts ∈ wsL_law := u_r32 _ (List.mem_of_getElem? (i := 1) rfl)
theorem uc_X10_acts : Cond.code yX10_acts cX10_acts 2 none ∈ wsL_law := u_r32 _ (List.mem_of_getElem? (i := 2) rfl)
theorem um_X10_95 : Cond.methodLink RX10 95 yX10_drives ∈ wsL_law := u_r32 _ (List.mem_of_getElem? (i := 3) rfl)
theorem ut_X10_drives : Cond.static yX10_drives ∈ wsL_law := u_r32 _ (List.mem_of_getElem? (i := 4) rfl)
theorem uc_X10_drives : Cond.code yX10_drives cX10_drives 2 none ∈ wsL_law := u_r32 _ (List.mem_of_getElem? (i := 5) rfl)
theorem um_X10_77 : Cond.methodLink RX10 77 yX10_setsOut ∈ wsL_law := u_r32 _ (List.mem_of_getElem? (i := 6) rfl)
theorem ut_X10_setsOut : Cond.static yX10_setsOut ∈ wsL_law := u_r32 _ (List.mem_of_getElem? (i := 7) rfl)
theorem uc_X10_setsOut : Cond.code yX10_setsOut cX10_setsOut 3 none ∈ wsL_law := u_r32 _ (List.mem_of_getElem? (i := 8) rfl)
theorem um_X10_98 : Cond.methodLink RX10 98 yX10_speaks ∈ wsL_law := u_r32 _ (List.mem_of_getElem? (i := 9) rfl)
theorem ut_X10_speaks : Cond.static yX10_speaks ∈ wsL_law := u_r32 _ (List.mem_of_getElem? (i := 10) rfl)
theorem uc_X10_speaks : Cond.code yX10_speaks cX10_speaks 3 none ∈ wsL_law := u_r32 _ (List.mem_of_getElem? (i := 11) rfl)
theorem um_X10_81 : Cond.methodLink RX10 81 yX10_isThrough ∈ wsL_law := u_r32 _ (List.mem_of_getElem? (i := 12) rfl)
theorem ut_X10_isThrough : Cond.static yX10_isThrough ∈ wsL_law := u_r32 _ (List.mem_of_getElem? (i := 13) rfl)
theorem uc_X10_isThrough : Cond.code yX10_isThrough cX10_isThrough 4 none ∈ wsL_law := u_r32 _ (List.mem_of_getElem? (i := 14) rfl)
theorem um_X10_101 : Cond.methodLink RX10 101 yX10_begins ∈ wsL_law := u_r32 _ (List.mem_of_getElem? (i := 15) rfl)
theorem ut_X10_begins : Cond.static yX10_begins ∈ wsL_law := u_r32 _ (List.mem_of_getElem? (i := 16) rfl)
theorem uc_X10_begins : Cond.code yX10_begins cX10_begins 3 none ∈ wsL_law := u_r32 _ (List.mem_of_getElem? (i := 17) rfl)
theorem um_X10_91 : Cond.methodLink RX10 91 yX10_whyNot ∈ wsL_law := u_r32 _ (List.mem_of_getElem? (i := 18) rfl)
theorem ut_X10_whyNot : Cond.static yX10_whyNot ∈ wsL_law := u_r32 _ (List.mem_of_getElem? (i := 19) rfl)
theorem uc_X10_whyNot : Cond.code yX10_whyNot cX10_whyNot 4 (some .int) ∈ wsL_law := u_r32 _ (List.mem_of_getElem? (i := 20) rfl)
theorem um_X10_121 : Cond.methodLink RX10 121 yX10_olderOne ∈ wsL_law := u_r32 _ (List.mem_of_getElem? (i := 21) rfl)
theorem ut_X10_olderOne : Cond.static yX10_olderOne ∈ wsL_law := u_r32 _ (List.mem_of_getElem? (i := 22) rfl)
theorem uc_X10_olderOne : Cond.code yX10_olderOne cX10_olderOne 2 (some .int) ∈ wsL_law := u_r32 _ (List.mem_of_getElem? (i := 23) rfl)
theorem um_X10_127 : Cond.methodLink RX10 127 yX10_speakers ∈ wsL_law := u_r33 _ (List.mem_of_getElem? (i := 0) rfl)
theorem ut_X10_speakers : Cond.static yX10_speakers ∈ wsL_law := u_r33 _ (List.mem_of_getElem? (i := 1) rfl)
theorem uc_X10_speakers : Cond.code yX10_speakers cX10_speakers 3 (some .int) ∈ wsL_law := u_r33 _ (List.mem_of_getElem? (i := 2) rfl)
theorem um_X10_130 : Cond.methodLink RX10 130 yX10_elects ∈ wsL_law := u_r33 _ (List.mem_of_getElem? (i := 3) rfl)
theorem ut_X10_elects : Cond.static yX10_elects ∈ wsL_law := u_r33 _ (List.mem_of_getElem? (i := 4) rfl)
theorem uc_X10_elects : Cond.code yX10_elects cX10_elects 3 none ∈ wsL_law := u_r33 _ (List.mem_of_getElem? (i := 5) rfl)
theorem um_X10_110 : Cond.methodLink RX10 110 yX10_winnerOf ∈ wsL_law := u_r33 _ (List.mem_of_getElem? (i := 6) rfl)
theorem ut_X10_winnerOf : Cond.static yX10_winnerOf ∈ wsL_law := u_r33 _ (List.mem_of_getElem? (i := 7) rfl)
theorem uc_X10_winnerOf : Cond.code yX10_winnerOf cX10_winnerOf 3 (some .int) ∈ wsL_law := u_r33 _ (List.mem_of_getElem? (i := 8) rfl)
theorem um_L_58 : Cond.methodLink RL 58 yX9_set ∈ wsL_law := u_r33 _ (List.mem_of_getElem? (i := 9) rfl)
theorem ui_X9_set : Cond.instanceMethod yX9_set ∈ wsL_law := u_r33 _ (List.mem_of_getElem? (i := 10) rfl)
theorem us_X9_set : Cond.selects RX9 yX9_set yX9_set ∈ wsL_law := u_r33 _ (List.mem_of_getElem? (i := 11) rfl)
theorem uc_X9_set : Cond.code yX9_set cX9_set 6 (some .int) ∈ wsL_law := u_r33 _ (List.mem_of_getElem? (i := 12) rfl)
theorem uf_X9_186 : Cond.fieldLink RX9 186 "RingOffices$Offices" "way" "[I" ∈ wsL_law := u_r33 _ (List.mem_of_getElem? (i := 13) rfl)
theorem uf_X9_189 : Cond.fieldLink RX9 189 "RingOffices$Offices" "name" "[I" ∈ wsL_law := u_r33 _ (List.mem_of_getElem? (i := 14) rfl)
theorem um_X9_192 : Cond.methodLink RX9 192 yX2_isNameTaken ∈ wsL_law := u_r33 _ (List.mem_of_getElem? (i := 15) rfl)
theorem um_X9_195 : Cond.methodLink RX9 195 yX9_put ∈ wsL_law := u_r33 _ (List.mem_of_getElem? (i := 16) rfl)
theorem um_L_61 : Cond.methodLink RL 61 yX10_set ∈ wsL_law := u_r33 _ (List.mem_of_getElem? (i := 17) rfl)
theorem ui_X10_set : Cond.instanceMethod yX10_set ∈ wsL_law := u_r33 _ (List.mem_of_getElem? (i := 18) rfl)
theorem us_X10_set : Cond.selects RX10 yX10_set yX10_set ∈ wsL_law := u_r33 _ (List.mem_of_getElem? (i := 19) rfl)
theorem uc_X10_set : Cond.code yX10_set cX10_set 5 (some .int) ∈ wsL_law := u_r33 _ (List.mem_of_getElem? (i := 20) rfl)
theorem um_L_62 : Cond.methodLink RL 62 yX9_rule ∈ wsL_law := u_r33 _ (List.mem_of_getElem? (i := 21) rfl)
theorem ui_X9_rule : Cond.instanceMethod yX9_rule ∈ wsL_law := u_r33 _ (List.mem_of_getElem? (i := 22) rfl)
theorem us_X9_rule : Cond.selects RX9 yX9_rule yX9_rule ∈ wsL_law := u_r33 _ (List.mem_of_getElem? (i := 23) rfl)
theorem uc_X9_rule : Cond.code yX9_rule cX9_rule 4 (some .int) ∈ wsL_law := u_r34 _ (List.mem_of_getElem? (i := 0) rfl)
theorem uf_X9_203 : Cond.fieldLink RX9 203 "RingOffices$State" "rules" "[I" ∈ wsL_law := u_r34 _ (List.mem_of_getElem? (i := 1) rfl)
theorem um_X9_199 : Cond.methodLink RX9 199 yX9_isRule ∈ wsL_law := u_r34 _ (List.mem_of_getElem? (i := 2) rfl)
theorem ut_X9_isRule : Cond.static yX9_isRule ∈ wsL_law := u_r34 _ (List.mem_of_getElem? (i := 3) rfl)
theorem uc_X9_isRule : Cond.code yX9_isRule cX9_isRule 2 (some .boolean) ∈ wsL_law := u_r34 _ (List.mem_of_getElem? (i := 4) rfl)
theorem um_X9_302 : Cond.methodLink RX9 302 yX9_mostOfRule ∈ wsL_law := u_r34 _ (List.mem_of_getElem? (i := 5) rfl)
theorem um_L_65 : Cond.methodLink RL 65 yX10_rule ∈ wsL_law := u_r34 _ (List.mem_of_getElem? (i := 6) rfl)
theorem ui_X10_rule : Cond.instanceMethod yX10_rule ∈ wsL_law := u_r34 _ (List.mem_of_getElem? (i := 7) rfl)
theorem us_X10_rule : Cond.selects RX10 yX10_rule yX10_rule ∈ wsL_law := u_r34 _ (List.mem_of_getElem? (i := 8) rfl)
theorem uc_X10_rule : Cond.code yX10_rule cX10_rule 4 (some .int) ∈ wsL_law := u_r34 _ (List.mem_of_getElem? (i := 9) rfl)
theorem um_X10_231 : Cond.methodLink RX10 231 yX10_isRule ∈ wsL_law := u_r34 _ (List.mem_of_getElem? (i := 10) rfl)
theorem ut_X10_isRule : Cond.static yX10_isRule ∈ wsL_law := u_r34 _ (List.mem_of_getElem? (i := 11) rfl)
theorem uc_X10_isRule : Cond.code yX10_isRule cX10_isRule 2 (some .boolean) ∈ wsL_law := u_r34 _ (List.mem_of_getElem? (i := 12) rfl)
theorem um_L_66 : Cond.methodLink RL 66 yX9_keep ∈ wsL_law := u_r34 _ (List.mem_of_getElem? (i := 13) rfl)
theorem ui_X9_keep : Cond.instanceMethod yX9_keep ∈ wsL_law := u_r34 _ (List.mem_of_getElem? (i := 14) rfl)
theorem us_X9_keep : Cond.selects RX9 yX9_keep yX9_keep ∈ wsL_law := u_r34 _ (List.mem_of_getElem? (i := 15) rfl)
theorem uc_X9_keep : Cond.code yX9_keep cX9_keep 2 (some .int) ∈ wsL_law := u_r34 _ (List.mem_of_getElem? (i := 16) rfl)
theorem um_X9_206 : Cond.methodLink RX9 206 yX5_fill ∈ wsL_law := u_r34 _ (List.mem_of_getElem? (i := 17) rfl)
theorem ui_X5_fill : Cond.instanceMethod yX5_fill ∈ wsL_law := u_r34 _ (List.mem_of_getElem? (i := 18) rfl)
theorem us_X5_fill : Cond.selects RX5 yX5_fill yX5_fill ∈ wsL_law := u_r34 _ (List.mem_of_getElem? (i := 19) rfl)
theorem uc_X5_fill : Cond.code yX5_fill cX5_fill 4 none ∈ wsL_law := u_r34 _ (List.mem_of_getElem? (i := 20) rfl)
theorem um_X5_22 : Cond.methodLink RX5 22 yX6_copyFrom ∈ wsL_law := u_r34 _ (List.mem_of_getElem? (i := 21) rfl)
theorem um_L_69 : Cond.methodLink RL 69 yX10_keep ∈ wsL_law := u_r34 _ (List.mem_of_getElem? (i := 22) rfl)
theorem ui_X10_keep : Cond.instanceMethod yX10_keep ∈ wsL_law := u_r34 _ (List.mem_of_getElem? (i := 23) rfl)
theorem us_X10_keep : Cond.selects RX10 yX10_keep yX10_keep ∈ wsL_law := u_r35 _ (List.mem_of_getElem? (i := 0) rfl)
theorem uc_X10_keep : Cond.code yX10_keep cX10_keep 2 (some .int) ∈ wsL_law := u_r35 _ (List.mem_of_getElem? (i := 1) rfl)
theorem um_L_70 : Cond.methodLink RL 70 yX9_restore ∈ wsL_law := u_r35 _ (List.mem_of_getElem? (i := 2) rfl)
theorem ui_X9_restore : Cond.instanceMethod yX9_restore ∈ wsL_law := u_r35 _ (List.mem_of_getElem? (i := 3) rfl)
theorem us_X9_restore : Cond.selects RX9 yX9_restore yX9_restore ∈ wsL_law := u_r35 _ (List.mem_of_getElem? (i := 4) rfl)
theorem uc_X9_restore : Cond.code yX9_restore cX9_restore 3 (some .int) ∈ wsL_law := u_r35 _ (List.mem_of_getElem? (i := 5) rfl)
theorem um_X9_210 : Cond.methodLink RX9 210 yX5_keptIn ∈ wsL_law := u_r35 _ (List.mem_of_getElem? (i := 6) rfl)
theorem ui_X5_keptIn : Cond.instanceMethod yX5_keptIn ∈ wsL_law := u_r35 _ (List.mem_of_getElem? (i := 7) rfl)
theorem us_X5_keptIn : Cond.selects RX5 yX5_keptIn yX5_keptIn ∈ wsL_law := u_r35 _ (List.mem_of_getElem? (i := 8) rfl)
theorem uc_X5_keptIn : Cond.code yX5_keptIn cX5_keptIn 2 (some (.object "RingOffices$State")) ∈ wsL_law := u_r35 _ (List.mem_of_getElem? (i := 9) rfl)
theorem um_L_73 : Cond.methodLink RL 73 yX10_restore ∈ wsL_law := u_r35 _ (List.mem_of_getElem? (i := 10) rfl)
theorem ui_X10_restore : Cond.instanceMethod yX10_restore ∈ wsL_law := u_r35 _ (List.mem_of_getElem? (i := 11) rfl)
theorem us_X10_restore : Cond.selects RX10 yX10_restore yX10_restore ∈ wsL_law := u_r35 _ (List.mem_of_getElem? (i := 12) rfl)
theorem uc_X10_restore : Cond.code yX10_restore cX10_restore 2 (some .int) ∈ wsL_law := u_r35 _ (List.mem_of_getElem? (i := 13) rfl)
theorem um_L_74 : Cond.methodLink RL 74 yX9_undo ∈ wsL_law := u_r35 _ (List.mem_of_getElem? (i := 14) rfl)
theorem ui_X9_undo : Cond.instanceMethod yX9_undo ∈ wsL_law := u_r35 _ (List.mem_of_getElem? (i := 15) rfl)
theorem us_X9_undo : Cond.selects RX9 yX9_undo yX9_undo ∈ wsL_law := u_r35 _ (List.mem_of_getElem? (i := 16) rfl)
theorem uc_X9_undo : Cond.code yX9_undo cX9_undo 1 (some .int) ∈ wsL_law := u_r35 _ (List.mem_of_getElem? (i := 17) rfl)
theorem uf_X9_214 : Cond.fieldLink RX9 214 "RingOffices$History" "count" "I" ∈ wsL_law := u_r35 _ (List.mem_of_getElem? (i := 18) rfl)
theorem um_X9_215 : Cond.methodLink RX9 215 yX0_takeBack ∈ wsL_law := u_r35 _ (List.mem_of_getElem? (i := 19) rfl)
theorem ui_X0_takeBack : Cond.instanceMethod yX0_takeBack ∈ wsL_law := u_r35 _ (List.mem_of_getElem? (i := 20) rfl)
theorem us_X0_takeBack : Cond.selects RX0 yX0_takeBack yX0_takeBack ∈ wsL_law := u_r35 _ (List.mem_of_getElem? (i := 21) rfl)
theorem uc_X0_takeBack : Cond.code yX0_takeBack cX0_takeBack 3 none ∈ wsL_law := u_r35 _ (List.mem_of_getElem? (i := 22) rfl)
theorem um_L_77 : Cond.methodLink RL 77 yX10_undo ∈ wsL_law := u_r35 _ (List.mem_of_getElem? (i := 23) rfl)
theorem ui_X10_undo : Cond.instanceMethod yX10_undo ∈ wsL_law := u_r36 _ (List.mem_of_getElem? (i := 0) rfl)
theorem us_X10_undo : Cond.selects RX10 yX10_undo yX10_undo ∈ wsL_law := u_r36 _ (List.mem_of_getElem? (i := 1) rfl)
theorem uc_X10_undo : Cond.code yX10_undo cX10_undo 1 (some .int) ∈ wsL_law := u_r36 _ (List.mem_of_getElem? (i := 2) rfl)
theorem um_L_78 : Cond.methodLink RL 78 yX9_value ∈ wsL_law := u_r36 _ (List.mem_of_getElem? (i := 3) rfl)
theorem ui_X9_value : Cond.instanceMethod yX9_value ∈ wsL_law := u_r36 _ (List.mem_of_getElem? (i := 4) rfl)
theorem us_X9_value : Cond.selects RX9 yX9_value yX9_value ∈ wsL_law := u_r36 _ (List.mem_of_getElem? (i := 5) rfl)
theorem uc_X9_value : Cond.code yX9_value cX9_value 2 (some .int) ∈ wsL_law := u_r36 _ (List.mem_of_getElem? (i := 6) rfl)
theorem uf_X9_221 : Cond.fieldLink RX9 221 "RingOffices$State" "silence" "I" ∈ wsL_law := u_r36 _ (List.mem_of_getElem? (i := 7) rfl)
theorem uf_X9_230 : Cond.fieldLink RX9 230 "RingOffices$Log" "count" "I" ∈ wsL_law := u_r36 _ (List.mem_of_getElem? (i := 8) rfl)
theorem um_X9_218 : Cond.methodLink RX9 218 yX2_howManyOpen ∈ wsL_law := u_r36 _ (List.mem_of_getElem? (i := 9) rfl)
theorem ui_X2_howManyOpen : Cond.instanceMethod yX2_howManyOpen ∈ wsL_law := u_r36 _ (List.mem_of_getElem? (i := 10) rfl)
theorem us_X2_howManyOpen : Cond.selects RX2 yX2_howManyOpen yX2_howManyOpen ∈ wsL_law := u_r36 _ (List.mem_of_getElem? (i := 11) rfl)
theorem uc_X2_howManyOpen : Cond.code yX2_howManyOpen cX2_howManyOpen 3 (some .int) ∈ wsL_law := u_r36 _ (List.mem_of_getElem? (i := 12) rfl)
theorem um_X9_224 : Cond.methodLink RX9 224 yX2_lettersInAll ∈ wsL_law := u_r36 _ (List.mem_of_getElem? (i := 13) rfl)
theorem ui_X2_lettersInAll : Cond.instanceMethod yX2_lettersInAll ∈ wsL_law := u_r36 _ (List.mem_of_getElem? (i := 14) rfl)
theorem us_X2_lettersInAll : Cond.selects RX2 yX2_lettersInAll yX2_lettersInAll ∈ wsL_law := u_r36 _ (List.mem_of_getElem? (i := 15) rfl)
theorem uc_X2_lettersInAll : Cond.code yX2_lettersInAll cX2_lettersInAll 3 (some .int) ∈ wsL_law := u_r36 _ (List.mem_of_getElem? (i := 16) rfl)
theorem um_X9_227 : Cond.methodLink RX9 227 yX2_lengthInAll ∈ wsL_law := u_r36 _ (List.mem_of_getElem? (i := 17) rfl)
theorem ui_X2_lengthInAll : Cond.instanceMethod yX2_lengthInAll ∈ wsL_law := u_r36 _ (List.mem_of_getElem? (i := 18) rfl)
theorem us_X2_lengthInAll : Cond.selects RX2 yX2_lengthInAll yX2_lengthInAll ∈ wsL_law := u_r36 _ (List.mem_of_getElem? (i := 19) rfl)
theorem uc_X2_lengthInAll : Cond.code yX2_lengthInAll cX2_lengthInAll 3 (some .int) ∈ wsL_law := u_r36 _ (List.mem_of_getElem? (i := 20) rfl)
theorem um_X2_63 : Cond.methodLink RX2 63 yX2_lengthInQueue ∈ wsL_law := u_r36 _ (List.mem_of_getElem? (i := 21) rfl)
theorem ui_X2_lengthInQueue : Cond.instanceMethod yX2_lengthInQueue ∈ wsL_law := u_r36 _ (List.mem_of_getElem? (i := 22) rfl)
theorem us_X2_lengthInQueue : Cond.selects RX2 yX2_lengthInQueue yX2_lengthInQueue ∈ wsL_law := u_r36 _ (List.mem_of_getElem? (i := 23) rfl)
theorem uc_X2_lengthInQueue : Cond.code yX2_lengthInQueue cX2_lengthInQueue 4 (some .int) ∈ wsL_law := u_r37 _ (List.mem_of_getElem? (i := 0) rfl)
theorem um_X2_59 : Cond.methodLink RX2 59 yX2_lengthOf ∈ wsL_law := u_r37 _ (List.mem_of_getElem? (i := 1) rfl)
theorem um_L_81 : Cond.methodLink RL 81 yX10_value ∈ wsL_law := u_r37 _ (List.mem_of_getElem? (i := 2) rfl)
theorem ui_X10_value : Cond.instanceMethod yX10_value ∈ wsL_law := u_r37 _ (List.mem_of_getElem? (i := 3) rfl)
theorem us_X10_value : Cond.selects RX10 yX10_value yX10_value ∈ wsL_law := u_r37 _ (List.mem_of_getElem? (i := 4) rfl)
theorem uc_X10_value : Cond.code yX10_value cX10_value 2 (some .int) ∈ wsL_law := u_r37 _ (List.mem_of_getElem? (i := 5) rfl)
theorem um_X10_238 : Cond.methodLink RX10 238 yX10_openAll ∈ wsL_law := u_r37 _ (List.mem_of_getElem? (i := 6) rfl)
theorem ui_X10_openAll : Cond.instanceMethod yX10_openAll ∈ wsL_law := u_r37 _ (List.mem_of_getElem? (i := 7) rfl)
theorem us_X10_openAll : Cond.selects RX10 yX10_openAll yX10_openAll ∈ wsL_law := u_r37 _ (List.mem_of_getElem? (i := 8) rfl)
theorem uc_X10_openAll : Cond.code yX10_openAll cX10_openAll 3 (some .int) ∈ wsL_law := u_r37 _ (List.mem_of_getElem? (i := 9) rfl)
theorem um_X10_242 : Cond.methodLink RX10 242 yX10_lettersAll ∈ wsL_law := u_r37 _ (List.mem_of_getElem? (i := 10) rfl)
theorem ut_X10_lettersAll : Cond.static yX10_lettersAll ∈ wsL_law := u_r37 _ (List.mem_of_getElem? (i := 11) rfl)
theorem uc_X10_lettersAll : Cond.code yX10_lettersAll cX10_lettersAll 3 (some .int) ∈ wsL_law := u_r37 _ (List.mem_of_getElem? (i := 12) rfl)
theorem um_X10_245 : Cond.methodLink RX10 245 yX10_lengthAll ∈ wsL_law := u_r37 _ (List.mem_of_getElem? (i := 13) rfl)
theorem ui_X10_lengthAll : Cond.instanceMethod yX10_lengthAll ∈ wsL_law := u_r37 _ (List.mem_of_getElem? (i := 14) rfl)
theorem us_X10_lengthAll : Cond.selects RX10 yX10_lengthAll yX10_lengthAll ∈ wsL_law := u_r37 _ (List.mem_of_getElem? (i := 15) rfl)
theorem uc_X10_lengthAll : Cond.code yX10_lengthAll cX10_lengthAll 3 (some .int) ∈ wsL_law := u_r37 _ (List.mem_of_getElem? (i := 16) rfl)
theorem um_X10_235 : Cond.methodLink RX10 235 yX10_lengthOf ∈ wsL_law := u_r37 _ (List.mem_of_getElem? (i := 17) rfl)
theorem ut_X10_lengthOf : Cond.static yX10_lengthOf ∈ wsL_law := u_r37 _ (List.mem_of_getElem? (i := 18) rfl)
theorem uc_X10_lengthOf : Cond.code yX10_lengthOf cX10_lengthOf 4 (some .int) ∈ wsL_law := u_r37 _ (List.mem_of_getElem? (i := 19) rfl)
theorem um_L_82 : Cond.methodLink RL 82 yX9_office ∈ wsL_law := u_r37 _ (List.mem_of_getElem? (i := 20) rfl)
theorem ui_X9_office : Cond.instanceMethod yX9_office ∈ wsL_law := u_r37 _ (List.mem_of_getElem? (i := 21) rfl)
theorem us_X9_office : Cond.selects RX9 yX9_office yX9_office ∈ wsL_law := u_r37 _ (List.mem_of_getElem? (i := 22) rfl)
theorem uc_X9_office : Cond.code yX9_office cX9_office 4 (some .int) ∈ wsL_law := u_r37 _ (List.mem_of_getElem? (i := 23) rfl)
theorem uf_X9_231 : Cond.fieldLink RX9 231 "RingOffices$Offices" "spokenToday" "[I" ∈ wsL_law := u_r38 _ (List.mem_of_getElem? (i := 0) rfl)
theorem uf_X9_240 : Cond.fieldLink RX9 240 "RingOffices$Offices" "readTo" "[I" ∈ wsL_law := u_r38 _ (List.mem_of_getElem? (i := 1) rfl)
theorem um_X9_234 : Cond.methodLink RX9 234 yX2_lengthInQueue ∈ wsL_law := u_r38 _ (List.mem_of_getElem? (i := 2) rfl)
theorem um_X9_237 : Cond.methodLink RX9 237 yX8_standingAt ∈ wsL_law := u_r38 _ (List.mem_of_getElem? (i := 3) rfl)
theorem um_X9_243 : Cond.methodLink RX9 243 yX2_lettersTo ∈ wsL_law := u_r38 _ (List.mem_of_getElem? (i := 4) rfl)
theorem ui_X2_lettersTo : Cond.instanceMethod yX2_lettersTo ∈ wsL_law := u_r38 _ (List.mem_of_getElem? (i := 5) rfl)
theorem us_X2_lettersTo : Cond.selects RX2 yX2_lettersTo yX2_lettersTo ∈ wsL_law := u_r38 _ (List.mem_of_getElem? (i := 6) rfl)
theorem uc_X2_lettersTo : Cond.code yX2_lettersTo cX2_lettersTo 5 (some .int) ∈ wsL_law := u_r38 _ (List.mem_of_getElem? (i := 7) rfl)
theorem um_X2_67 : Cond.methodLink RX2 67 yX2_toOf ∈ wsL_law := u_r38 _ (List.mem_of_getElem? (i := 8) rfl)
theorem um_L_85 : Cond.methodLink RL 85 yX10_office ∈ wsL_law := u_r38 _ (List.mem_of_getElem? (i := 9) rfl)
theorem ui_X10_office : Cond.instanceMethod yX10_office ∈ wsL_law := u_r38 _ (List.mem_of_getElem? (i := 10) rfl)
theorem us_X10_office : Cond.selects RX10 yX10_office yX10_office ∈ wsL_law := u_r38 _ (List.mem_of_getElem? (i := 11) rfl)
theorem uc_X10_office : Cond.code yX10_office cX10_office 3 (some .int) ∈ wsL_law := u_r38 _ (List.mem_of_getElem? (i := 12) rfl)
theorem um_X10_248 : Cond.methodLink RX10 248 yX10_lettersTo ∈ wsL_law := u_r38 _ (List.mem_of_getElem? (i := 13) rfl)
theorem ui_X10_lettersTo : Cond.instanceMethod yX10_lettersTo ∈ wsL_law := u_r38 _ (List.mem_of_getElem? (i := 14) rfl)
theorem us_X10_lettersTo : Cond.selects RX10 yX10_lettersTo yX10_lettersTo ∈ wsL_law := u_r38 _ (List.mem_of_getElem? (i := 15) rfl)
theorem uc_X10_lettersTo : Cond.code yX10_lettersTo cX10_lettersTo 5 (some .int) ∈ wsL_law := u_r38 _ (List.mem_of_getElem? (i := 16) rfl)
theorem um_L_86 : Cond.methodLink RL 86 yX9_queue ∈ wsL_law := u_r38 _ (List.mem_of_getElem? (i := 17) rfl)
theorem ui_X9_queue : Cond.instanceMethod yX9_queue ∈ wsL_law := u_r38 _ (List.mem_of_getElem? (i := 18) rfl)
theorem us_X9_queue : Cond.selects RX9 yX9_queue yX9_queue ∈ wsL_law := u_r38 _ (List.mem_of_getElem? (i := 19) rfl)
theorem uc_X9_queue : Cond.code yX9_queue cX9_queue 6 (some .int) ∈ wsL_law := u_r38 _ (List.mem_of_getElem? (i := 20) rfl)
theorem um_X9_246 : Cond.methodLink RX9 246 yX2_toOf ∈ wsL_law := u_r38 _ (List.mem_of_getElem? (i := 21) rfl)
theorem um_L_89 : Cond.methodLink RL 89 yX10_queue ∈ wsL_law := u_r38 _ (List.mem_of_getElem? (i := 22) rfl)
theorem ui_X10_queue : Cond.instanceMethod yX10_queue ∈ wsL_law := u_r38 _ (List.mem_of_getElem? (i := 23) rfl)
theorem us_X10_queue : Cond.selects RX10 yX10_queue yX10_queue ∈ wsL_law := u_r39 _ (List.mem_of_getElem? (i := 0) rfl)
theorem uc_X10_queue : Cond.code yX10_queue cX10_queue 4 (some .int) ∈ wsL_law := u_r39 _ (List.mem_of_getElem? (i := 1) rfl)
theorem um_L_90 : Cond.methodLink RL 90 yX9_token ∈ wsL_law := u_r39 _ (List.mem_of_getElem? (i := 2) rfl)
theorem ui_X9_token : Cond.instanceMethod yX9_token ∈ wsL_law := u_r39 _ (List.mem_of_getElem? (i := 3) rfl)
theorem us_X9_token : Cond.selects RX9 yX9_token yX9_token ∈ wsL_law := u_r39 _ (List.mem_of_getElem? (i := 4) rfl)
theorem uc_X9_token : Cond.code yX9_token cX9_token 4 (some .int) ∈ wsL_law := u_r39 _ (List.mem_of_getElem? (i := 5) rfl)
theorem uf_X9_249 : Cond.fieldLink RX9 249 "RingOffices$Tokens" "place" "[I" ∈ wsL_law := u_r39 _ (List.mem_of_getElem? (i := 6) rfl)
theorem uf_X9_252 : Cond.fieldLink RX9 252 "RingOffices$Tokens" "togo" "[I" ∈ wsL_law := u_r39 _ (List.mem_of_getElem? (i := 7) rfl)
theorem uf_X9_255 : Cond.fieldLink RX9 255 "RingOffices$Tokens" "turn" "[I" ∈ wsL_law := u_r39 _ (List.mem_of_getElem? (i := 8) rfl)
theorem uf_X9_258 : Cond.fieldLink RX9 258 "RingOffices$Tokens" "left" "[I" ∈ wsL_law := u_r39 _ (List.mem_of_getElem? (i := 9) rfl)
theorem um_L_93 : Cond.methodLink RL 93 yX10_token ∈ wsL_law := u_r39 _ (List.mem_of_getElem? (i := 10) rfl)
theorem ui_X10_token : Cond.instanceMethod yX10_token ∈ wsL_law := u_r39 _ (List.mem_of_getElem? (i := 11) rfl)
theorem us_X10_token : Cond.selects RX10 yX10_token yX10_token ∈ wsL_law := u_r39 _ (List.mem_of_getElem? (i := 12) rfl)
theorem uc_X10_token : Cond.code yX10_token cX10_token 3 (some .int) ∈ wsL_law := u_r39 _ (List.mem_of_getElem? (i := 13) rfl)
theorem um_L_94 : Cond.methodLink RL 94 yX9_winner ∈ wsL_law := u_r39 _ (List.mem_of_getElem? (i := 14) rfl)
theorem ui_X9_winner : Cond.instanceMethod yX9_winner ∈ wsL_law := u_r39 _ (List.mem_of_getElem? (i := 15) rfl)
theorem us_X9_winner : Cond.selects RX9 yX9_winner yX9_winner ∈ wsL_law := u_r39 _ (List.mem_of_getElem? (i := 16) rfl)
theorem uc_X9_winner : Cond.code yX9_winner cX9_winner 1 (some .int) ∈ wsL_law := u_r39 _ (List.mem_of_getElem? (i := 17) rfl)
theorem um_X9_261 : Cond.methodLink RX9 261 yX2_openWithGreatestName ∈ wsL_law := u_r39 _ (List.mem_of_getElem? (i := 18) rfl)
theorem um_L_97 : Cond.methodLink RL 97 yX10_winner ∈ wsL_law := u_r39 _ (List.mem_of_getElem? (i := 19) rfl)
theorem ui_X10_winner : Cond.instanceMethod yX10_winner ∈ wsL_law := u_r39 _ (List.mem_of_getElem? (i := 20) rfl)
theorem us_X10_winner : Cond.selects RX10 yX10_winner yX10_winner ∈ wsL_law := u_r39 _ (List.mem_of_getElem? (i := 21) rfl)
theorem uc_X10_winner : Cond.code yX10_winner cX10_winner 1 (some .int) ∈ wsL_law := u_r39 _ (List.mem_of_getElem? (i := 22) rfl)
theorem um_L_98 : Cond.methodLink RL 98 yX9_round ∈ wsL_law := u_r39 _ (List.mem_of_getElem? (i := 23) rfl)
theorem ui_X9_round : Cond.instanceMethod yX9_round ∈ wsL_law := u_r40 _ (List.mem_of_getElem? (i := 0) rfl)
theorem us_X9_round : Cond.selects RX9 yX9_round yX9_round ∈ wsL_law := u_r40 _ (List.mem_of_getElem? (i := 1) rfl)
theorem uc_X9_round : Cond.code yX9_round cX9_round 3 (some .int) ∈ wsL_law := u_r40 _ (List.mem_of_getElem? (i := 2) rfl)
theorem um_L_101 : Cond.methodLink RL 101 yX10_round ∈ wsL_law := u_r40 _ (List.mem_of_getElem? (i := 3) rfl)
theorem ui_X10_round : Cond.instanceMethod yX10_round ∈ wsL_law := u_r40 _ (List.mem_of_getElem? (i := 4) rfl)
theorem us_X10_round : Cond.selects RX10 yX10_round yX10_round ∈ wsL_law := u_r40 _ (List.mem_of_getElem? (i := 5) rfl)
theorem uc_X10_round : Cond.code yX10_round cX10_round 3 (some .int) ∈ wsL_law := u_r40 _ (List.mem_of_getElem? (i := 6) rfl)
theorem um_L_102 : Cond.methodLink RL 102 yX9_busiest ∈ wsL_law := u_r40 _ (List.mem_of_getElem? (i := 7) rfl)
theorem ui_X9_busiest : Cond.instanceMethod yX9_busiest ∈ wsL_law := u_r40 _ (List.mem_of_getElem? (i := 8) rfl)
theorem us_X9_busiest : Cond.selects RX9 yX9_busiest yX9_busiest ∈ wsL_law := u_r40 _ (List.mem_of_getElem? (i := 9) rfl)
theorem uc_X9_busiest : Cond.code yX9_busiest cX9_busiest 3 (some .int) ∈ wsL_law := u_r40 _ (List.mem_of_getElem? (i := 10) rfl)
theorem um_L_105 : Cond.methodLink RL 105 yX10_busiest ∈ wsL_law := u_r40 _ (List.mem_of_getElem? (i := 11) rfl)
theorem ui_X10_busiest : Cond.instanceMethod yX10_busiest ∈ wsL_law := u_r40 _ (List.mem_of_getElem? (i := 12) rfl)
theorem us_X10_busiest : Cond.selects RX10 yX10_busiest yX10_busiest ∈ wsL_law := u_r40 _ (List.mem_of_getElem? (i := 13) rfl)
theorem uc_X10_busiest : Cond.code yX10_busiest cX10_busiest 3 (some .int) ∈ wsL_law := u_r40 _ (List.mem_of_getElem? (i := 14) rfl)
theorem um_L_106 : Cond.methodLink RL 106 yX9_why ∈ wsL_law := u_r40 _ (List.mem_of_getElem? (i := 15) rfl)
theorem ui_X9_why : Cond.instanceMethod yX9_why ∈ wsL_law := u_r40 _ (List.mem_of_getElem? (i := 16) rfl)
theorem us_X9_why : Cond.selects RX9 yX9_why yX9_why ∈ wsL_law := u_r40 _ (List.mem_of_getElem? (i := 17) rfl)
theorem uc_X9_why : Cond.code yX9_why cX9_why 4 (some .int) ∈ wsL_law := u_r40 _ (List.mem_of_getElem? (i := 18) rfl)
theorem um_X9_264 : Cond.methodLink RX9 264 yX6_fitsInTurn ∈ wsL_law := u_r40 _ (List.mem_of_getElem? (i := 19) rfl)
theorem um_X9_267 : Cond.methodLink RX9 267 yX6_fitsInDay ∈ wsL_law := u_r40 _ (List.mem_of_getElem? (i := 20) rfl)
theorem um_L_109 : Cond.methodLink RL 109 yX10_why ∈ wsL_law := u_r40 _ (List.mem_of_getElem? (i := 21) rfl)
theorem ui_X10_why : Cond.instanceMethod yX10_why ∈ wsL_law := u_r40 _ (List.mem_of_getElem? (i := 22) rfl)
theorem us_X10_why : Cond.selects RX10 yX10_why yX10_why ∈ wsL_law := u_r40 _ (List.mem_of_getElem? (i := 23) rfl)
theorem uc_X10_why : Cond.code yX10_why cX10_why 3 (some .int) ∈ wsL_law := u_r41 _ (List.mem_of_getElem? (i := 0) rfl)
theorem um_L_110 : Cond.methodLink RL 110 yX9_comesIn ∈ wsL_law := u_r41 _ (List.mem_of_getElem? (i := 1) rfl)
theorem ui_X9_comesIn : Cond.instanceMethod yX9_comesIn ∈ wsL_law := u_r41 _ (List.mem_of_getElem? (i := 2) rfl)
theorem us_X9_comesIn : Cond.selects RX9 yX9_comesIn yX9_comesIn ∈ wsL_law := u_r41 _ (List.mem_of_getElem? (i := 3) rfl)
theorem uc_X9_comesIn : Cond.code yX9_comesIn cX9_comesIn 3 (some .int) ∈ wsL_law := u_r41 _ (List.mem_of_getElem? (i := 4) rfl)
theorem um_L_113 : Cond.methodLink RL 113 yX10_comesIn ∈ wsL_law := u_r41 _ (List.mem_of_getElem? (i := 5) rfl)
theorem ui_X10_comesIn : Cond.instanceMethod yX10_comesIn ∈ wsL_law := u_r41 _ (List.mem_of_getElem? (i := 6) rfl)
theorem us_X10_comesIn : Cond.selects RX10 yX10_comesIn yX10_comesIn ∈ wsL_law := u_r41 _ (List.mem_of_getElem? (i := 7) rfl)
theorem uc_X10_comesIn : Cond.code yX10_comesIn cX10_comesIn 3 (some .int) ∈ wsL_law := u_r41 _ (List.mem_of_getElem? (i := 8) rfl)
theorem um_X10_251 : Cond.methodLink RX10 251 yX10_takesSpare ∈ wsL_law := u_r41 _ (List.mem_of_getElem? (i := 9) rfl)
theorem ui_X10_takesSpare : Cond.instanceMethod yX10_takesSpare ∈ wsL_law := u_r41 _ (List.mem_of_getElem? (i := 10) rfl)
theorem us_X10_takesSpare : Cond.selects RX10 yX10_takesSpare yX10_takesSpare ∈ wsL_law := u_r41 _ (List.mem_of_getElem? (i := 11) rfl)
theorem uc_X10_takesSpare : Cond.code yX10_takesSpare cX10_takesSpare 1 none ∈ wsL_law := u_r41 _ (List.mem_of_getElem? (i := 12) rfl)
theorem um_L_114 : Cond.methodLink RL 114 yX9_doneIn ∈ wsL_law := u_r41 _ (List.mem_of_getElem? (i := 13) rfl)
theorem ui_X9_doneIn : Cond.instanceMethod yX9_doneIn ∈ wsL_law := u_r41 _ (List.mem_of_getElem? (i := 14) rfl)
theorem us_X9_doneIn : Cond.selects RX9 yX9_doneIn yX9_doneIn ∈ wsL_law := u_r41 _ (List.mem_of_getElem? (i := 15) rfl)
theorem uc_X9_doneIn : Cond.code yX9_doneIn cX9_doneIn 1 (some .int) ∈ wsL_law := u_r41 _ (List.mem_of_getElem? (i := 16) rfl)
theorem um_X9_270 : Cond.methodLink RX9 270 yX9_triedUntilDone ∈ wsL_law := u_r41 _ (List.mem_of_getElem? (i := 17) rfl)
theorem ui_X9_triedUntilDone : Cond.instanceMethod yX9_triedUntilDone ∈ wsL_law := u_r41 _ (List.mem_of_getElem? (i := 18) rfl)
theorem us_X9_triedUntilDone : Cond.selects RX9 yX9_triedUntilDone yX9_triedUntilDone ∈ wsL_law := u_r41 _ (List.mem_of_getElem? (i := 19) rfl)
theorem uc_X9_triedUntilDone : Cond.code yX9_triedUntilDone cX9_triedUntilDone 3 (some .int) ∈ wsL_law := u_r41 _ (List.mem_of_getElem? (i := 20) rfl)
theorem um_L_117 : Cond.methodLink RL 117 yX10_doneIn ∈ wsL_law := u_r41 _ (List.mem_of_getElem? (i := 21) rfl)
theorem ui_X10_doneIn : Cond.instanceMethod yX10_doneIn ∈ wsL_law := u_r41 _ (List.mem_of_getElem? (i := 22) rfl)
theorem us_X10_doneIn : Cond.selects RX10 yX10_doneIn yX10_doneIn ∈ wsL_law := u_r41 _ (List.mem_of_getElem? (i := 23) rfl)
theorem uc_X10_doneIn : Cond.code yX10_doneIn cX10_doneIn 1 (some .int) ∈ wsL_law := u_r42 _ (List.mem_of_getElem? (i := 0) rfl)
theorem um_X10_254 : Cond.methodLink RX10 254 yX10_doneInSpare ∈ wsL_law := u_r42 _ (List.mem_of_getElem? (i := 1) rfl)
theorem ui_X10_doneInSpare : Cond.instanceMethod yX10_doneInSpare ∈ wsL_law := u_r42 _ (List.mem_of_getElem? (i := 2) rfl)
theorem us_X10_doneInSpare : Cond.selects RX10 yX10_doneInSpare yX10_doneInSpare ∈ wsL_law := u_r42 _ (List.mem_of_getElem? (i := 3) rfl)
theorem uc_X10_doneInSpare : Cond.code yX10_doneInSpare cX10_doneInSpare 2 (some .int) ∈ wsL_law := u_r42 _ (List.mem_of_getElem? (i := 4) rfl)
theorem um_L_118 : Cond.methodLink RL 118 yX9_ifPassed ∈ wsL_law := u_r42 _ (List.mem_of_getElem? (i := 5) rfl)
theorem ui_X9_ifPassed : Cond.instanceMethod yX9_ifPassed ∈ wsL_law := u_r42 _ (List.mem_of_getElem? (i := 6) rfl)
theorem us_X9_ifPassed : Cond.selects RX9 yX9_ifPassed yX9_ifPassed ∈ wsL_law := u_r42 _ (List.mem_of_getElem? (i := 7) rfl)
theorem uc_X9_ifPassed : Cond.code yX9_ifPassed cX9_ifPassed 3 (some .int) ∈ wsL_law := u_r42 _ (List.mem_of_getElem? (i := 8) rfl)
theorem um_X9_273 : Cond.methodLink RX9 273 yX9_isForesight ∈ wsL_law := u_r42 _ (List.mem_of_getElem? (i := 9) rfl)
theorem ut_X9_isForesight : Cond.static yX9_isForesight ∈ wsL_law := u_r42 _ (List.mem_of_getElem? (i := 10) rfl)
theorem uc_X9_isForesight : Cond.code yX9_isForesight cX9_isForesight 2 (some .boolean) ∈ wsL_law := u_r42 _ (List.mem_of_getElem? (i := 11) rfl)
theorem um_X9_276 : Cond.methodLink RX9 276 yX9_triedMinutes ∈ wsL_law := u_r42 _ (List.mem_of_getElem? (i := 12) rfl)
theorem ui_X9_triedMinutes : Cond.instanceMethod yX9_triedMinutes ∈ wsL_law := u_r42 _ (List.mem_of_getElem? (i := 13) rfl)
theorem us_X9_triedMinutes : Cond.selects RX9 yX9_triedMinutes yX9_triedMinutes ∈ wsL_law := u_r42 _ (List.mem_of_getElem? (i := 14) rfl)
theorem uc_X9_triedMinutes : Cond.code yX9_triedMinutes cX9_triedMinutes 4 (some .int) ∈ wsL_law := u_r42 _ (List.mem_of_getElem? (i := 15) rfl)
theorem um_X9_305 : Cond.methodLink RX9 305 yX9_countTold ∈ wsL_law := u_r42 _ (List.mem_of_getElem? (i := 16) rfl)
theorem ut_X9_countTold : Cond.static yX9_countTold ∈ wsL_law := u_r42 _ (List.mem_of_getElem? (i := 17) rfl)
theorem uc_X9_countTold : Cond.code yX9_countTold cX9_countTold 1 (some .int) ∈ wsL_law := u_r42 _ (List.mem_of_getElem? (i := 18) rfl)
theorem um_L_121 : Cond.methodLink RL 121 yX10_ifPassed ∈ wsL_law := u_r42 _ (List.mem_of_getElem? (i := 19) rfl)
theorem ui_X10_ifPassed : Cond.instanceMethod yX10_ifPassed ∈ wsL_law := u_r42 _ (List.mem_of_getElem? (i := 20) rfl)
theorem us_X10_ifPassed : Cond.selects RX10 yX10_ifPassed yX10_ifPassed ∈ wsL_law := u_r42 _ (List.mem_of_getElem? (i := 21) rfl)
theorem uc_X10_ifPassed : Cond.code yX10_ifPassed cX10_ifPassed 3 (some .int) ∈ wsL_law := u_r42 _ (List.mem_of_getElem? (i := 22) rfl)
theorem um_X10_257 : Cond.methodLink RX10 257 yX10_isAhead ∈ wsL_law := u_r42 _ (List.mem_of_getElem? (i := 23) rfl)
theorem ut_X10_isAhead : Cond.static yX10_isAhead ∈ wsL_law := u_r43 _ (List.mem_of_getElem? (i := 0) rfl)
theorem uc_X10_isAhead : Cond.code yX10_isAhead cX10_isAhead 1 (some .boolean) ∈ wsL_law := u_r43 _ (List.mem_of_getElem? (i := 1) rfl)
theorem um_X10_260 : Cond.methodLink RX10 260 yX10_isTold ∈ wsL_law := u_r43 _ (List.mem_of_getElem? (i := 2) rfl)
theorem ut_X10_isTold : Cond.static yX10_isTold ∈ wsL_law := u_r43 _ (List.mem_of_getElem? (i := 3) rfl)
theorem uc_X10_isTold : Cond.code yX10_isTold cX10_isTold 1 (some .boolean) ∈ wsL_law := u_r43 _ (List.mem_of_getElem? (i := 4) rfl)
theorem um_X10_263 : Cond.methodLink RX10 263 yX10_passed ∈ wsL_law := u_r43 _ (List.mem_of_getElem? (i := 5) rfl)
theorem ui_X10_passed : Cond.instanceMethod yX10_passed ∈ wsL_law := u_r43 _ (List.mem_of_getElem? (i := 6) rfl)
theorem us_X10_passed : Cond.selects RX10 yX10_passed yX10_passed ∈ wsL_law := u_r43 _ (List.mem_of_getElem? (i := 7) rfl)
theorem uc_X10_passed : Cond.code yX10_passed cX10_passed 8 (some .int) ∈ wsL_law := u_r43 _ (List.mem_of_getElem? (i := 8) rfl)
theorem um_L_122 : Cond.methodLink RL 122 yX9_ifRule ∈ wsL_law := u_r43 _ (List.mem_of_getElem? (i := 9) rfl)
theorem ui_X9_ifRule : Cond.instanceMethod yX9_ifRule ∈ wsL_law := u_r43 _ (List.mem_of_getElem? (i := 10) rfl)
theorem us_X9_ifRule : Cond.selects RX9 yX9_ifRule yX9_ifRule ∈ wsL_law := u_r43 _ (List.mem_of_getElem? (i := 11) rfl)
theorem uc_X9_ifRule : Cond.code yX9_ifRule cX9_ifRule 5 (some .int) ∈ wsL_law := u_r43 _ (List.mem_of_getElem? (i := 12) rfl)
theorem um_L_126 : Cond.methodLink RL 126 yX10_ifRule ∈ wsL_law := u_r43 _ (List.mem_of_getElem? (i := 13) rfl)
theorem ui_X10_ifRule : Cond.instanceMethod yX10_ifRule ∈ wsL_law := u_r43 _ (List.mem_of_getElem? (i := 14) rfl)
theorem us_X10_ifRule : Cond.selects RX10 yX10_ifRule yX10_ifRule ∈ wsL_law := u_r43 _ (List.mem_of_getElem? (i := 15) rfl)
theorem uc_X10_ifRule : Cond.code yX10_ifRule cX10_ifRule 5 (some .int) ∈ wsL_law := u_r43 _ (List.mem_of_getElem? (i := 16) rfl)
theorem um_L_127 : Cond.methodLink RL 127 yX9_ifShut ∈ wsL_law := u_r43 _ (List.mem_of_getElem? (i := 17) rfl)
theorem ui_X9_ifShut : Cond.instanceMethod yX9_ifShut ∈ wsL_law := u_r43 _ (List.mem_of_getElem? (i := 18) rfl)
theorem us_X9_ifShut : Cond.selects RX9 yX9_ifShut yX9_ifShut ∈ wsL_law := u_r43 _ (List.mem_of_getElem? (i := 19) rfl)
theorem uc_X9_ifShut : Cond.code yX9_ifShut cX9_ifShut 4 (some .int) ∈ wsL_law := u_r43 _ (List.mem_of_getElem? (i := 20) rfl)
theorem um_L_130 : Cond.methodLink RL 130 yX10_ifShut ∈ wsL_law := u_r43 _ (List.mem_of_getElem? (i := 21) rfl)
theorem ui_X10_ifShut : Cond.instanceMethod yX10_ifShut ∈ wsL_law := u_r43 _ (List.mem_of_getElem? (i := 22) rfl)
theorem us_X10_ifShut : Cond.selects RX10 yX10_ifShut yX10_ifShut ∈ wsL_law := u_r43 _ (List.mem_of_getElem? (i := 23) rfl)
theorem uc_X10_ifShut : Cond.code yX10_ifShut cX10_ifShut 4 (some .int) ∈ wsL_law := u_r44 _ (List.mem_of_getElem? (i := 0) rfl)
theorem um_L_131 : Cond.methodLink RL 131 yX9_bestSpeak ∈ wsL_law := u_r44 _ (List.mem_of_getElem? (i := 1) rfl)
theorem ui_X9_bestSpeak : Cond.instanceMethod yX9_bestSpeak ∈ wsL_law := u_r44 _ (List.mem_of_getElem? (i := 2) rfl)
theorem us_X9_bestSpeak : Cond.selects RX9 yX9_bestSpeak yX9_bestSpeak ∈ wsL_law := u_r44 _ (List.mem_of_getElem? (i := 3) rfl)
theorem uc_X9_bestSpeak : Cond.code yX9_bestSpeak cX9_bestSpeak 6 (some .int) ∈ wsL_law := u_r44 _ (List.mem_of_getElem? (i := 4) rfl)
theorem um_L_134 : Cond.methodLink RL 134 yX10_bestSpeak ∈ wsL_law := u_r44 _ (List.mem_of_getElem? (i := 5) rfl)
theorem ui_X10_bestSpeak : Cond.instanceMethod yX10_bestSpeak ∈ wsL_law := u_r44 _ (List.mem_of_getElem? (i := 6) rfl)
theorem us_X10_bestSpeak : Cond.selects RX10 yX10_bestSpeak yX10_bestSpeak ∈ wsL_law := u_r44 _ (List.mem_of_getElem? (i := 7) rfl)
theorem uc_X10_bestSpeak : Cond.code yX10_bestSpeak cX10_bestSpeak 6 (some .int) ∈ wsL_law := u_r44 _ (List.mem_of_getElem? (i := 8) rfl)
theorem um_L_135 : Cond.methodLink RL 135 yX9_leastQuota ∈ wsL_law := u_r44 _ (List.mem_of_getElem? (i := 9) rfl)
theorem ui_X9_leastQuota : Cond.instanceMethod yX9_leastQuota ∈ wsL_law := u_r44 _ (List.mem_of_getElem? (i := 10) rfl)
theorem us_X9_leastQuota : Cond.selects RX9 yX9_leastQuota yX9_leastQuota ∈ wsL_law := u_r44 _ (List.mem_of_getElem? (i := 11) rfl)
theorem uc_X9_leastQuota : Cond.code yX9_leastQuota cX9_leastQuota 3 (some .int) ∈ wsL_law := u_r44 _ (List.mem_of_getElem? (i := 12) rfl)
theorem um_L_138 : Cond.methodLink RL 138 yX10_leastQuota ∈ wsL_law := u_r44 _ (List.mem_of_getElem? (i := 13) rfl)
theorem ui_X10_leastQuota : Cond.instanceMethod yX10_leastQuota ∈ wsL_law := u_r44 _ (List.mem_of_getElem? (i := 14) rfl)
theorem us_X10_leastQuota : Cond.selects RX10 yX10_leastQuota yX10_leastQuota ∈ wsL_law := u_r44 _ (List.mem_of_getElem? (i := 15) rfl)
theorem uc_X10_leastQuota : Cond.code yX10_leastQuota cX10_leastQuota 3 (some .int) ∈ wsL_law := u_r44 _ (List.mem_of_getElem? (i := 16) rfl)
theorem um_X10_266 : Cond.methodLink RX10 266 yX10_doneIn ∈ wsL_law := u_r44 _ (List.mem_of_getElem? (i := 17) rfl)
theorem um_L_139 : Cond.methodLink RL 139 yX9_log ∈ wsL_law := u_r44 _ (List.mem_of_getElem? (i := 18) rfl)
theorem ui_X9_log : Cond.instanceMethod yX9_log ∈ wsL_law := u_r44 _ (List.mem_of_getElem? (i := 19) rfl)
theorem us_X9_log : Cond.selects RX9 yX9_log yX9_log ∈ wsL_law := u_r44 _ (List.mem_of_getElem? (i := 20) rfl)
theorem uc_X9_log : Cond.code yX9_log cX9_log 3 (some .int) ∈ wsL_law := u_r44 _ (List.mem_of_getElem? (i := 21) rfl)
theorem um_X9_279 : Cond.methodLink RX9 279 yX1_part ∈ wsL_law := u_r44 _ (List.mem_of_getElem? (i := 22) rfl)
theorem ui_X1_part : Cond.instanceMethod yX1_part ∈ wsL_law := u_r44 _ (List.mem_of_getElem? (i := 23) rfl)
theorem us_X1_part : Cond.selects RX1 yX1_part yX1_part ∈ wsL_law := u_r45 _ (List.mem_of_getElem? (i := 0) rfl)
theorem uc_X1_part : Cond.code yX1_part cX1_part 4 (some .int) ∈ wsL_law := u_r45 _ (List.mem_of_getElem? (i := 1) rfl)
theorem um_L_142 : Cond.methodLink RL 142 yX10_log ∈ wsL_law := u_r45 _ (List.mem_of_getElem? (i := 2) rfl)
theorem ui_X10_log : Cond.instanceMethod yX10_log ∈ wsL_law := u_r45 _ (List.mem_of_getElem? (i := 3) rfl)
theorem us_X10_log : Cond.selects RX10 yX10_log yX10_log ∈ wsL_law := u_r45 _ (List.mem_of_getElem? (i := 4) rfl)
theorem uc_X10_log : Cond.code yX10_log cX10_log 3 (some .int) ∈ wsL_law := u_r45 _ (List.mem_of_getElem? (i := 5) rfl)
theorem um_L_143 : Cond.methodLink RL 143 yX9_spoken ∈ wsL_law := u_r45 _ (List.mem_of_getElem? (i := 6) rfl)
theorem ui_X9_spoken : Cond.instanceMethod yX9_spoken ∈ wsL_law := u_r45 _ (List.mem_of_getElem? (i := 7) rfl)
theorem us_X9_spoken : Cond.selects RX9 yX9_spoken yX9_spoken ∈ wsL_law := u_r45 _ (List.mem_of_getElem? (i := 8) rfl)
theorem uc_X9_spoken : Cond.code yX9_spoken cX9_spoken 1 (some .float) ∈ wsL_law := u_r45 _ (List.mem_of_getElem? (i := 9) rfl)
theorem um_L_147 : Cond.methodLink RL 147 yX10_spoken ∈ wsL_law := u_r45 _ (List.mem_of_getElem? (i := 10) rfl)
theorem ui_X10_spoken : Cond.instanceMethod yX10_spoken ∈ wsL_law := u_r45 _ (List.mem_of_getElem? (i := 11) rfl)
theorem us_X10_spoken : Cond.selects RX10 yX10_spoken yX10_spoken ∈ wsL_law := u_r45 _ (List.mem_of_getElem? (i := 12) rfl)
theorem uc_X10_spoken : Cond.code yX10_spoken cX10_spoken 1 (some .float) ∈ wsL_law := u_r45 _ (List.mem_of_getElem? (i := 13) rfl)
theorem um_L_148 : Cond.methodLink RL 148 yX9_meanLength ∈ wsL_law := u_r45 _ (List.mem_of_getElem? (i := 14) rfl)
theorem ui_X9_meanLength : Cond.instanceMethod yX9_meanLength ∈ wsL_law := u_r45 _ (List.mem_of_getElem? (i := 15) rfl)
theorem us_X9_meanLength : Cond.selects RX9 yX9_meanLength yX9_meanLength ∈ wsL_law := u_r45 _ (List.mem_of_getElem? (i := 16) rfl)
theorem uc_X9_meanLength : Cond.code yX9_meanLength cX9_meanLength 2 (some .double) ∈ wsL_law := u_r45 _ (List.mem_of_getElem? (i := 17) rfl)
theorem um_L_152 : Cond.methodLink RL 152 yX10_meanLength ∈ wsL_law := u_r45 _ (List.mem_of_getElem? (i := 18) rfl)
theorem ui_X10_meanLength : Cond.instanceMethod yX10_meanLength ∈ wsL_law := u_r45 _ (List.mem_of_getElem? (i := 19) rfl)
theorem us_X10_meanLength : Cond.selects RX10 yX10_meanLength yX10_meanLength ∈ wsL_law := u_r45 _ (List.mem_of_getElem? (i := 20) rfl)
theorem uc_X10_meanLength : Cond.code yX10_meanLength cX10_meanLength 2 (some .double) ∈ wsL_law := u_r45 _ (List.mem_of_getElem? (i := 21) rfl)
theorem um_L_153 : Cond.methodLink RL 153 yX9_listLength ∈ wsL_law := u_r45 _ (List.mem_of_getElem? (i := 22) rfl)
theorem ui_X9_listLength : Cond.instanceMethod yX9_listLength ∈ wsL_law := u_r45 _ (List.mem_of_getElem? (i := 23) rfl)
theorem us_X9_listLength : Cond.selects RX9 yX9_listLength yX9_listLength ∈ wsL_law := u_r46 _ (List.mem_of_getElem? (i := 0) rfl)
theorem uc_X9_listLength : Cond.code yX9_listLength cX9_listLength 1 (some .int) ∈ wsL_law := u_r46 _ (List.mem_of_getElem? (i := 1) rfl)
theorem um_X9_282 : Cond.methodLink RX9 282 yX9_writeList ∈ wsL_law := u_r46 _ (List.mem_of_getElem? (i := 2) rfl)
theorem ui_X9_writeList : Cond.instanceMethod yX9_writeList ∈ wsL_law := u_r46 _ (List.mem_of_getElem? (i := 3) rfl)
theorem us_X9_writeList : Cond.selects RX9 yX9_writeList yX9_writeList ∈ wsL_law := u_r46 _ (List.mem_of_getElem? (i := 4) rfl)
theorem uc_X9_writeList : Cond.code yX9_writeList cX9_writeList 2 none ∈ wsL_law := u_r46 _ (List.mem_of_getElem? (i := 5) rfl)
theorem um_X9_308 : Cond.methodLink RX9 308 yX9_writeListLine ∈ wsL_law := u_r46 _ (List.mem_of_getElem? (i := 6) rfl)
theorem ui_X9_writeListLine : Cond.instanceMethod yX9_writeListLine ∈ wsL_law := u_r46 _ (List.mem_of_getElem? (i := 7) rfl)
theorem us_X9_writeListLine : Cond.selects RX9 yX9_writeListLine yX9_writeListLine ∈ wsL_law := u_r46 _ (List.mem_of_getElem? (i := 8) rfl)
theorem uc_X9_writeListLine : Cond.code yX9_writeListLine cX9_writeListLine 4 none ∈ wsL_law := u_r46 _ (List.mem_of_getElem? (i := 9) rfl)
theorem um_X9_311 : Cond.methodLink RX9 311 yX7_addNumber ∈ wsL_law := u_r46 _ (List.mem_of_getElem? (i := 10) rfl)
theorem ui_X7_addNumber : Cond.instanceMethod yX7_addNumber ∈ wsL_law := u_r46 _ (List.mem_of_getElem? (i := 11) rfl)
theorem us_X7_addNumber : Cond.selects RX7 yX7_addNumber yX7_addNumber ∈ wsL_law := u_r46 _ (List.mem_of_getElem? (i := 12) rfl)
theorem uc_X7_addNumber : Cond.code yX7_addNumber cX7_addNumber 5 none ∈ wsL_law := u_r46 _ (List.mem_of_getElem? (i := 13) rfl)
theorem uk_X7_32 : Cond.constant RX7 32 (1000000000) ∈ wsL_law := u_r46 _ (List.mem_of_getElem? (i := 14) rfl)
theorem um_X9_314 : Cond.methodLink RX9 314 yX7_add ∈ wsL_law := u_r46 _ (List.mem_of_getElem? (i := 15) rfl)
theorem um_L_156 : Cond.methodLink RL 156 yX10_listLength ∈ wsL_law := u_r46 _ (List.mem_of_getElem? (i := 16) rfl)
theorem ui_X10_listLength : Cond.instanceMethod yX10_listLength ∈ wsL_law := u_r46 _ (List.mem_of_getElem? (i := 17) rfl)
theorem us_X10_listLength : Cond.selects RX10 yX10_listLength yX10_listLength ∈ wsL_law := u_r46 _ (List.mem_of_getElem? (i := 18) rfl)
theorem uc_X10_listLength : Cond.code yX10_listLength cX10_listLength 1 (some .int) ∈ wsL_law := u_r46 _ (List.mem_of_getElem? (i := 19) rfl)
theorem uf_X10_269 : Cond.fieldLink RX10 269 "RingOfficesModel" "written" "I" ∈ wsL_law := u_r46 _ (List.mem_of_getElem? (i := 20) rfl)
theorem um_X10_283 : Cond.methodLink RX10 283 yX10_layList ∈ wsL_law := u_r46 _ (List.mem_of_getElem? (i := 21) rfl)
theorem ui_X10_layList : Cond.instanceMethod yX10_layList ∈ wsL_law := u_r46 _ (List.mem_of_getElem? (i := 22) rfl)
theorem us_X10_layList : Cond.selects RX10 yX10_layList yX10_layList ∈ wsL_law := u_r46 _ (List.mem_of_getElem? (i := 23) rfl)
theorem uc_X10_layList : Cond.code yX10_layList cX10_layList 4 none ∈ wsL_law := u_r47 _ (List.mem_of_getElem? (i := 0) rfl)
theorem um_X10_276 : Cond.methodLink RX10 276 yX10_putsNumber ∈ wsL_law := u_r47 _ (List.mem_of_getElem? (i := 1) rfl)
theorem ui_X10_putsNumber : Cond.instanceMethod yX10_putsNumber ∈ wsL_law := u_r47 _ (List.mem_of_getElem? (i := 2) rfl)
theorem us_X10_putsNumber : Cond.selects RX10 yX10_putsNumber yX10_putsNumber ∈ wsL_law := u_r47 _ (List.mem_of_getElem? (i := 3) rfl)
theorem uc_X10_putsNumber : Cond.code yX10_putsNumber cX10_putsNumber 3 none ∈ wsL_law := u_r47 _ (List.mem_of_getElem? (i := 4) rfl)
theorem um_X10_272 : Cond.methodLink RX10 272 yX10_puts ∈ wsL_law := u_r47 _ (List.mem_of_getElem? (i := 5) rfl)
theorem ui_X10_puts : Cond.instanceMethod yX10_puts ∈ wsL_law := u_r47 _ (List.mem_of_getElem? (i := 6) rfl)
theorem us_X10_puts : Cond.selects RX10 yX10_puts yX10_puts ∈ wsL_law := u_r47 _ (List.mem_of_getElem? (i := 7) rfl)
theorem uc_X10_puts : Cond.code yX10_puts cX10_puts 2 none ∈ wsL_law := u_r47 _ (List.mem_of_getElem? (i := 8) rfl)
theorem um_X10_279 : Cond.methodLink RX10 279 yX10_putsWith ∈ wsL_law := u_r47 _ (List.mem_of_getElem? (i := 9) rfl)
theorem ui_X10_putsWith : Cond.instanceMethod yX10_putsWith ∈ wsL_law := u_r47 _ (List.mem_of_getElem? (i := 10) rfl)
theorem us_X10_putsWith : Cond.selects RX10 yX10_putsWith yX10_putsWith ∈ wsL_law := u_r47 _ (List.mem_of_getElem? (i := 11) rfl)
theorem uc_X10_putsWith : Cond.code yX10_putsWith cX10_putsWith 3 none ∈ wsL_law := u_r47 _ (List.mem_of_getElem? (i := 12) rfl)
theorem um_L_157 : Cond.methodLink RL 157 yX9_listByte ∈ wsL_law := u_r47 _ (List.mem_of_getElem? (i := 13) rfl)
theorem ui_X9_listByte : Cond.instanceMethod yX9_listByte ∈ wsL_law := u_r47 _ (List.mem_of_getElem? (i := 14) rfl)
theorem us_X9_listByte : Cond.selects RX9 yX9_listByte yX9_listByte ∈ wsL_law := u_r47 _ (List.mem_of_getElem? (i := 15) rfl)
theorem uc_X9_listByte : Cond.code yX9_listByte cX9_listByte 2 (some .int) ∈ wsL_law := u_r47 _ (List.mem_of_getElem? (i := 16) rfl)
theorem um_X9_285 : Cond.methodLink RX9 285 yX7_byteAt ∈ wsL_law := u_r47 _ (List.mem_of_getElem? (i := 17) rfl)
theorem um_L_160 : Cond.methodLink RL 160 yX10_listByte ∈ wsL_law := u_r47 _ (List.mem_of_getElem? (i := 18) rfl)
theorem ui_X10_listByte : Cond.instanceMethod yX10_listByte ∈ wsL_law := u_r47 _ (List.mem_of_getElem? (i := 19) rfl)
theorem us_X10_listByte : Cond.selects RX10 yX10_listByte yX10_listByte ∈ wsL_law := u_r47 _ (List.mem_of_getElem? (i := 20) rfl)
theorem uc_X10_listByte : Cond.code yX10_listByte cX10_listByte 2 (some .int) ∈ wsL_law := u_r47 _ (List.mem_of_getElem? (i := 21) rfl)
theorem um_X10_286 : Cond.methodLink RX10 286 yX10_writtenAt ∈ wsL_law := u_r47 _ (List.mem_of_getElem? (i := 22) rfl)
theorem ui_X10_writtenAt : Cond.instanceMethod yX10_writtenAt ∈ wsL_law := u_r47 _ (List.mem_of_getElem? (i := 23) rfl)
theorem us_X10_writtenAt : Cond.selects RX10 yX10_writtenAt yX10_writtenAt ∈ wsL_law := u_r48 _ (List.mem_of_getElem? (i := 0) rfl)
theorem uc_X10_writtenAt : Cond.code yX10_writtenAt cX10_writtenAt 2 (some .int) ∈ wsL_law := u_r48 _ (List.mem_of_getElem? (i := 1) rfl)
theorem um_L_161 : Cond.methodLink RL 161 yX9_setupLength ∈ wsL_law := u_r48 _ (List.mem_of_getElem? (i := 2) rfl)
theorem ui_X9_setupLength : Cond.instanceMethod yX9_setupLength ∈ wsL_law := u_r48 _ (List.mem_of_getElem? (i := 3) rfl)
theorem us_X9_setupLength : Cond.selects RX9 yX9_setupLength yX9_setupLength ∈ wsL_law := u_r48 _ (List.mem_of_getElem? (i := 4) rfl)
theorem uc_X9_setupLength : Cond.code yX9_setupLength cX9_setupLength 1 (some .int) ∈ wsL_law := u_r48 _ (List.mem_of_getElem? (i := 5) rfl)
theorem um_X9_288 : Cond.methodLink RX9 288 yX9_writeSetup ∈ wsL_law := u_r48 _ (List.mem_of_getElem? (i := 6) rfl)
theorem ui_X9_writeSetup : Cond.instanceMethod yX9_writeSetup ∈ wsL_law := u_r48 _ (List.mem_of_getElem? (i := 7) rfl)
theorem us_X9_writeSetup : Cond.selects RX9 yX9_writeSetup yX9_writeSetup ∈ wsL_law := u_r48 _ (List.mem_of_getElem? (i := 8) rfl)
theorem uc_X9_writeSetup : Cond.code yX9_writeSetup cX9_writeSetup 2 none ∈ wsL_law := u_r48 _ (List.mem_of_getElem? (i := 9) rfl)
theorem um_X9_317 : Cond.methodLink RX9 317 yX7_addWord ∈ wsL_law := u_r48 _ (List.mem_of_getElem? (i := 10) rfl)
theorem ui_X7_addWord : Cond.instanceMethod yX7_addWord ∈ wsL_law := u_r48 _ (List.mem_of_getElem? (i := 11) rfl)
theorem us_X7_addWord : Cond.selects RX7 yX7_addWord yX7_addWord ∈ wsL_law := u_r48 _ (List.mem_of_getElem? (i := 12) rfl)
theorem uc_X7_addWord : Cond.code yX7_addWord cX7_addWord 3 none ∈ wsL_law := u_r48 _ (List.mem_of_getElem? (i := 13) rfl)
theorem um_X9_325 : Cond.methodLink RX9 325 yX9_writeSetupOffice ∈ wsL_law := u_r48 _ (List.mem_of_getElem? (i := 14) rfl)
theorem ui_X9_writeSetupOffice : Cond.instanceMethod yX9_writeSetupOffice ∈ wsL_law := u_r48 _ (List.mem_of_getElem? (i := 15) rfl)
theorem us_X9_writeSetupOffice : Cond.selects RX9 yX9_writeSetupOffice yX9_writeSetupOffice ∈ wsL_law := u_r48 _ (List.mem_of_getElem? (i := 16) rfl)
theorem uc_X9_writeSetupOffice : Cond.code yX9_writeSetupOffice cX9_writeSetupOffice 2 none ∈ wsL_law := u_r48 _ (List.mem_of_getElem? (i := 17) rfl)
theorem um_X9_328 : Cond.methodLink RX9 328 yX9_writeSetupLetters ∈ wsL_law := u_r48 _ (List.mem_of_getElem? (i := 18) rfl)
theorem ui_X9_writeSetupLetters : Cond.instanceMethod yX9_writeSetupLetters ∈ wsL_law := u_r48 _ (List.mem_of_getElem? (i := 19) rfl)
theorem us_X9_writeSetupLetters : Cond.selects RX9 yX9_writeSetupLetters yX9_writeSetupLetters ∈ wsL_law := u_r48 _ (List.mem_of_getElem? (i := 20) rfl)
theorem uc_X9_writeSetupLetters : Cond.code yX9_writeSetupLetters cX9_writeSetupLetters 3 none ∈ wsL_law := u_r48 _ (List.mem_of_getElem? (i := 21) rfl)
theorem um_X9_331 : Cond.methodLink RX9 331 yX8_firstStanding ∈ wsL_law := u_r48 _ (List.mem_of_getElem? (i := 22) rfl)
theorem ui_X8_firstStanding : Cond.instanceMethod yX8_firstStanding ∈ wsL_law := u_r48 _ (List.mem_of_getElem? (i := 23) rfl)
theorem us_X8_firstStanding : Cond.selects RX8 yX8_firstStanding yX8_firstStanding ∈ wsL_law := u_r49 _ (List.mem_of_getElem? (i := 0) rfl)
theorem uc_X8_firstStanding : Cond.code yX8_firstStanding cX8_firstStanding 2 (some .int) ∈ wsL_law := u_r49 _ (List.mem_of_getElem? (i := 1) rfl)
theorem um_L_164 : Cond.methodLink RL 164 yX10_setupLength ∈ wsL_law := u_r49 _ (List.mem_of_getElem? (i := 2) rfl)
theorem ui_X10_setupLength : Cond.instanceMethod yX10_setupLength ∈ wsL_law := u_r49 _ (List.mem_of_getElem? (i := 3) rfl)
theorem us_X10_setupLength : Cond.selects RX10 yX10_setupLength yX10_setupLength ∈ wsL_law := u_r49 _ (List.mem_of_getElem? (i := 4) rfl)
theorem uc_X10_setupLength : Cond.code yX10_setupLength cX10_setupLength 1 (some .int) ∈ wsL_law := u_r49 _ (List.mem_of_getElem? (i := 5) rfl)
theorem um_X10_298 : Cond.methodLink RX10 298 yX10_laySetup ∈ wsL_law := u_r49 _ (List.mem_of_getElem? (i := 6) rfl)
theorem ui_X10_laySetup : Cond.instanceMethod yX10_laySetup ∈ wsL_law := u_r49 _ (List.mem_of_getElem? (i := 7) rfl)
theorem us_X10_laySetup : Cond.selects RX10 yX10_laySetup yX10_laySetup ∈ wsL_law := u_r49 _ (List.mem_of_getElem? (i := 8) rfl)
theorem uc_X10_laySetup : Cond.code yX10_laySetup cX10_laySetup 2 none ∈ wsL_law := u_r49 _ (List.mem_of_getElem? (i := 9) rfl)
theorem um_X10_292 : Cond.methodLink RX10 292 yX10_putsRule ∈ wsL_law := u_r49 _ (List.mem_of_getElem? (i := 10) rfl)
theorem ui_X10_putsRule : Cond.instanceMethod yX10_putsRule ∈ wsL_law := u_r49 _ (List.mem_of_getElem? (i := 11) rfl)
theorem us_X10_putsRule : Cond.selects RX10 yX10_putsRule yX10_putsRule ∈ wsL_law := u_r49 _ (List.mem_of_getElem? (i := 12) rfl)
theorem uc_X10_putsRule : Cond.code yX10_putsRule cX10_putsRule 3 none ∈ wsL_law := u_r49 _ (List.mem_of_getElem? (i := 13) rfl)
theorem um_X10_289 : Cond.methodLink RX10 289 yX10_putsWord ∈ wsL_law := u_r49 _ (List.mem_of_getElem? (i := 14) rfl)
theorem ui_X10_putsWord : Cond.instanceMethod yX10_putsWord ∈ wsL_law := u_r49 _ (List.mem_of_getElem? (i := 15) rfl)
theorem us_X10_putsWord : Cond.selects RX10 yX10_putsWord yX10_putsWord ∈ wsL_law := u_r49 _ (List.mem_of_getElem? (i := 16) rfl)
theorem uc_X10_putsWord : Cond.code yX10_putsWord cX10_putsWord 3 none ∈ wsL_law := u_r49 _ (List.mem_of_getElem? (i := 17) rfl)
theorem um_X10_295 : Cond.methodLink RX10 295 yX10_layLetters ∈ wsL_law := u_r49 _ (List.mem_of_getElem? (i := 18) rfl)
theorem ui_X10_layLetters : Cond.instanceMethod yX10_layLetters ∈ wsL_law := u_r49 _ (List.mem_of_getElem? (i := 19) rfl)
theorem us_X10_layLetters : Cond.selects RX10 yX10_layLetters yX10_layLetters ∈ wsL_law := u_r49 _ (List.mem_of_getElem? (i := 20) rfl)
theorem uc_X10_layLetters : Cond.code yX10_layLetters cX10_layLetters 3 none ∈ wsL_law := u_r49 _ (List.mem_of_getElem? (i := 21) rfl)
theorem um_L_165 : Cond.methodLink RL 165 yX9_setupByte ∈ wsL_law := u_r49 _ (List.mem_of_getElem? (i := 22) rfl)
theorem ui_X9_setupByte : Cond.instanceMethod yX9_setupByte ∈ wsL_law := u_r49 _ (List.mem_of_getElem? (i := 23) rfl)
theorem us_X9_setupByte : Cond.selects RX9 yX9_setupByte yX9_setupByte ∈ wsL_law := u_r50 _ (List.mem_of_getElem? (i := 0) rfl)
theorem uc_X9_setupByte : Cond.code yX9_setupByte cX9_setupByte 2 (some .int) ∈ wsL_law := u_r50 _ (List.mem_of_getElem? (i := 1) rfl)
theorem um_L_168 : Cond.methodLink RL 168 yX10_setupByte ∈ wsL_law := u_r50 _ (List.mem_of_getElem? (i := 2) rfl)
theorem ui_X10_setupByte : Cond.instanceMethod yX10_setupByte ∈ wsL_law := u_r50 _ (List.mem_of_getElem? (i := 3) rfl)
theorem us_X10_setupByte : Cond.selects RX10 yX10_setupByte yX10_setupByte ∈ wsL_law := u_r50 _ (List.mem_of_getElem? (i := 4) rfl)
theorem uc_X10_setupByte : Cond.code yX10_setupByte cX10_setupByte 2 (some .int) ∈ wsL_law := u_r50 _ (List.mem_of_getElem? (i := 5) rfl)
theorem u_good : wsL_law.all goodWord = true := by decide +kernel
