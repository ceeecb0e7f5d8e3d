section
-- ===== PART A: goes FIRST, ahead of the names: the tables' words, and 'selects' of the private methods out of them =====
/-- a private method of a class that the tables say can be made, by its rows of tables_1 -/
def lw_okq (q : MethodName × Nat) : Prop := (q.1.cls ≠ "java/lang/invoke/MethodHandle" ∧ q.1.cls ≠ "java/lang/invoke/VarHandle") ∧ Cond.instantiable q.1.cls q.2 ∈ tables_1 ∧ Cond.privateMethod q.1 ∈ tables_1 ∧ Cond.instanceMethod q.1 ∈ tables_1
theorem lw_p0 : lw_okq (⟨"OtherSidesPump$Reader", "step", "()V"⟩, 7) := ⟨⟨by decide +kernel, by decide +kernel⟩, List.mem_of_getElem? (i := 72) (by decide +kernel), List.mem_of_getElem? (i := 280) (by decide +kernel), List.mem_of_getElem? (i := 281) (by decide +kernel)⟩
theorem lw_p1 : lw_okq (⟨"OtherSidesPump$Reader", "isLetter", "(I)Z"⟩, 7) := ⟨⟨by decide +kernel, by decide +kernel⟩, List.mem_of_getElem? (i := 72) (by decide +kernel), List.mem_of_getElem? (i := 284) (by decide +kernel), List.mem_of_getElem? (i := 285) (by decide +kernel)⟩
theorem lw_p2 : lw_okq (⟨"OtherSidesPump$Reader", "stepWord", "()V"⟩, 7) := ⟨⟨by decide +kernel, by decide +kernel⟩, List.mem_of_getElem? (i := 72) (by decide +kernel), List.mem_of_getElem? (i := 288) (by decide +kernel), List.mem_of_getElem? (i := 289) (by decide +kernel)⟩
theorem lw_p3 : lw_okq (⟨"OtherSidesPump$Reader", "isSpelled", "(II)Z"⟩, 7) := ⟨⟨by decide +kernel, by decide +kernel⟩, List.mem_of_getElem? (i := 72) (by decide +kernel), List.mem_of_getElem? (i := 293) (by decide +kernel), List.mem_of_getElem? (i := 294) (by decide +kernel)⟩
theorem lw_p4 : lw_okq (⟨"OtherSidesPump$Reader", "isDigit", "(I)Z"⟩, 7) := ⟨⟨by decide +kernel, by decide +kernel⟩, List.mem_of_getElem? (i := 72) (by decide +kernel), List.mem_of_getElem? (i := 297) (by decide +kernel), List.mem_of_getElem? (i := 298) (by decide +kernel)⟩
theorem lw_p5 : lw_okq (⟨"OtherSidesPump$Reader", "stepNumeral", "()V"⟩, 7) := ⟨⟨by decide +kernel, by decide +kernel⟩, List.mem_of_getElem? (i := 72) (by decide +kernel), List.mem_of_getElem? (i := 301) (by decide +kernel), List.mem_of_getElem? (i := 302) (by decide +kernel)⟩
theorem lw_p6 : lw_okq (⟨"OtherSidesPump$Reader", "readPart", "(I)Z"⟩, 7) := ⟨⟨by decide +kernel, by decide +kernel⟩, List.mem_of_getElem? (i := 72) (by decide +kernel), List.mem_of_getElem? (i := 365) (by decide +kernel), List.mem_of_getElem? (i := 366) (by decide +kernel)⟩
theorem lw_p7 : lw_okq (⟨"OtherSidesPump$Reader", "readOr", "(I)Z"⟩, 7) := ⟨⟨by decide +kernel, by decide +kernel⟩, List.mem_of_getElem? (i := 72) (by decide +kernel), List.mem_of_getElem? (i := 377) (by decide +kernel), List.mem_of_getElem? (i := 378) (by decide +kernel)⟩
theorem lw_p8 : lw_okq (⟨"OtherSidesPump$Reader", "readAnd", "(I)Z"⟩, 7) := ⟨⟨by decide +kernel, by decide +kernel⟩, List.mem_of_getElem? (i := 72) (by decide +kernel), List.mem_of_getElem? (i := 381) (by decide +kernel), List.mem_of_getElem? (i := 382) (by decide +kernel)⟩
theorem lw_p9 : lw_okq (⟨"OtherSidesPump$Reader", "readNot", "(I)Z"⟩, 7) := ⟨⟨by decide +kernel, by decide +kernel⟩, List.mem_of_getElem? (i := 72) (by decide +kernel), List.mem_of_getElem? (i := 385) (by decide +kernel), List.mem_of_getElem? (i := 386) (by decide +kernel)⟩
theorem lw_p10 : lw_okq (⟨"OtherSidesPump$Reader", "readComparison", "(I)Z"⟩, 7) := ⟨⟨by decide +kernel, by decide +kernel⟩, List.mem_of_getElem? (i := 72) (by decide +kernel), List.mem_of_getElem? (i := 389) (by decide +kernel), List.mem_of_getElem? (i := 390) (by decide +kernel)⟩
theorem lw_p11 : lw_okq (⟨"OtherSidesPump$Reader", "readSum", "(I)Z"⟩, 7) := ⟨⟨by decide +kernel, by decide +kernel⟩, List.mem_of_getElem? (i := 72) (by decide +kernel), List.mem_of_getElem? (i := 393) (by decide +kernel), List.mem_of_getElem? (i := 394) (by decide +kernel)⟩
theorem lw_p12 : lw_okq (⟨"OtherSidesPump$Reader", "readTerm", "(I)Z"⟩, 7) := ⟨⟨by decide +kernel, by decide +kernel⟩, List.mem_of_getElem? (i := 72) (by decide +kernel), List.mem_of_getElem? (i := 397) (by decide +kernel), List.mem_of_getElem? (i := 398) (by decide +kernel)⟩
theorem lw_p13 : lw_okq (⟨"OtherSidesPump$Reader", "readOne", "(I)Z"⟩, 7) := ⟨⟨by decide +kernel, by decide +kernel⟩, List.mem_of_getElem? (i := 72) (by decide +kernel), List.mem_of_getElem? (i := 401) (by decide +kernel), List.mem_of_getElem? (i := 402) (by decide +kernel)⟩
theorem lw_p14 : lw_okq (⟨"OtherSidesPump$Reader", "readNegated", "(I)Z"⟩, 7) := ⟨⟨by decide +kernel, by decide +kernel⟩, List.mem_of_getElem? (i := 72) (by decide +kernel), List.mem_of_getElem? (i := 409) (by decide +kernel), List.mem_of_getElem? (i := 410) (by decide +kernel)⟩
theorem lw_p15 : lw_okq (⟨"OtherSidesPump$Reader", "readEnclosed", "(I)Z"⟩, 7) := ⟨⟨by decide +kernel, by decide +kernel⟩, List.mem_of_getElem? (i := 72) (by decide +kernel), List.mem_of_getElem? (i := 413) (by decide +kernel), List.mem_of_getElem? (i := 414) (by decide +kernel)⟩
def lw_privs_1 : List (MethodName × Nat) := [(⟨"OtherSidesPump$Reader", "step", "()V"⟩, 7), (⟨"OtherSidesPump$Reader", "isLetter", "(I)Z"⟩, 7), (⟨"OtherSidesPump$Reader", "stepWord", "()V"⟩, 7), (⟨"OtherSidesPump$Reader", "isSpelled", "(II)Z"⟩, 7), (⟨"OtherSidesPump$Reader", "isDigit", "(I)Z"⟩, 7), (⟨"OtherSidesPump$Reader", "stepNumeral", "()V"⟩, 7), (⟨"OtherSidesPump$Reader", "readPart", "(I)Z"⟩, 7), (⟨"OtherSidesPump$Reader", "readOr", "(I)Z"⟩, 7), (⟨"OtherSidesPump$Reader", "readAnd", "(I)Z"⟩, 7), (⟨"OtherSidesPump$Reader", "readNot", "(I)Z"⟩, 7), (⟨"OtherSidesPump$Reader", "readComparison", "(I)Z"⟩, 7), (⟨"OtherSidesPump$Reader", "readSum", "(I)Z"⟩, 7), (⟨"OtherSidesPump$Reader", "readTerm", "(I)Z"⟩, 7), (⟨"OtherSidesPump$Reader", "readOne", "(I)Z"⟩, 7), (⟨"OtherSidesPump$Reader", "readNegated", "(I)Z"⟩, 7), (⟨"OtherSidesPump$Reader", "readEnclosed", "(I)Z"⟩, 7)]
theorem lw_r1 : ∀ q ∈ lw_privs_1, lw_okq q := List.forall_mem_cons.mpr ⟨lw_p0, List.forall_mem_cons.mpr ⟨lw_p1, List.forall_mem_cons.mpr ⟨lw_p2, List.forall_mem_cons.mpr ⟨lw_p3, List.forall_mem_cons.mpr ⟨lw_p4, List.forall_mem_cons.mpr ⟨lw_p5, List.forall_mem_cons.mpr ⟨lw_p6, List.forall_mem_cons.mpr ⟨lw_p7, List.forall_mem_cons.mpr ⟨lw_p8, List.forall_mem_cons.mpr ⟨lw_p9, List.forall_mem_cons.mpr ⟨lw_p10, List.forall_mem_cons.mpr ⟨lw_p11, List.forall_mem_cons.mpr ⟨lw_p12, List.forall_mem_cons.mpr ⟨lw_p13, List.forall_mem_cons.mpr ⟨lw_p14, List.forall_mem_cons.mpr ⟨lw_p15, fun _ h => absurd h List.not_mem_nil⟩⟩⟩⟩⟩⟩⟩⟩⟩⟩⟩⟩⟩⟩⟩⟩
theorem lw_p16 : lw_okq (⟨"OtherSidesPump$Yard", "clearLanes", "()V"⟩, 15) := ⟨⟨by decide +kernel, by decide +kernel⟩, List.mem_of_getElem? (i := 100) (by decide +kernel), List.mem_of_getElem? (i := 566) (by decide +kernel), List.mem_of_getElem? (i := 567) (by decide +kernel)⟩
theorem lw_p17 : lw_okq (⟨"OtherSidesPump$Yard", "join", "(II)V"⟩, 15) := ⟨⟨by decide +kernel, by decide +kernel⟩, List.mem_of_getElem? (i := 100) (by decide +kernel), List.mem_of_getElem? (i := 574) (by decide +kernel), List.mem_of_getElem? (i := 575) (by decide +kernel)⟩
theorem lw_p18 : lw_okq (⟨"OtherSidesPump$Yard", "lineUp", "(II)V"⟩, 15) := ⟨⟨by decide +kernel, by decide +kernel⟩, List.mem_of_getElem? (i := 100) (by decide +kernel), List.mem_of_getElem? (i := 586) (by decide +kernel), List.mem_of_getElem? (i := 587) (by decide +kernel)⟩
theorem lw_p19 : lw_okq (⟨"OtherSidesPump$Yard", "comesBefore", "(II)Z"⟩, 15) := ⟨⟨by decide +kernel, by decide +kernel⟩, List.mem_of_getElem? (i := 100) (by decide +kernel), List.mem_of_getElem? (i := 591) (by decide +kernel), List.mem_of_getElem? (i := 592) (by decide +kernel)⟩
theorem lw_p20 : lw_okq (⟨"OtherSidesPump$Yard", "leave", "(I)V"⟩, 15) := ⟨⟨by decide +kernel, by decide +kernel⟩, List.mem_of_getElem? (i := 100) (by decide +kernel), List.mem_of_getElem? (i := 595) (by decide +kernel), List.mem_of_getElem? (i := 596) (by decide +kernel)⟩
theorem lw_p21 : lw_okq (⟨"OtherSidesPump$Yard", "driveUp", "(II)V"⟩, 15) := ⟨⟨by decide +kernel, by decide +kernel⟩, List.mem_of_getElem? (i := 100) (by decide +kernel), List.mem_of_getElem? (i := 599) (by decide +kernel), List.mem_of_getElem? (i := 600) (by decide +kernel)⟩
theorem lw_p22 : lw_okq (⟨"OtherSidesPump$Yard", "badness", "(II)I"⟩, 15) := ⟨⟨by decide +kernel, by decide +kernel⟩, List.mem_of_getElem? (i := 100) (by decide +kernel), List.mem_of_getElem? (i := 606) (by decide +kernel), List.mem_of_getElem? (i := 607) (by decide +kernel)⟩
theorem lw_p23 : lw_okq (⟨"OtherSidesPump$Advice", "fillLaneBadness", "()V"⟩, 7) := ⟨⟨by decide +kernel, by decide +kernel⟩, List.mem_of_getElem? (i := 152) (by decide +kernel), List.mem_of_getElem? (i := 679) (by decide +kernel), List.mem_of_getElem? (i := 680) (by decide +kernel)⟩
theorem lw_p24 : lw_okq (⟨"OtherSidesPump$Advice", "badnessOfWay", "(I)I"⟩, 7) := ⟨⟨by decide +kernel, by decide +kernel⟩, List.mem_of_getElem? (i := 152) (by decide +kernel), List.mem_of_getElem? (i := 685) (by decide +kernel), List.mem_of_getElem? (i := 686) (by decide +kernel)⟩
theorem lw_p25 : lw_okq (⟨"OtherSidesPump$Advice", "laneInWay", "(II)I"⟩, 7) := ⟨⟨by decide +kernel, by decide +kernel⟩, List.mem_of_getElem? (i := 152) (by decide +kernel), List.mem_of_getElem? (i := 689) (by decide +kernel), List.mem_of_getElem? (i := 690) (by decide +kernel)⟩
theorem lw_p26 : lw_okq (⟨"OtherSidesPump$Advice", "digits", "(I)I"⟩, 7) := ⟨⟨by decide +kernel, by decide +kernel⟩, List.mem_of_getElem? (i := 152) (by decide +kernel), List.mem_of_getElem? (i := 693) (by decide +kernel), List.mem_of_getElem? (i := 694) (by decide +kernel)⟩
theorem lw_p27 : lw_okq (⟨"OtherSidesPump", "likely", "(LOtherSidesPump$Sheet;II)I"⟩, 7) := ⟨⟨by decide +kernel, by decide +kernel⟩, List.mem_of_getElem? (i := 19) (by decide +kernel), List.mem_of_getElem? (i := 747) (by decide +kernel), List.mem_of_getElem? (i := 748) (by decide +kernel)⟩
theorem lw_p28 : lw_okq (⟨"OtherSidesPump", "otherwiseNow", "(LOtherSidesPump$Sheet;)I"⟩, 7) := ⟨⟨by decide +kernel, by decide +kernel⟩, List.mem_of_getElem? (i := 19) (by decide +kernel), List.mem_of_getElem? (i := 761) (by decide +kernel), List.mem_of_getElem? (i := 762) (by decide +kernel)⟩
theorem lw_p29 : lw_okq (⟨"OtherSidesPump", "likelyTexts", "(LOtherSidesPump$Sheet;)I"⟩, 7) := ⟨⟨by decide +kernel, by decide +kernel⟩, List.mem_of_getElem? (i := 19) (by decide +kernel), List.mem_of_getElem? (i := 765) (by decide +kernel), List.mem_of_getElem? (i := 766) (by decide +kernel)⟩
theorem lw_p30 : lw_okq (⟨"OtherSidesPump$Sheet", "narrow", "(I)I"⟩, 3) := ⟨⟨by decide +kernel, by decide +kernel⟩, List.mem_of_getElem? (i := 199) (by decide +kernel), List.mem_of_getElem? (i := 787) (by decide +kernel), List.mem_of_getElem? (i := 788) (by decide +kernel)⟩
theorem lw_p31 : lw_okq (⟨"OtherSidesPumpModel", "spell", "(IIIIIIIII)V"⟩, 44) := ⟨⟨by decide +kernel, by decide +kernel⟩, List.mem_of_getElem? (i := 883) (by decide +kernel), List.mem_of_getElem? (i := 889) (by decide +kernel), List.mem_of_getElem? (i := 890) (by decide +kernel)⟩
def lw_privs_2 : List (MethodName × Nat) := [(⟨"OtherSidesPump$Yard", "clearLanes", "()V"⟩, 15), (⟨"OtherSidesPump$Yard", "join", "(II)V"⟩, 15), (⟨"OtherSidesPump$Yard", "lineUp", "(II)V"⟩, 15), (⟨"OtherSidesPump$Yard", "comesBefore", "(II)Z"⟩, 15), (⟨"OtherSidesPump$Yard", "leave", "(I)V"⟩, 15), (⟨"OtherSidesPump$Yard", "driveUp", "(II)V"⟩, 15), (⟨"OtherSidesPump$Yard", "badness", "(II)I"⟩, 15), (⟨"OtherSidesPump$Advice", "fillLaneBadness", "()V"⟩, 7), (⟨"OtherSidesPump$Advice", "badnessOfWay", "(I)I"⟩, 7), (⟨"OtherSidesPump$Advice", "laneInWay", "(II)I"⟩, 7), (⟨"OtherSidesPump$Advice", "digits", "(I)I"⟩, 7), (⟨"OtherSidesPump", "likely", "(LOtherSidesPump$Sheet;II)I"⟩, 7), (⟨"OtherSidesPump", "otherwiseNow", "(LOtherSidesPump$Sheet;)I"⟩, 7), (⟨"OtherSidesPump", "likelyTexts", "(LOtherSidesPump$Sheet;)I"⟩, 7), (⟨"OtherSidesPump$Sheet", "narrow", "(I)I"⟩, 3), (⟨"OtherSidesPumpModel", "spell", "(IIIIIIIII)V"⟩, 44)]
theorem lw_r2 : ∀ q ∈ lw_privs_2, lw_okq q := List.forall_mem_cons.mpr ⟨lw_p16, List.forall_mem_cons.mpr ⟨lw_p17, List.forall_mem_cons.mpr ⟨lw_p18, List.forall_mem_cons.mpr ⟨lw_p19, List.forall_mem_cons.mpr ⟨lw_p20, List.forall_mem_cons.mpr ⟨lw_p21, List.forall_mem_cons.mpr ⟨lw_p22, List.forall_mem_cons.mpr ⟨lw_p23, List.forall_mem_cons.mpr ⟨lw_p24, List.forall_mem_cons.mpr ⟨lw_p25, List.forall_mem_cons.mpr ⟨lw_p26, List.forall_mem_cons.mpr ⟨lw_p27, List.forall_mem_cons.mpr ⟨lw_p28, List.forall_mem_cons.mpr ⟨lw_p29, List.forall_mem_cons.mpr ⟨lw_p30, List.forall_mem_cons.mpr ⟨lw_p31, fun _ h => absurd h List.not_mem_nil⟩⟩⟩⟩⟩⟩⟩⟩⟩⟩⟩⟩⟩⟩⟩⟩
theorem lw_p32 : lw_okq (⟨"OtherSidesPumpModel", "isCar", "(I)Z"⟩, 44) := ⟨⟨by decide +kernel, by decide +kernel⟩, List.mem_of_getElem? (i := 883) (by decide +kernel), List.mem_of_getElem? (i := 1034) (by decide +kernel), List.mem_of_getElem? (i := 1035) (by decide +kernel)⟩
theorem lw_p33 : lw_okq (⟨"OtherSidesPumpModel", "fits", "(II)Z"⟩, 44) := ⟨⟨by decide +kernel, by decide +kernel⟩, List.mem_of_getElem? (i := 883) (by decide +kernel), List.mem_of_getElem? (i := 1053) (by decide +kernel), List.mem_of_getElem? (i := 1054) (by decide +kernel)⟩
theorem lw_p34 : lw_okq (⟨"OtherSidesPumpModel", "isLong", "(I)Z"⟩, 44) := ⟨⟨by decide +kernel, by decide +kernel⟩, List.mem_of_getElem? (i := 883) (by decide +kernel), List.mem_of_getElem? (i := 1057) (by decide +kernel), List.mem_of_getElem? (i := 1058) (by decide +kernel)⟩
theorem lw_p35 : lw_okq (⟨"OtherSidesPumpModel", "draws", "(IIII)Z"⟩, 44) := ⟨⟨by decide +kernel, by decide +kernel⟩, List.mem_of_getElem? (i := 883) (by decide +kernel), List.mem_of_getElem? (i := 1061) (by decide +kernel), List.mem_of_getElem? (i := 1062) (by decide +kernel)⟩
theorem lw_p36 : lw_okq (⟨"OtherSidesPumpModel", "asks", "(IIIII)I"⟩, 44) := ⟨⟨by decide +kernel, by decide +kernel⟩, List.mem_of_getElem? (i := 883) (by decide +kernel), List.mem_of_getElem? (i := 1065) (by decide +kernel), List.mem_of_getElem? (i := 1066) (by decide +kernel)⟩
theorem lw_p37 : lw_okq (⟨"OtherSidesPumpModel", "read", "(II)I"⟩, 44) := ⟨⟨by decide +kernel, by decide +kernel⟩, List.mem_of_getElem? (i := 883) (by decide +kernel), List.mem_of_getElem? (i := 1069) (by decide +kernel), List.mem_of_getElem? (i := 1070) (by decide +kernel)⟩
theorem lw_p38 : lw_okq (⟨"OtherSidesPumpModel", "next", "()V"⟩, 44) := ⟨⟨by decide +kernel, by decide +kernel⟩, List.mem_of_getElem? (i := 883) (by decide +kernel), List.mem_of_getElem? (i := 1073) (by decide +kernel), List.mem_of_getElem? (i := 1074) (by decide +kernel)⟩
theorem lw_p39 : lw_okq (⟨"OtherSidesPumpModel", "byteAt", "(I)I"⟩, 44) := ⟨⟨by decide +kernel, by decide +kernel⟩, List.mem_of_getElem? (i := 883) (by decide +kernel), List.mem_of_getElem? (i := 1077) (by decide +kernel), List.mem_of_getElem? (i := 1078) (by decide +kernel)⟩
theorem lw_p40 : lw_okq (⟨"OtherSidesPumpModel", "isWord", "(IIIIIIII)Z"⟩, 44) := ⟨⟨by decide +kernel, by decide +kernel⟩, List.mem_of_getElem? (i := 883) (by decide +kernel), List.mem_of_getElem? (i := 1085) (by decide +kernel), List.mem_of_getElem? (i := 1086) (by decide +kernel)⟩
theorem lw_p41 : lw_okq (⟨"OtherSidesPumpModel", "isLetter", "(II)Z"⟩, 44) := ⟨⟨by decide +kernel, by decide +kernel⟩, List.mem_of_getElem? (i := 883) (by decide +kernel), List.mem_of_getElem? (i := 1089) (by decide +kernel), List.mem_of_getElem? (i := 1090) (by decide +kernel)⟩
theorem lw_p42 : lw_okq (⟨"OtherSidesPumpModel", "part", "(Z)I"⟩, 44) := ⟨⟨by decide +kernel, by decide +kernel⟩, List.mem_of_getElem? (i := 883) (by decide +kernel), List.mem_of_getElem? (i := 1093) (by decide +kernel), List.mem_of_getElem? (i := 1094) (by decide +kernel)⟩
theorem lw_p43 : lw_okq (⟨"OtherSidesPumpModel", "fail", "()V"⟩, 44) := ⟨⟨by decide +kernel, by decide +kernel⟩, List.mem_of_getElem? (i := 883) (by decide +kernel), List.mem_of_getElem? (i := 1097) (by decide +kernel), List.mem_of_getElem? (i := 1098) (by decide +kernel)⟩
theorem lw_p44 : lw_okq (⟨"OtherSidesPumpModel", "either", "()I"⟩, 44) := ⟨⟨by decide +kernel, by decide +kernel⟩, List.mem_of_getElem? (i := 883) (by decide +kernel), List.mem_of_getElem? (i := 1101) (by decide +kernel), List.mem_of_getElem? (i := 1102) (by decide +kernel)⟩
theorem lw_p45 : lw_okq (⟨"OtherSidesPumpModel", "both", "()I"⟩, 44) := ⟨⟨by decide +kernel, by decide +kernel⟩, List.mem_of_getElem? (i := 883) (by decide +kernel), List.mem_of_getElem? (i := 1105) (by decide +kernel), List.mem_of_getElem? (i := 1106) (by decide +kernel)⟩
theorem lw_p46 : lw_okq (⟨"OtherSidesPumpModel", "not", "()I"⟩, 44) := ⟨⟨by decide +kernel, by decide +kernel⟩, List.mem_of_getElem? (i := 883) (by decide +kernel), List.mem_of_getElem? (i := 1109) (by decide +kernel), List.mem_of_getElem? (i := 1110) (by decide +kernel)⟩
theorem lw_p47 : lw_okq (⟨"OtherSidesPumpModel", "opens", "()Z"⟩, 44) := ⟨⟨by decide +kernel, by decide +kernel⟩, List.mem_of_getElem? (i := 883) (by decide +kernel), List.mem_of_getElem? (i := 1113) (by decide +kernel), List.mem_of_getElem? (i := 1114) (by decide +kernel)⟩
def lw_privs_3 : List (MethodName × Nat) := [(⟨"OtherSidesPumpModel", "isCar", "(I)Z"⟩, 44), (⟨"OtherSidesPumpModel", "fits", "(II)Z"⟩, 44), (⟨"OtherSidesPumpModel", "isLong", "(I)Z"⟩, 44), (⟨"OtherSidesPumpModel", "draws", "(IIII)Z"⟩, 44), (⟨"OtherSidesPumpModel", "asks", "(IIIII)I"⟩, 44), (⟨"OtherSidesPumpModel", "read", "(II)I"⟩, 44), (⟨"OtherSidesPumpModel", "next", "()V"⟩, 44), (⟨"OtherSidesPumpModel", "byteAt", "(I)I"⟩, 44), (⟨"OtherSidesPumpModel", "isWord", "(IIIIIIII)Z"⟩, 44), (⟨"OtherSidesPumpModel", "isLetter", "(II)Z"⟩, 44), (⟨"OtherSidesPumpModel", "part", "(Z)I"⟩, 44), (⟨"OtherSidesPumpModel", "fail", "()V"⟩, 44), (⟨"OtherSidesPumpModel", "either", "()I"⟩, 44), (⟨"OtherSidesPumpModel", "both", "()I"⟩, 44), (⟨"OtherSidesPumpModel", "not", "()I"⟩, 44), (⟨"OtherSidesPumpModel", "opens", "()Z"⟩, 44)]
theorem lw_r3 : ∀ q ∈ lw_privs_3, lw_okq q := List.forall_mem_cons.mpr ⟨lw_p32, List.forall_mem_cons.mpr ⟨lw_p33, List.forall_mem_cons.mpr ⟨lw_p34, List.forall_mem_cons.mpr ⟨lw_p35, List.forall_mem_cons.mpr ⟨lw_p36, List.forall_mem_cons.mpr ⟨lw_p37, List.forall_mem_cons.mpr ⟨lw_p38, List.forall_mem_cons.mpr ⟨lw_p39, List.forall_mem_cons.mpr ⟨lw_p40, List.forall_mem_cons.mpr ⟨lw_p41, List.forall_mem_cons.mpr ⟨lw_p42, List.forall_mem_cons.mpr ⟨lw_p43, List.forall_mem_cons.mpr ⟨lw_p44, List.forall_mem_cons.mpr ⟨lw_p45, List.forall_mem_cons.mpr ⟨lw_p46, List.forall_mem_cons.mpr ⟨lw_p47, fun _ h => absurd h List.not_mem_nil⟩⟩⟩⟩⟩⟩⟩⟩⟩⟩⟩⟩⟩⟩⟩⟩
theorem lw_p48 : lw_okq (⟨"OtherSidesPumpModel", "added", "()I"⟩, 44) := ⟨⟨by decide +kernel, by decide +kernel⟩, List.mem_of_getElem? (i := 883) (by decide +kernel), List.mem_of_getElem? (i := 1117) (by decide +kernel), List.mem_of_getElem? (i := 1118) (by decide +kernel)⟩
theorem lw_p49 : lw_okq (⟨"OtherSidesPumpModel", "term", "()I"⟩, 44) := ⟨⟨by decide +kernel, by decide +kernel⟩, List.mem_of_getElem? (i := 883) (by decide +kernel), List.mem_of_getElem? (i := 1121) (by decide +kernel), List.mem_of_getElem? (i := 1122) (by decide +kernel)⟩
theorem lw_p50 : lw_okq (⟨"OtherSidesPumpModel", "atom", "()I"⟩, 44) := ⟨⟨by decide +kernel, by decide +kernel⟩, List.mem_of_getElem? (i := 883) (by decide +kernel), List.mem_of_getElem? (i := 1125) (by decide +kernel), List.mem_of_getElem? (i := 1126) (by decide +kernel)⟩
theorem lw_p51 : lw_okq (⟨"OtherSidesPumpModel", "isSign", "(I)Z"⟩, 44) := ⟨⟨by decide +kernel, by decide +kernel⟩, List.mem_of_getElem? (i := 883) (by decide +kernel), List.mem_of_getElem? (i := 1129) (by decide +kernel), List.mem_of_getElem? (i := 1130) (by decide +kernel)⟩
theorem lw_p52 : lw_okq (⟨"OtherSidesPumpModel", "name", "()I"⟩, 44) := ⟨⟨by decide +kernel, by decide +kernel⟩, List.mem_of_getElem? (i := 883) (by decide +kernel), List.mem_of_getElem? (i := 1133) (by decide +kernel), List.mem_of_getElem? (i := 1134) (by decide +kernel)⟩
theorem lw_p53 : lw_okq (⟨"OtherSidesPumpModel", "takesOf", "(IIII)I"⟩, 44) := ⟨⟨by decide +kernel, by decide +kernel⟩, List.mem_of_getElem? (i := 883) (by decide +kernel), List.mem_of_getElem? (i := 1142) (by decide +kernel), List.mem_of_getElem? (i := 1143) (by decide +kernel)⟩
theorem lw_p54 : lw_okq (⟨"OtherSidesPumpModel", "goesAll", "()V"⟩, 44) := ⟨⟨by decide +kernel, by decide +kernel⟩, List.mem_of_getElem? (i := 883) (by decide +kernel), List.mem_of_getElem? (i := 1163) (by decide +kernel), List.mem_of_getElem? (i := 1164) (by decide +kernel)⟩
theorem lw_p55 : lw_okq (⟨"OtherSidesPumpModel", "setOf", "(I)I"⟩, 44) := ⟨⟨by decide +kernel, by decide +kernel⟩, List.mem_of_getElem? (i := 883) (by decide +kernel), List.mem_of_getElem? (i := 1167) (by decide +kernel), List.mem_of_getElem? (i := 1168) (by decide +kernel)⟩
theorem lw_p56 : lw_okq (⟨"OtherSidesPumpModel", "goes", "(II)V"⟩, 44) := ⟨⟨by decide +kernel, by decide +kernel⟩, List.mem_of_getElem? (i := 883) (by decide +kernel), List.mem_of_getElem? (i := 1171) (by decide +kernel), List.mem_of_getElem? (i := 1172) (by decide +kernel)⟩
theorem lw_p57 : lw_okq (⟨"OtherSidesPumpModel", "nextOf", "(III)I"⟩, 44) := ⟨⟨by decide +kernel, by decide +kernel⟩, List.mem_of_getElem? (i := 883) (by decide +kernel), List.mem_of_getElem? (i := 1175) (by decide +kernel), List.mem_of_getElem? (i := 1176) (by decide +kernel)⟩
theorem lw_p58 : lw_okq (⟨"OtherSidesPumpModel", "begins", "(IIIII)V"⟩, 44) := ⟨⟨by decide +kernel, by decide +kernel⟩, List.mem_of_getElem? (i := 883) (by decide +kernel), List.mem_of_getElem? (i := 1179) (by decide +kernel), List.mem_of_getElem? (i := 1180) (by decide +kernel)⟩
theorem lw_p59 : lw_okq (⟨"OtherSidesPumpModel", "waitedOf", "(I)I"⟩, 44) := ⟨⟨by decide +kernel, by decide +kernel⟩, List.mem_of_getElem? (i := 883) (by decide +kernel), List.mem_of_getElem? (i := 1183) (by decide +kernel), List.mem_of_getElem? (i := 1184) (by decide +kernel)⟩
theorem lw_p60 : lw_okq (⟨"OtherSidesPumpModel", "badness", "()I"⟩, 44) := ⟨⟨by decide +kernel, by decide +kernel⟩, List.mem_of_getElem? (i := 883) (by decide +kernel), List.mem_of_getElem? (i := 1196) (by decide +kernel), List.mem_of_getElem? (i := 1197) (by decide +kernel)⟩
theorem lw_p61 : lw_okq (⟨"OtherSidesPumpModel", "badOf", "(II)I"⟩, 44) := ⟨⟨by decide +kernel, by decide +kernel⟩, List.mem_of_getElem? (i := 883) (by decide +kernel), List.mem_of_getElem? (i := 1200) (by decide +kernel), List.mem_of_getElem? (i := 1201) (by decide +kernel)⟩
theorem lw_p62 : lw_okq (⟨"OtherSidesPumpModel", "lastOff", "()I"⟩, 44) := ⟨⟨by decide +kernel, by decide +kernel⟩, List.mem_of_getElem? (i := 883) (by decide +kernel), List.mem_of_getElem? (i := 1204) (by decide +kernel), List.mem_of_getElem? (i := 1205) (by decide +kernel)⟩
theorem lw_p63 : lw_okq (⟨"OtherSidesPumpModel", "isAhead", "(II)Z"⟩, 44) := ⟨⟨by decide +kernel, by decide +kernel⟩, List.mem_of_getElem? (i := 883) (by decide +kernel), List.mem_of_getElem? (i := 1208) (by decide +kernel), List.mem_of_getElem? (i := 1209) (by decide +kernel)⟩
def lw_privs_4 : List (MethodName × Nat) := [(⟨"OtherSidesPumpModel", "added", "()I"⟩, 44), (⟨"OtherSidesPumpModel", "term", "()I"⟩, 44), (⟨"OtherSidesPumpModel", "atom", "()I"⟩, 44), (⟨"OtherSidesPumpModel", "isSign", "(I)Z"⟩, 44), (⟨"OtherSidesPumpModel", "name", "()I"⟩, 44), (⟨"OtherSidesPumpModel", "takesOf", "(IIII)I"⟩, 44), (⟨"OtherSidesPumpModel", "goesAll", "()V"⟩, 44), (⟨"OtherSidesPumpModel", "setOf", "(I)I"⟩, 44), (⟨"OtherSidesPumpModel", "goes", "(II)V"⟩, 44), (⟨"OtherSidesPumpModel", "nextOf", "(III)I"⟩, 44), (⟨"OtherSidesPumpModel", "begins", "(IIIII)V"⟩, 44), (⟨"OtherSidesPumpModel", "waitedOf", "(I)I"⟩, 44), (⟨"OtherSidesPumpModel", "badness", "()I"⟩, 44), (⟨"OtherSidesPumpModel", "badOf", "(II)I"⟩, 44), (⟨"OtherSidesPumpModel", "lastOff", "()I"⟩, 44), (⟨"OtherSidesPumpModel", "isAhead", "(II)Z"⟩, 44)]
theorem lw_r4 : ∀ q ∈ lw_privs_4, lw_okq q := List.forall_mem_cons.mpr ⟨lw_p48, List.forall_mem_cons.mpr ⟨lw_p49, List.forall_mem_cons.mpr ⟨lw_p50, List.forall_mem_cons.mpr ⟨lw_p51, List.forall_mem_cons.mpr ⟨lw_p52, List.forall_mem_cons.mpr ⟨lw_p53, List.forall_mem_cons.mpr ⟨lw_p54, List.forall_mem_cons.mpr ⟨lw_p55, List.forall_mem_cons.mpr ⟨lw_p56, List.forall_mem_cons.mpr ⟨lw_p57, List.forall_mem_cons.mpr ⟨lw_p58, List.forall_mem_cons.mpr ⟨lw_p59, List.forall_mem_cons.mpr ⟨lw_p60, List.forall_mem_cons.mpr ⟨lw_p61, List.forall_mem_cons.mpr ⟨lw_p62, List.forall_mem_cons.mpr ⟨lw_p63, fun _ h => absurd h List.not_mem_nil⟩⟩⟩⟩⟩⟩⟩⟩⟩⟩⟩⟩⟩⟩⟩⟩
theorem lw_p64 : lw_okq (⟨"OtherSidesPumpModel", "seeks", "(II)V"⟩, 44) := ⟨⟨by decide +kernel, by decide +kernel⟩, List.mem_of_getElem? (i := 883) (by decide +kernel), List.mem_of_getElem? (i := 1220) (by decide +kernel), List.mem_of_getElem? (i := 1221) (by decide +kernel)⟩
theorem lw_p65 : lw_okq (⟨"OtherSidesPumpModel", "unlike", "(I)I"⟩, 44) := ⟨⟨by decide +kernel, by decide +kernel⟩, List.mem_of_getElem? (i := 883) (by decide +kernel), List.mem_of_getElem? (i := 1244) (by decide +kernel), List.mem_of_getElem? (i := 1245) (by decide +kernel)⟩
theorem lw_p66 : lw_okq (⟨"OtherSidesPumpModel", "lays", "(III)V"⟩, 44) := ⟨⟨by decide +kernel, by decide +kernel⟩, List.mem_of_getElem? (i := 883) (by decide +kernel), List.mem_of_getElem? (i := 1248) (by decide +kernel), List.mem_of_getElem? (i := 1249) (by decide +kernel)⟩
theorem lw_p67 : lw_okq (⟨"OtherSidesPumpModel", "drives", "(I)I"⟩, 44) := ⟨⟨by decide +kernel, by decide +kernel⟩, List.mem_of_getElem? (i := 883) (by decide +kernel), List.mem_of_getElem? (i := 1266) (by decide +kernel), List.mem_of_getElem? (i := 1267) (by decide +kernel)⟩
def lw_privs_5 : List (MethodName × Nat) := [(⟨"OtherSidesPumpModel", "seeks", "(II)V"⟩, 44), (⟨"OtherSidesPumpModel", "unlike", "(I)I"⟩, 44), (⟨"OtherSidesPumpModel", "lays", "(III)V"⟩, 44), (⟨"OtherSidesPumpModel", "drives", "(I)I"⟩, 44)]
theorem lw_r5 : ∀ q ∈ lw_privs_5, lw_okq q := List.forall_mem_cons.mpr ⟨lw_p64, List.forall_mem_cons.mpr ⟨lw_p65, List.forall_mem_cons.mpr ⟨lw_p66, List.forall_mem_cons.mpr ⟨lw_p67, fun _ h => absurd h List.not_mem_nil⟩⟩⟩⟩
def lw_privs : List (MethodName × Nat) := lw_privs_1 ++ (lw_privs_2 ++ (lw_privs_3 ++ (lw_privs_4 ++ (lw_privs_5))))
def lw_tbl : List Cond := k2_sels lw_privs ++ tables_1
theorem lw_privs_ok : ∀ q ∈ lw_privs, lw_okq q := by
  show ∀ q ∈ lw_privs_1 ++ (lw_privs_2 ++ (lw_privs_3 ++ (lw_privs_4 ++ (lw_privs_5)))), lw_okq q
  exact List.forall_mem_append.mpr ⟨lw_r1, List.forall_mem_append.mpr ⟨lw_r2, List.forall_mem_append.mpr ⟨lw_r3, List.forall_mem_append.mpr ⟨lw_r4, lw_r5⟩⟩⟩⟩
end
section
def RX0 : String := "OtherSidesPump$Advice"
def TX0 : u_T := fun k => match k with
  | 0 => ("OtherSidesPump$Advice", "fleet", "LOtherSidesPump$Fleet;", true)
  | 1 => ("OtherSidesPump$Advice", "yard", "LOtherSidesPump$Yard;", true)
  | 2 => ("OtherSidesPump$Advice", "laneBadness", "[[I", true)
  | 3 => ("OtherSidesPump$Advice", "members", "[I", true)
  | 4 => ("OtherSidesPump$Advice", "othersNow", "[I", true)
  | 5 => ("OtherSidesPump$Advice", "found", "I", false)
  | _ => ("OtherSidesPump$Advice", "then", "I", false)
def tyX0 : Nat → FieldType := fun k => match k with
  | 0 => .object "OtherSidesPump$Fleet"
  | 1 => .object "OtherSidesPump$Yard"
  | 2 => .array (.array .int)
  | 3 => .array .int
  | 4 => .array .int
  | 5 => .int
  | _ => .int
theorem nmX0 : ∀ a, a < 7 → ∀ b, b < 7 → a ≠ b → (TX0 a).2.1 ≠ (TX0 b).2.1 := by decide +kernel
theorem tyX0_ok : ∀ k, k < 7 → parseFieldDescriptor (TX0 k).2.2.1 = some (tyX0 k) := by decide +kernel
abbrev cX0_init : ByteArray := prog_2_method_1_code
def yX0_init : MethodName := ⟨RX0, "<init>", "(LOtherSidesPump$Fleet;LOtherSidesPump$Yard;)V"⟩
abbrev cX0_answer : ByteArray := prog_2_method_2_code
def yX0_answer : MethodName := ⟨RX0, "answer", "(I)I"⟩
abbrev cX0_seekLane : ByteArray := prog_2_method_3_code
def yX0_seekLane : MethodName := ⟨RX0, "seekLane", "(I)V"⟩
abbrev cX0_seekLanes : ByteArray := prog_2_method_4_code
def yX0_seekLanes : MethodName := ⟨RX0, "seekLanes", "()V"⟩
abbrev cX0_seekMinute : ByteArray := prog_2_method_5_code
def yX0_seekMinute : MethodName := ⟨RX0, "seekMinute", "(I)V"⟩
abbrev cX0_seekBlame : ByteArray := prog_2_method_6_code
def yX0_seekBlame : MethodName := ⟨RX0, "seekBlame", "()V"⟩
abbrev cX0_commonDivisor : ByteArray := prog_2_method_7_code
def yX0_commonDivisor : MethodName := ⟨RX0, "commonDivisor", "(II)I"⟩
abbrev cX0_fillLaneBadness : ByteArray := prog_2_method_8_code
def yX0_fillLaneBadness : MethodName := ⟨RX0, "fillLaneBadness", "()V"⟩
abbrev cX0_badnessOfWay : ByteArray := prog_2_method_9_code
def yX0_badnessOfWay : MethodName := ⟨RX0, "badnessOfWay", "(I)I"⟩
abbrev cX0_laneInWay : ByteArray := prog_2_method_10_code
def yX0_laneInWay : MethodName := ⟨RX0, "laneInWay", "(II)I"⟩
abbrev cX0_digits : ByteArray := prog_2_method_11_code
def yX0_digits : MethodName := ⟨RX0, "digits", "(I)I"⟩
def RX1 : String := "OtherSidesPump$Fleet"
def TX1 : u_T := fun k => match k with
  | 0 => ("OtherSidesPump$Fleet", "rows", "[[I", true)
  | _ => ("OtherSidesPump$Fleet", "size", "I", false)
def tyX1 : Nat → FieldType := fun k => match k with
  | 0 => .array (.array .int)
  | _ => .int
theorem nmX1 : ∀ a, a < 2 → ∀ b, b < 2 → a ≠ b → (TX1 a).2.1 ≠ (TX1 b).2.1 := by decide +kernel
theorem tyX1_ok : ∀ k, k < 2 → parseFieldDescriptor (TX1 k).2.2.1 = some (tyX1 k) := by decide +kernel
abbrev cX1_init : ByteArray := prog_3_method_1_code
def yX1_init : MethodName := ⟨RX1, "<init>", "()V"⟩
abbrev cX1_size : ByteArray := prog_3_method_2_code
def yX1_size : MethodName := ⟨RX1, "size", "()I"⟩
abbrev cX1_has : ByteArray := prog_3_method_3_code
def yX1_has : MethodName := ⟨RX1, "has", "(I)Z"⟩
abbrev cX1_tell : ByteArray := prog_3_method_4_code
def yX1_tell : MethodName := ⟨RX1, "tell", "(II)I"⟩
abbrev cX1_put : ByteArray := prog_3_method_5_code
def yX1_put : MethodName := ⟨RX1, "put", "(III)I"⟩
abbrev cX1_welcome : ByteArray := prog_3_method_6_code
def yX1_welcome : MethodName := ⟨RX1, "welcome", "(III)I"⟩
abbrev cX1_sendAwayFrom : ByteArray := prog_3_method_7_code
def yX1_sendAwayFrom : MethodName := ⟨RX1, "sendAwayFrom", "(I)V"⟩
abbrev cX1_isOne : ByteArray := prog_3_method_8_code
def yX1_isOne : MethodName := ⟨RX1, "isOne", "(II)Z"⟩
def RX2 : String := "OtherSidesPump$Keepsake"
def TX2 : u_T := fun k => match k with
  | 0 => ("OtherSidesPump$Keepsake", "rows", "[[I", true)
  | 1 => ("OtherSidesPump$Keepsake", "size", "I", false)
  | _ => ("OtherSidesPump$Keepsake", "rule", "I", false)
def tyX2 : Nat → FieldType := fun k => match k with
  | 0 => .array (.array .int)
  | 1 => .int
  | _ => .int
theorem nmX2 : ∀ a, a < 3 → ∀ b, b < 3 → a ≠ b → (TX2 a).2.1 ≠ (TX2 b).2.1 := by decide +kernel
theorem tyX2_ok : ∀ k, k < 3 → parseFieldDescriptor (TX2 k).2.2.1 = some (tyX2 k) := by decide +kernel
abbrev cX2_init : ByteArray := prog_4_method_1_code
def yX2_init : MethodName := ⟨RX2, "<init>", "()V"⟩
abbrev cX2_isTaken : ByteArray := prog_4_method_2_code
def yX2_isTaken : MethodName := ⟨RX2, "isTaken", "()Z"⟩
abbrev cX2_take : ByteArray := prog_4_method_3_code
def yX2_take : MethodName := ⟨RX2, "take", "(LOtherSidesPump$Fleet;LOtherSidesPump$Rules;)V"⟩
abbrev cX2_layBack : ByteArray := prog_4_method_4_code
def yX2_layBack : MethodName := ⟨RX2, "layBack", "(LOtherSidesPump$Fleet;LOtherSidesPump$Rules;)V"⟩
def RX3 : String := "OtherSidesPump$Kinds"
def TX3 : u_T := fun k => match k with
  | _ => ("", "", "", false)
def tyX3 : Nat → FieldType := fun k => match k with
  | _ => .int
theorem nmX3 : ∀ a, a < 0 → ∀ b, b < 0 → a ≠ b → (TX3 a).2.1 ≠ (TX3 b).2.1 := by decide +kernel
theorem tyX3_ok : ∀ k, k < 0 → parseFieldDescriptor (TX3 k).2.2.1 = some (tyX3 k) := by decide +kernel
abbrev cX3_minutes : ByteArray := prog_5_method_2_code
def yX3_minutes : MethodName := ⟨RX3, "minutes", "(III)I"⟩
abbrev cX3_fits : ByteArray := prog_5_method_3_code
def yX3_fits : MethodName := ⟨RX3, "fits", "(III)Z"⟩
abbrev cX3_drawsForward : ByteArray := prog_5_method_4_code
def yX3_drawsForward : MethodName := ⟨RX3, "drawsForward", "(IZI)Z"⟩
abbrev cX3_isLong : ByteArray := prog_5_method_5_code
def yX3_isLong : MethodName := ⟨RX3, "isLong", "(I)Z"⟩
abbrev cX3_isUnder : ByteArray := prog_5_method_6_code
def yX3_isUnder : MethodName := ⟨RX3, "isUnder", "(II)Z"⟩
def RX4 : String := "OtherSidesPump$Reader"
def TX4 : u_T := fun k => match k with
  | 0 => ("OtherSidesPump$Reader", "out", "LOtherSidesPump$Rules;", true)
  | 1 => ("OtherSidesPump$Reader", "bytes", "[I", true)
  | 2 => ("OtherSidesPump$Reader", "size", "I", false)
  | 3 => ("OtherSidesPump$Reader", "next", "I", false)
  | 4 => ("OtherSidesPump$Reader", "token", "I", false)
  | 5 => ("OtherSidesPump$Reader", "begin", "I", false)
  | _ => ("OtherSidesPump$Reader", "numeral", "I", false)
def tyX4 : Nat → FieldType := fun k => match k with
  | 0 => .object "OtherSidesPump$Rules"
  | 1 => .array .int
  | 2 => .int
  | 3 => .int
  | 4 => .int
  | 5 => .int
  | _ => .int
theorem nmX4 : ∀ a, a < 7 → ∀ b, b < 7 → a ≠ b → (TX4 a).2.1 ≠ (TX4 b).2.1 := by decide +kernel
theorem tyX4_ok : ∀ k, k < 7 → parseFieldDescriptor (TX4 k).2.2.1 = some (tyX4 k) := by decide +kernel
abbrev cX4_init : ByteArray := prog_6_method_1_code
def yX4_init : MethodName := ⟨RX4, "<init>", "(LOtherSidesPump$Rules;)V"⟩
abbrev cX4_size : ByteArray := prog_6_method_2_code
def yX4_size : MethodName := ⟨RX4, "size", "()I"⟩
abbrev cX4_empty : ByteArray := prog_6_method_3_code
def yX4_empty : MethodName := ⟨RX4, "empty", "()V"⟩
abbrev cX4_add : ByteArray := prog_6_method_4_code
def yX4_add : MethodName := ⟨RX4, "add", "(I)Z"⟩
abbrev cX4_lay : ByteArray := prog_6_method_5_code
def yX4_lay : MethodName := ⟨RX4, "lay", "(Ljava/lang/String;)V"⟩
abbrev cX4_readText : ByteArray := prog_6_method_6_code
def yX4_readText : MethodName := ⟨RX4, "readText", "()I"⟩
abbrev cX4_readPart : ByteArray := prog_6_method_7_code
def yX4_readPart : MethodName := ⟨RX4, "readPart", "(I)Z"⟩
abbrev cX4_readOr : ByteArray := prog_6_method_8_code
def yX4_readOr : MethodName := ⟨RX4, "readOr", "(I)Z"⟩
abbrev cX4_readAnd : ByteArray := prog_6_method_9_code
def yX4_readAnd : MethodName := ⟨RX4, "readAnd", "(I)Z"⟩
abbrev cX4_readNot : ByteArray := prog_6_method_10_code
def yX4_readNot : MethodName := ⟨RX4, "readNot", "(I)Z"⟩
abbrev cX4_readComparison : ByteArray := prog_6_method_11_code
def yX4_readComparison : MethodName := ⟨RX4, "readComparison", "(I)Z"⟩
abbrev cX4_readSum : ByteArray := prog_6_method_12_code
def yX4_readSum : MethodName := ⟨RX4, "readSum", "(I)Z"⟩
abbrev cX4_readTerm : ByteArray := prog_6_method_13_code
def yX4_readTerm : MethodName := ⟨RX4, "readTerm", "(I)Z"⟩
abbrev cX4_readOne : ByteArray := prog_6_method_14_code
def yX4_readOne : MethodName := ⟨RX4, "readOne", "(I)Z"⟩
abbrev cX4_readNegated : ByteArray := prog_6_method_15_code
def yX4_readNegated : MethodName := ⟨RX4, "readNegated", "(I)Z"⟩
abbrev cX4_readEnclosed : ByteArray := prog_6_method_16_code
def yX4_readEnclosed : MethodName := ⟨RX4, "readEnclosed", "(I)Z"⟩
abbrev cX4_step : ByteArray := prog_6_method_17_code
def yX4_step : MethodName := ⟨RX4, "step", "()V"⟩
abbrev cX4_stepWord : ByteArray := prog_6_method_18_code
def yX4_stepWord : MethodName := ⟨RX4, "stepWord", "()V"⟩
abbrev cX4_isSpelled : ByteArray := prog_6_method_19_code
def yX4_isSpelled : MethodName := ⟨RX4, "isSpelled", "(II)Z"⟩
abbrev cX4_stepNumeral : ByteArray := prog_6_method_20_code
def yX4_stepNumeral : MethodName := ⟨RX4, "stepNumeral", "()V"⟩
abbrev cX4_isLetter : ByteArray := prog_6_method_21_code
def yX4_isLetter : MethodName := ⟨RX4, "isLetter", "(I)Z"⟩
abbrev cX4_isDigit : ByteArray := prog_6_method_22_code
def yX4_isDigit : MethodName := ⟨RX4, "isDigit", "(I)Z"⟩
def RX5 : String := "OtherSidesPump$Rules"
def TX5 : u_T := fun k => match k with
  | 0 => ("OtherSidesPump$Rules", "steps", "[[I", true)
  | 1 => ("OtherSidesPump$Rules", "begins", "[[I", true)
  | 2 => ("OtherSidesPump$Rules", "stack", "[I", true)
  | 3 => ("OtherSidesPump$Rules", "names", "[I", true)
  | 4 => ("OtherSidesPump$Rules", "size", "I", false)
  | 5 => ("OtherSidesPump$Rules", "chosen", "I", false)
  | _ => ("OtherSidesPump$Rules", "written", "I", false)
def tyX5 : Nat → FieldType := fun k => match k with
  | 0 => .array (.array .int)
  | 1 => .array (.array .int)
  | 2 => .array .int
  | 3 => .array .int
  | 4 => .int
  | 5 => .int
  | _ => .int
theorem nmX5 : ∀ a, a < 7 → ∀ b, b < 7 → a ≠ b → (TX5 a).2.1 ≠ (TX5 b).2.1 := by decide +kernel
theorem tyX5_ok : ∀ k, k < 7 → parseFieldDescriptor (TX5 k).2.2.1 = some (tyX5 k) := by decide +kernel
abbrev cX5_init : ByteArray := prog_7_method_1_code
def yX5_init : MethodName := ⟨RX5, "<init>", "()V"⟩
abbrev cX5_size : ByteArray := prog_7_method_2_code
def yX5_size : MethodName := ⟨RX5, "size", "()I"⟩
abbrev cX5_isFull : ByteArray := prog_7_method_3_code
def yX5_isFull : MethodName := ⟨RX5, "isFull", "()Z"⟩
abbrev cX5_has : ByteArray := prog_7_method_4_code
def yX5_has : MethodName := ⟨RX5, "has", "(I)Z"⟩
abbrev cX5_chosen : ByteArray := prog_7_method_5_code
def yX5_chosen : MethodName := ⟨RX5, "chosen", "()I"⟩
abbrev cX5_choose : ByteArray := prog_7_method_6_code
def yX5_choose : MethodName := ⟨RX5, "choose", "(I)I"⟩
abbrev cX5_beginText : ByteArray := prog_7_method_7_code
def yX5_beginText : MethodName := ⟨RX5, "beginText", "()V"⟩
abbrev cX5_beginPart : ByteArray := prog_7_method_8_code
def yX5_beginPart : MethodName := ⟨RX5, "beginPart", "(I)V"⟩
abbrev cX5_write : ByteArray := prog_7_method_9_code
def yX5_write : MethodName := ⟨RX5, "write", "(I)V"⟩
abbrev cX5_endText : ByteArray := prog_7_method_10_code
def yX5_endText : MethodName := ⟨RX5, "endText", "()V"⟩
abbrev cX5_ask : ByteArray := prog_7_method_11_code
def yX5_ask : MethodName := ⟨RX5, "ask", "(ILOtherSidesPump$Fleet;IIII)I"⟩
abbrev cX5_joined : ByteArray := prog_7_method_12_code
def yX5_joined : MethodName := ⟨RX5, "joined", "(III)I"⟩
def RX6 : String := "OtherSidesPump$Sheet"
def TX6 : u_T := fun k => match k with
  | 0 => ("OtherSidesPump$Sheet", "items", "[I", true)
  | 1 => ("OtherSidesPump$Sheet", "sort", "I", false)
  | _ => ("OtherSidesPump$Sheet", "size", "I", false)
def tyX6 : Nat → FieldType := fun k => match k with
  | 0 => .array .int
  | 1 => .int
  | _ => .int
theorem nmX6 : ∀ a, a < 3 → ∀ b, b < 3 → a ≠ b → (TX6 a).2.1 ≠ (TX6 b).2.1 := by decide +kernel
theorem tyX6_ok : ∀ k, k < 3 → parseFieldDescriptor (TX6 k).2.2.1 = some (tyX6 k) := by decide +kernel
abbrev cX6_init : ByteArray := prog_8_method_1_code
def yX6_init : MethodName := ⟨RX6, "<init>", "()V"⟩
abbrev cX6_size : ByteArray := prog_8_method_2_code
def yX6_size : MethodName := ⟨RX6, "size", "()I"⟩
abbrev cX6_sort : ByteArray := prog_8_method_3_code
def yX6_sort : MethodName := ⟨RX6, "sort", "()I"⟩
abbrev cX6_isMissing : ByteArray := prog_8_method_4_code
def yX6_isMissing : MethodName := ⟨RX6, "isMissing", "()Z"⟩
abbrev cX6_become : ByteArray := prog_8_method_5_code
def yX6_become : MethodName := ⟨RX6, "become", "(II)V"⟩
abbrev cX6_hasRun : ByteArray := prog_8_method_6_code
def yX6_hasRun : MethodName := ⟨RX6, "hasRun", "(II)Z"⟩
abbrev cX6_item : ByteArray := prog_8_method_7_code
def yX6_item : MethodName := ⟨RX6, "item", "(I)I"⟩
abbrev cX6_put : ByteArray := prog_8_method_8_code
def yX6_put : MethodName := ⟨RX6, "put", "(II)Z"⟩
abbrev cX6_putRun : ByteArray := prog_8_method_9_code
def yX6_putRun : MethodName := ⟨RX6, "putRun", "(ILOtherSidesPump$Sheet;II)V"⟩
abbrev cX6_narrow : ByteArray := prog_8_method_10_code
def yX6_narrow : MethodName := ⟨RX6, "narrow", "(I)I"⟩
def RX7 : String := "OtherSidesPump$Yard"
def TX7 : u_T := fun k => match k with
  | 0 => ("OtherSidesPump$Yard", "fleet", "LOtherSidesPump$Fleet;", true)
  | 1 => ("OtherSidesPump$Yard", "rules", "LOtherSidesPump$Rules;", true)
  | 2 => ("OtherSidesPump$Yard", "members", "[I", true)
  | 3 => ("OtherSidesPump$Yard", "starts", "[I", true)
  | 4 => ("OtherSidesPump$Yard", "ends", "[I", true)
  | 5 => ("OtherSidesPump$Yard", "off", "[I", true)
  | 6 => ("OtherSidesPump$Yard", "place", "[I", true)
  | 7 => ("OtherSidesPump$Yard", "share", "[I", true)
  | 8 => ("OtherSidesPump$Yard", "queue", "[I", true)
  | 9 => ("OtherSidesPump$Yard", "queued", "I", false)
  | 10 => ("OtherSidesPump$Yard", "gone", "I", false)
  | 11 => ("OtherSidesPump$Yard", "front", "I", false)
  | 12 => ("OtherSidesPump$Yard", "back", "I", false)
  | 13 => ("OtherSidesPump$Yard", "vain", "I", false)
  | _ => ("OtherSidesPump$Yard", "allForward", "Z", false)
def tyX7 : Nat → FieldType := fun k => match k with
  | 0 => .object "OtherSidesPump$Fleet"
  | 1 => .object "OtherSidesPump$Rules"
  | 2 => .array .int
  | 3 => .array .int
  | 4 => .array .int
  | 5 => .array .int
  | 6 => .array .int
  | 7 => .array .int
  | 8 => .array .int
  | 9 => .int
  | 10 => .int
  | 11 => .int
  | 12 => .int
  | 13 => .int
  | _ => .boolean
theorem nmX7 : ∀ a, a < 15 → ∀ b, b < 15 → a ≠ b → (TX7 a).2.1 ≠ (TX7 b).2.1 := by decide +kernel
theorem tyX7_ok : ∀ k, k < 15 → parseFieldDescriptor (TX7 k).2.2.1 = some (tyX7 k) := by decide +kernel
abbrev cX7_init : ByteArray := prog_9_method_1_code
def yX7_init : MethodName := ⟨RX7, "<init>", "(LOtherSidesPump$Fleet;LOtherSidesPump$Rules;)V"⟩
abbrev cX7_spread : ByteArray := prog_9_method_2_code
def yX7_spread : MethodName := ⟨RX7, "spread", "()V"⟩
abbrev cX7_spreadBySeed : ByteArray := prog_9_method_3_code
def yX7_spreadBySeed : MethodName := ⟨RX7, "spreadBySeed", "(I)V"⟩
abbrev cX7_leaveOut : ByteArray := prog_9_method_4_code
def yX7_leaveOut : MethodName := ⟨RX7, "leaveOut", "(I)V"⟩
abbrev cX7_sendAllForward : ByteArray := prog_9_method_5_code
def yX7_sendAllForward : MethodName := ⟨RX7, "sendAllForward", "(Z)V"⟩
abbrev cX7_playAll : ByteArray := prog_9_method_6_code
def yX7_playAll : MethodName := ⟨RX7, "playAll", "()I"⟩
abbrev cX7_playLane : ByteArray := prog_9_method_7_code
def yX7_playLane : MethodName := ⟨RX7, "playLane", "(II)I"⟩
abbrev cX7_starts : ByteArray := prog_9_method_8_code
def yX7_starts : MethodName := ⟨RX7, "starts", "(I)I"⟩
abbrev cX7_off : ByteArray := prog_9_method_9_code
def yX7_off : MethodName := ⟨RX7, "off", "(I)I"⟩
abbrev cX7_place : ByteArray := prog_9_method_10_code
def yX7_place : MethodName := ⟨RX7, "place", "(I)I"⟩
abbrev cX7_waited : ByteArray := prog_9_method_11_code
def yX7_waited : MethodName := ⟨RX7, "waited", "(I)I"⟩
abbrev cX7_share : ByteArray := prog_9_method_12_code
def yX7_share : MethodName := ⟨RX7, "share", "(I)I"⟩
abbrev cX7_inVain : ByteArray := prog_9_method_13_code
def yX7_inVain : MethodName := ⟨RX7, "inVain", "()I"⟩
abbrev cX7_whoIsAt : ByteArray := prog_9_method_14_code
def yX7_whoIsAt : MethodName := ⟨RX7, "whoIsAt", "(III)I"⟩
abbrev cX7_lastOff : ByteArray := prog_9_method_15_code
def yX7_lastOff : MethodName := ⟨RX7, "lastOff", "()I"⟩
abbrev cX7_outOfOrder : ByteArray := prog_9_method_16_code
def yX7_outOfOrder : MethodName := ⟨RX7, "outOfOrder", "()I"⟩
abbrev cX7_otherwise : ByteArray := prog_9_method_17_code
def yX7_otherwise : MethodName := ⟨RX7, "otherwise", "(LOtherSidesPump$Sheet;)I"⟩
abbrev cX7_fits : ByteArray := prog_9_method_18_code
def yX7_fits : MethodName := ⟨RX7, "fits", "(II)Z"⟩
abbrev cX7_drawsForward : ByteArray := prog_9_method_19_code
def yX7_drawsForward : MethodName := ⟨RX7, "drawsForward", "(III)Z"⟩
abbrev cX7_takes : ByteArray := prog_9_method_20_code
def yX7_takes : MethodName := ⟨RX7, "takes", "(IIII)I"⟩
abbrev cX7_minds : ByteArray := prog_9_method_21_code
def yX7_minds : MethodName := ⟨RX7, "minds", "(II)I"⟩
abbrev cX7_clearLanes : ByteArray := prog_9_method_22_code
def yX7_clearLanes : MethodName := ⟨RX7, "clearLanes", "()V"⟩
abbrev cX7_join : ByteArray := prog_9_method_23_code
def yX7_join : MethodName := ⟨RX7, "join", "(II)V"⟩
abbrev cX7_comesBefore : ByteArray := prog_9_method_24_code
def yX7_comesBefore : MethodName := ⟨RX7, "comesBefore", "(II)Z"⟩
abbrev cX7_lineUp : ByteArray := prog_9_method_25_code
def yX7_lineUp : MethodName := ⟨RX7, "lineUp", "(II)V"⟩
abbrev cX7_leave : ByteArray := prog_9_method_26_code
def yX7_leave : MethodName := ⟨RX7, "leave", "(I)V"⟩
abbrev cX7_driveUp : ByteArray := prog_9_method_27_code
def yX7_driveUp : MethodName := ⟨RX7, "driveUp", "(II)V"⟩
abbrev cX7_badness : ByteArray := prog_9_method_28_code
def yX7_badness : MethodName := ⟨RX7, "badness", "(II)I"⟩
abbrev cX7_within : ByteArray := prog_9_method_29_code
def yX7_within : MethodName := ⟨RX7, "within", "(II)I"⟩
def RX8 : String := "OtherSidesPump"
def TX8 : u_T := fun k => match k with
  | 0 => ("OtherSidesPump", "fleet", "LOtherSidesPump$Fleet;", true)
  | 1 => ("OtherSidesPump", "rules", "LOtherSidesPump$Rules;", true)
  | 2 => ("OtherSidesPump", "tape", "LOtherSidesPump$Reader;", true)
  | 3 => ("OtherSidesPump", "yard", "LOtherSidesPump$Yard;", true)
  | 4 => ("OtherSidesPump", "advice", "LOtherSidesPump$Advice;", true)
  | 5 => ("OtherSidesPump", "sheets", "[LOtherSidesPump$Sheet;", true)
  | _ => ("OtherSidesPump", "kept", "LOtherSidesPump$Keepsake;", true)
def tyX8 : Nat → FieldType := fun k => match k with
  | 0 => .object "OtherSidesPump$Fleet"
  | 1 => .object "OtherSidesPump$Rules"
  | 2 => .object "OtherSidesPump$Reader"
  | 3 => .object "OtherSidesPump$Yard"
  | 4 => .object "OtherSidesPump$Advice"
  | 5 => .array (.object "OtherSidesPump$Sheet")
  | _ => .object "OtherSidesPump$Keepsake"
theorem nmX8 : ∀ a, a < 7 → ∀ b, b < 7 → a ≠ b → (TX8 a).2.1 ≠ (TX8 b).2.1 := by decide +kernel
theorem tyX8_ok : ∀ k, k < 7 → parseFieldDescriptor (TX8 k).2.2.1 = some (tyX8 k) := by decide +kernel
abbrev cX8_init : ByteArray := prog_1_method_1_code
def yX8_init : MethodName := ⟨RX8, "<init>", "()V"⟩
abbrev cX8_set : ByteArray := prog_1_method_2_code
def yX8_set : MethodName := ⟨RX8, "set", "(III)I"⟩
abbrev cX8_car : ByteArray := prog_1_method_3_code
def yX8_car : MethodName := ⟨RX8, "car", "(III)I"⟩
abbrev cX8_told : ByteArray := prog_1_method_4_code
def yX8_told : MethodName := ⟨RX8, "told", "(II)I"⟩
abbrev cX8_feed : ByteArray := prog_1_method_5_code
def yX8_feed : MethodName := ⟨RX8, "feed", "(I)I"⟩
abbrev cX8_text : ByteArray := prog_1_method_6_code
def yX8_text : MethodName := ⟨RX8, "text", "()I"⟩
abbrev cX8_force : ByteArray := prog_1_method_7_code
def yX8_force : MethodName := ⟨RX8, "force", "(I)I"⟩
abbrev cX8_times : ByteArray := prog_1_method_8_code
def yX8_times : MethodName := ⟨RX8, "times", "(II)I"⟩
abbrev cX8_pump : ByteArray := prog_1_method_9_code
def yX8_pump : MethodName := ⟨RX8, "pump", "(III)I"⟩
abbrev cX8_all : ByteArray := prog_1_method_10_code
def yX8_all : MethodName := ⟨RX8, "all", "(I)I"⟩
abbrev cX8_lane : ByteArray := prog_1_method_11_code
def yX8_lane : MethodName := ⟨RX8, "lane", "(II)I"⟩
abbrev cX8_lanes : ByteArray := prog_1_method_12_code
def yX8_lanes : MethodName := ⟨RX8, "lanes", "(I)I"⟩
abbrev cX8_when : ByteArray := prog_1_method_13_code
def yX8_when : MethodName := ⟨RX8, "when", "(II)I"⟩
abbrev cX8_forward : ByteArray := prog_1_method_14_code
def yX8_forward : MethodName := ⟨RX8, "forward", "()I"⟩
abbrev cX8_blame : ByteArray := prog_1_method_15_code
def yX8_blame : MethodName := ⟨RX8, "blame", "(I)I"⟩
abbrev cX8_tells : ByteArray := prog_1_method_16_code
def yX8_tells : MethodName := ⟨RX8, "tells", "(II)I"⟩
abbrev cX8_film : ByteArray := prog_1_method_17_code
def yX8_film : MethodName := ⟨RX8, "film", "(I)I"⟩
abbrev cX8_drawn : ByteArray := prog_1_method_18_code
def yX8_drawn : MethodName := ⟨RX8, "drawn", "(I)I"⟩
abbrev cX8_chance : ByteArray := prog_1_method_19_code
def yX8_chance : MethodName := ⟨RX8, "chance", "(III)J"⟩
abbrev cX8_image : ByteArray := prog_1_method_20_code
def yX8_image : MethodName := ⟨RX8, "image", "()I"⟩
abbrev cX8_back : ByteArray := prog_1_method_21_code
def yX8_back : MethodName := ⟨RX8, "back", "()I"⟩
abbrev cX8_count : ByteArray := prog_1_method_22_code
def yX8_count : MethodName := ⟨RX8, "count", "(I)I"⟩
abbrev cX8_sheet : ByteArray := prog_1_method_23_code
def yX8_sheet : MethodName := ⟨RX8, "sheet", "(III)I"⟩
abbrev cX8_cell : ByteArray := prog_1_method_24_code
def yX8_cell : MethodName := ⟨RX8, "cell", "(III)I"⟩
abbrev cX8_copy : ByteArray := prog_1_method_25_code
def yX8_copy : MethodName := ⟨RX8, "copy", "(IIIII)I"⟩
abbrev cX8_cars : ByteArray := prog_1_method_26_code
def yX8_cars : MethodName := ⟨RX8, "cars", "(IIII)I"⟩
abbrev cX8_taken : ByteArray := prog_1_method_27_code
def yX8_taken : MethodName := ⟨RX8, "taken", "(II)I"⟩
abbrev cX8_isSheet : ByteArray := prog_1_method_28_code
def yX8_isSheet : MethodName := ⟨RX8, "isSheet", "(I)Z"⟩
abbrev cX8_otherwiseNow : ByteArray := prog_1_method_29_code
def yX8_otherwiseNow : MethodName := ⟨RX8, "otherwiseNow", "(LOtherSidesPump$Sheet;)I"⟩
abbrev cX8_likelyTexts : ByteArray := prog_1_method_30_code
def yX8_likelyTexts : MethodName := ⟨RX8, "likelyTexts", "(LOtherSidesPump$Sheet;)I"⟩
abbrev cX8_likely : ByteArray := prog_1_method_31_code
def yX8_likely : MethodName := ⟨RX8, "likely", "(LOtherSidesPump$Sheet;II)I"⟩
def RX9 : String := "OtherSidesPumpModel"
def TX9 : u_T := fun k => match k with
  | 0 => ("OtherSidesPumpModel", "thrown", "I", false)
  | 1 => ("OtherSidesPumpModel", "texts", "[I", true)
  | 2 => ("OtherSidesPumpModel", "textSize", "[I", true)
  | 3 => ("OtherSidesPumpModel", "textCount", "I", false)
  | 4 => ("OtherSidesPumpModel", "rule", "I", false)
  | 5 => ("OtherSidesPumpModel", "tape", "[I", true)
  | 6 => ("OtherSidesPumpModel", "taped", "I", false)
  | 7 => ("OtherSidesPumpModel", "kinds", "[I", true)
  | 8 => ("OtherSidesPumpModel", "rows", "[I", true)
  | 9 => ("OtherSidesPumpModel", "many", "I", false)
  | 10 => ("OtherSidesPumpModel", "ofCap", "I", false)
  | 11 => ("OtherSidesPumpModel", "ofLane", "I", false)
  | 12 => ("OtherSidesPumpModel", "ofMinute", "I", false)
  | 13 => ("OtherSidesPumpModel", "ofNumber", "I", false)
  | 14 => ("OtherSidesPumpModel", "ofAhead", "I", false)
  | 15 => ("OtherSidesPumpModel", "ofPie", "I", false)
  | 16 => ("OtherSidesPumpModel", "from", "I", false)
  | 17 => ("OtherSidesPumpModel", "size", "I", false)
  | 18 => ("OtherSidesPumpModel", "here", "I", false)
  | 19 => ("OtherSidesPumpModel", "token", "I", false)
  | 20 => ("OtherSidesPumpModel", "tokenAt", "I", false)
  | 21 => ("OtherSidesPumpModel", "tokenWorth", "J", false)
  | 22 => ("OtherSidesPumpModel", "open", "I", false)
  | 23 => ("OtherSidesPumpModel", "bad", "Z", false)
  | 24 => ("OtherSidesPumpModel", "fault", "I", false)
  | 25 => ("OtherSidesPumpModel", "isEager", "Z", false)
  | 26 => ("OtherSidesPumpModel", "startAt", "[I", true)
  | 27 => ("OtherSidesPumpModel", "offAt", "[I", true)
  | 28 => ("OtherSidesPumpModel", "pumpOf", "[I", true)
  | 29 => ("OtherSidesPumpModel", "endOf", "[I", true)
  | 30 => ("OtherSidesPumpModel", "backRow", "[I", true)
  | 31 => ("OtherSidesPumpModel", "frontRow", "[I", true)
  | 32 => ("OtherSidesPumpModel", "table", "[I", true)
  | 33 => ("OtherSidesPumpModel", "sets", "[I", true)
  | 34 => ("OtherSidesPumpModel", "bestDigits", "I", false)
  | 35 => ("OtherSidesPumpModel", "bestBad", "I", false)
  | 36 => ("OtherSidesPumpModel", "lanesWas", "[I", true)
  | 37 => ("OtherSidesPumpModel", "rowsKept", "[I", true)
  | 38 => ("OtherSidesPumpModel", "manyKept", "I", false)
  | 39 => ("OtherSidesPumpModel", "ruleKept", "I", false)
  | 40 => ("OtherSidesPumpModel", "isThere", "[Z", true)
  | 41 => ("OtherSidesPumpModel", "sorts", "[I", true)
  | 42 => ("OtherSidesPumpModel", "sheetSize", "[I", true)
  | _ => ("OtherSidesPumpModel", "items", "[I", true)
def tyX9 : Nat → FieldType := fun k => match k with
  | 0 => .int
  | 1 => .array .int
  | 2 => .array .int
  | 3 => .int
  | 4 => .int
  | 5 => .array .int
  | 6 => .int
  | 7 => .array .int
  | 8 => .array .int
  | 9 => .int
  | 10 => .int
  | 11 => .int
  | 12 => .int
  | 13 => .int
  | 14 => .int
  | 15 => .int
  | 16 => .int
  | 17 => .int
  | 18 => .int
  | 19 => .int
  | 20 => .int
  | 21 => .long
  | 22 => .int
  | 23 => .boolean
  | 24 => .int
  | 25 => .boolean
  | 26 => .array .int
  | 27 => .array .int
  | 28 => .array .int
  | 29 => .array .int
  | 30 => .array .int
  | 31 => .array .int
  | 32 => .array .int
  | 33 => .array .int
  | 34 => .int
  | 35 => .int
  | 36 => .array .int
  | 37 => .array .int
  | 38 => .int
  | 39 => .int
  | 40 => .array .boolean
  | 41 => .array .int
  | 42 => .array .int
  | _ => .array .int
theorem nmX9 : ∀ a, a < 44 → ∀ b, b < 44 → a ≠ b → (TX9 a).2.1 ≠ (TX9 b).2.1 := by decide +kernel
theorem tyX9_ok : ∀ k, k < 44 → parseFieldDescriptor (TX9 k).2.2.1 = some (tyX9 k) := by decide +kernel
abbrev cX9_in : ByteArray := prog_11_method_2_code
def yX9_in : MethodName := ⟨RX9, "in", "(JJJ)Z"⟩
abbrev cX9_within : ByteArray := prog_11_method_3_code
def yX9_within : MethodName := ⟨RX9, "within", "(III)I"⟩
abbrev cX9_init : ByteArray := prog_11_method_4_code
def yX9_init : MethodName := ⟨RX9, "<init>", "()V"⟩
abbrev cX9_spell : ByteArray := prog_11_method_5_code
def yX9_spell : MethodName := ⟨RX9, "spell", "(IIIIIIIII)V"⟩
abbrev cX9_isCar : ByteArray := prog_11_method_6_code
def yX9_isCar : MethodName := ⟨RX9, "isCar", "(I)Z"⟩
abbrev cX9_mostOf : ByteArray := prog_11_method_7_code
def yX9_mostOf : MethodName := ⟨RX9, "mostOf", "(I)I"⟩
abbrev cX9_set : ByteArray := prog_11_method_8_code
def yX9_set : MethodName := ⟨RX9, "set", "(III)I"⟩
abbrev cX9_lays : ByteArray := prog_11_method_9_code
def yX9_lays : MethodName := ⟨RX9, "lays", "(III)V"⟩
abbrev cX9_car : ByteArray := prog_11_method_10_code
def yX9_car : MethodName := ⟨RX9, "car", "(III)I"⟩
abbrev cX9_told : ByteArray := prog_11_method_11_code
def yX9_told : MethodName := ⟨RX9, "told", "(II)I"⟩
abbrev cX9_feed : ByteArray := prog_11_method_12_code
def yX9_feed : MethodName := ⟨RX9, "feed", "(I)I"⟩
abbrev cX9_byteAt : ByteArray := prog_11_method_13_code
def yX9_byteAt : MethodName := ⟨RX9, "byteAt", "(I)I"⟩
abbrev cX9_next : ByteArray := prog_11_method_14_code
def yX9_next : MethodName := ⟨RX9, "next", "()V"⟩
abbrev cX9_fail : ByteArray := prog_11_method_15_code
def yX9_fail : MethodName := ⟨RX9, "fail", "()V"⟩
abbrev cX9_isLetter : ByteArray := prog_11_method_16_code
def yX9_isLetter : MethodName := ⟨RX9, "isLetter", "(II)Z"⟩
abbrev cX9_isWord : ByteArray := prog_11_method_17_code
def yX9_isWord : MethodName := ⟨RX9, "isWord", "(IIIIIIII)Z"⟩
abbrev cX9_isSign : ByteArray := prog_11_method_18_code
def yX9_isSign : MethodName := ⟨RX9, "isSign", "(I)Z"⟩
abbrev cX9_opens : ByteArray := prog_11_method_19_code
def yX9_opens : MethodName := ⟨RX9, "opens", "()Z"⟩
abbrev cX9_name : ByteArray := prog_11_method_20_code
def yX9_name : MethodName := ⟨RX9, "name", "()I"⟩
abbrev cX9_atom : ByteArray := prog_11_method_21_code
def yX9_atom : MethodName := ⟨RX9, "atom", "()I"⟩
abbrev cX9_term : ByteArray := prog_11_method_22_code
def yX9_term : MethodName := ⟨RX9, "term", "()I"⟩
abbrev cX9_added : ByteArray := prog_11_method_23_code
def yX9_added : MethodName := ⟨RX9, "added", "()I"⟩
abbrev cX9_not : ByteArray := prog_11_method_24_code
def yX9_not : MethodName := ⟨RX9, "not", "()I"⟩
abbrev cX9_both : ByteArray := prog_11_method_25_code
def yX9_both : MethodName := ⟨RX9, "both", "()I"⟩
abbrev cX9_either : ByteArray := prog_11_method_26_code
def yX9_either : MethodName := ⟨RX9, "either", "()I"⟩
abbrev cX9_part : ByteArray := prog_11_method_27_code
def yX9_part : MethodName := ⟨RX9, "part", "(Z)I"⟩
abbrev cX9_read : ByteArray := prog_11_method_28_code
def yX9_read : MethodName := ⟨RX9, "read", "(II)I"⟩
abbrev cX9_text : ByteArray := prog_11_method_29_code
def yX9_text : MethodName := ⟨RX9, "text", "()I"⟩
abbrev cX9_force : ByteArray := prog_11_method_30_code
def yX9_force : MethodName := ⟨RX9, "force", "(I)I"⟩
abbrev cX9_asks : ByteArray := prog_11_method_31_code
def yX9_asks : MethodName := ⟨RX9, "asks", "(IIIII)I"⟩
abbrev cX9_fits : ByteArray := prog_11_method_32_code
def yX9_fits : MethodName := ⟨RX9, "fits", "(II)Z"⟩
abbrev cX9_isLong : ByteArray := prog_11_method_33_code
def yX9_isLong : MethodName := ⟨RX9, "isLong", "(I)Z"⟩
abbrev cX9_draws : ByteArray := prog_11_method_34_code
def yX9_draws : MethodName := ⟨RX9, "draws", "(IIII)Z"⟩
abbrev cX9_takesOf : ByteArray := prog_11_method_35_code
def yX9_takesOf : MethodName := ⟨RX9, "takesOf", "(IIII)I"⟩
abbrev cX9_nextOf : ByteArray := prog_11_method_36_code
def yX9_nextOf : MethodName := ⟨RX9, "nextOf", "(III)I"⟩
abbrev cX9_begins : ByteArray := prog_11_method_37_code
def yX9_begins : MethodName := ⟨RX9, "begins", "(IIIII)V"⟩
abbrev cX9_goes : ByteArray := prog_11_method_38_code
def yX9_goes : MethodName := ⟨RX9, "goes", "(II)V"⟩
abbrev cX9_setOf : ByteArray := prog_11_method_39_code
def yX9_setOf : MethodName := ⟨RX9, "setOf", "(I)I"⟩
abbrev cX9_goesAll : ByteArray := prog_11_method_40_code
def yX9_goesAll : MethodName := ⟨RX9, "goesAll", "()V"⟩
abbrev cX9_waitedOf : ByteArray := prog_11_method_41_code
def yX9_waitedOf : MethodName := ⟨RX9, "waitedOf", "(I)I"⟩
abbrev cX9_badOf : ByteArray := prog_11_method_42_code
def yX9_badOf : MethodName := ⟨RX9, "badOf", "(II)I"⟩
abbrev cX9_badness : ByteArray := prog_11_method_43_code
def yX9_badness : MethodName := ⟨RX9, "badness", "()I"⟩
abbrev cX9_times : ByteArray := prog_11_method_44_code
def yX9_times : MethodName := ⟨RX9, "times", "(II)I"⟩
abbrev cX9_pump : ByteArray := prog_11_method_45_code
def yX9_pump : MethodName := ⟨RX9, "pump", "(III)I"⟩
abbrev cX9_lastOff : ByteArray := prog_11_method_46_code
def yX9_lastOff : MethodName := ⟨RX9, "lastOff", "()I"⟩
abbrev cX9_isAhead : ByteArray := prog_11_method_47_code
def yX9_isAhead : MethodName := ⟨RX9, "isAhead", "(II)Z"⟩
abbrev cX9_all : ByteArray := prog_11_method_48_code
def yX9_all : MethodName := ⟨RX9, "all", "(I)I"⟩
abbrev cX9_lane : ByteArray := prog_11_method_49_code
def yX9_lane : MethodName := ⟨RX9, "lane", "(II)I"⟩
abbrev cX9_seeks : ByteArray := prog_11_method_50_code
def yX9_seeks : MethodName := ⟨RX9, "seeks", "(II)V"⟩
abbrev cX9_lanes : ByteArray := prog_11_method_51_code
def yX9_lanes : MethodName := ⟨RX9, "lanes", "(I)I"⟩
abbrev cX9_when : ByteArray := prog_11_method_52_code
def yX9_when : MethodName := ⟨RX9, "when", "(II)I"⟩
abbrev cX9_forward : ByteArray := prog_11_method_53_code
def yX9_forward : MethodName := ⟨RX9, "forward", "()I"⟩
abbrev cX9_blame : ByteArray := prog_11_method_54_code
def yX9_blame : MethodName := ⟨RX9, "blame", "(I)I"⟩
abbrev cX9_unlike : ByteArray := prog_11_method_55_code
def yX9_unlike : MethodName := ⟨RX9, "unlike", "(I)I"⟩
abbrev cX9_tells : ByteArray := prog_11_method_56_code
def yX9_tells : MethodName := ⟨RX9, "tells", "(II)I"⟩
abbrev cX9_film : ByteArray := prog_11_method_57_code
def yX9_film : MethodName := ⟨RX9, "film", "(I)I"⟩
abbrev cX9_drives : ByteArray := prog_11_method_58_code
def yX9_drives : MethodName := ⟨RX9, "drives", "(I)I"⟩
abbrev cX9_drawn : ByteArray := prog_11_method_59_code
def yX9_drawn : MethodName := ⟨RX9, "drawn", "(I)I"⟩
abbrev cX9_chance : ByteArray := prog_11_method_60_code
def yX9_chance : MethodName := ⟨RX9, "chance", "(III)J"⟩
abbrev cX9_image : ByteArray := prog_11_method_61_code
def yX9_image : MethodName := ⟨RX9, "image", "()I"⟩
abbrev cX9_back : ByteArray := prog_11_method_62_code
def yX9_back : MethodName := ⟨RX9, "back", "()I"⟩
abbrev cX9_count : ByteArray := prog_11_method_63_code
def yX9_count : MethodName := ⟨RX9, "count", "(I)I"⟩
abbrev cX9_isSheet : ByteArray := prog_11_method_64_code
def yX9_isSheet : MethodName := ⟨RX9, "isSheet", "(I)Z"⟩
abbrev cX9_sheet : ByteArray := prog_11_method_65_code
def yX9_sheet : MethodName := ⟨RX9, "sheet", "(III)I"⟩
abbrev cX9_cell : ByteArray := prog_11_method_66_code
def yX9_cell : MethodName := ⟨RX9, "cell", "(III)I"⟩
abbrev cX9_copy : ByteArray := prog_11_method_67_code
def yX9_copy : MethodName := ⟨RX9, "copy", "(IIIII)I"⟩
abbrev cX9_cars : ByteArray := prog_11_method_68_code
def yX9_cars : MethodName := ⟨RX9, "cars", "(IIII)I"⟩
abbrev cX9_over : ByteArray := prog_11_method_69_code
def yX9_over : MethodName := ⟨RX9, "over", "(I)I"⟩
abbrev cX9_taken : ByteArray := prog_11_method_70_code
def yX9_taken : MethodName := ⟨RX9, "taken", "(II)I"⟩
def RJ11 : String := "java/lang/Character"
def TJ11 : u_T := fun k => match k with
  | _ => ("", "", "", false)
def tyJ11 : Nat → FieldType := fun k => match k with
  | _ => .int
abbrev wsJ110 : List Cond := u_ws RJ11 TJ11 0
theorem nmJ11 : ∀ a, a < 0 → ∀ b, b < 0 → a ≠ b → (TJ11 a).2.1 ≠ (TJ11 b).2.1 := by decide +kernel
theorem tyJ11_ok : ∀ k, k < 0 → parseFieldDescriptor (TJ11 k).2.2.1 = some (tyJ11 k) := by decide +kernel
abbrev cJ11_isValidCodePoint_9a6ad : ByteArray := prog_12_method_11_code
def yJ11_isValidCodePoint_9a6ad : MethodName := ⟨RJ11, "isValidCodePoint", "(I)Z"⟩
abbrev cJ11_highSurrogate_5068e : ByteArray := prog_12_method_28_code
def yJ11_highSurrogate_5068e : MethodName := ⟨RJ11, "highSurrogate", "(I)C"⟩
abbrev cJ11_lowSurrogate_5068e : ByteArray := prog_12_method_29_code
def yJ11_lowSurrogate_5068e : MethodName := ⟨RJ11, "lowSurrogate", "(I)C"⟩
def RJ9 : String := "java/lang/Math"
def TJ9 : u_T := fun k => match k with
  | _ => ("", "", "", false)
def tyJ9 : Nat → FieldType := fun k => match k with
  | _ => .int
abbrev wsJ90 : List Cond := u_ws RJ9 TJ9 0
theorem nmJ9 : ∀ a, a < 0 → ∀ b, b < 0 → a ≠ b → (TJ9 a).2.1 ≠ (TJ9 b).2.1 := by decide +kernel
theorem tyJ9_ok : ∀ k, k < 0 → parseFieldDescriptor (TJ9 k).2.2.1 = some (tyJ9 k) := by decide +kernel
abbrev cJ9_max_7cf53 : ByteArray := prog_13_method_65_code
def yJ9_max_7cf53 : MethodName := ⟨RJ9, "max", "(II)I"⟩
abbrev cJ9_min_7cf53 : ByteArray := prog_13_method_69_code
def yJ9_min_7cf53 : MethodName := ⟨RJ9, "min", "(II)I"⟩
def RJ0 : String := "java/lang/String"
def TJ0 : u_T := fun k => match k with
  | _ => ("", "", "", false)
def tyJ0 : Nat → FieldType := fun k => match k with
  | _ => .int
abbrev wsJ00 : List Cond := u_ws RJ0 TJ0 0
theorem nmJ0 : ∀ a, a < 0 → ∀ b, b < 0 → a ≠ b → (TJ0 a).2.1 ≠ (TJ0 b).2.1 := by decide +kernel
theorem tyJ0_ok : ∀ k, k < 0 → parseFieldDescriptor (TJ0 k).2.2.1 = some (tyJ0 k) := by decide +kernel
abbrev cJ0_length_8abf5 : ByteArray := prog_14_method_54_code
def yJ0_length_8abf5 : MethodName := ⟨RJ0, "length", "()I"⟩
abbrev cJ0_charAt_5068e : ByteArray := prog_14_method_56_code
def yJ0_charAt_5068e : MethodName := ⟨RJ0, "charAt", "(I)C"⟩
abbrev cJ0_indexOf_0f7a4 : ByteArray := prog_14_method_79_code
def yJ0_indexOf_0f7a4 : MethodName := ⟨RJ0, "indexOf", "(I)I"⟩
abbrev cJ0_indexOf_7cf53 : ByteArray := prog_14_method_80_code
def yJ0_indexOf_7cf53 : MethodName := ⟨RJ0, "indexOf", "(II)I"⟩
abbrev cJ0_coder_7d493 : ByteArray := prog_14_method_152_code
def yJ0_coder_7d493 : MethodName := ⟨RJ0, "coder", "()B"⟩
abbrev cJ0_isLatin1_aae02 : ByteArray := prog_14_method_154_code
def yJ0_isLatin1_aae02 : MethodName := ⟨RJ0, "isLatin1", "()Z"⟩
abbrev cJ0_checkIndex_df160 : ByteArray := prog_14_method_155_code
def yJ0_checkIndex_df160 : MethodName := ⟨RJ0, "checkIndex", "(II)V"⟩
abbrev cJ0_checkBoundsBeginEnd_23922 : ByteArray := prog_14_method_158_code
def yJ0_checkBoundsBeginEnd_23922 : MethodName := ⟨RJ0, "checkBoundsBeginEnd", "(III)V"⟩
def RJ1 : String := "java/lang/StringLatin1"
def TJ1 : u_T := fun k => match k with
  | _ => ("", "", "", false)
def tyJ1 : Nat → FieldType := fun k => match k with
  | _ => .int
abbrev wsJ10 : List Cond := u_ws RJ1 TJ1 0
theorem nmJ1 : ∀ a, a < 0 → ∀ b, b < 0 → a ≠ b → (TJ1 a).2.1 ≠ (TJ1 b).2.1 := by decide +kernel
theorem tyJ1_ok : ∀ k, k < 0 → parseFieldDescriptor (TJ1 k).2.2.1 = some (tyJ1 k) := by decide +kernel
abbrev cJ1_charAt_3b067 : ByteArray := prog_15_method_2_code
def yJ1_charAt_3b067 : MethodName := ⟨RJ1, "charAt", "([BI)C"⟩
abbrev cJ1_canEncode_9a6ad : ByteArray := prog_15_method_4_code
def yJ1_canEncode_9a6ad : MethodName := ⟨RJ1, "canEncode", "(I)Z"⟩
abbrev cJ1_indexOf_4cfef : ByteArray := prog_15_method_22_code
def yJ1_indexOf_4cfef : MethodName := ⟨RJ1, "indexOf", "([BIII)I"⟩
abbrev cJ1_indexOfChar_4cfef : ByteArray := prog_15_method_23_code
def yJ1_indexOfChar_4cfef : MethodName := ⟨RJ1, "indexOfChar", "([BIII)I"⟩
def RJ2 : String := "java/lang/StringUTF16"
def TJ2 : u_T := fun k => match k with
  | _ => ("", "", "", false)
def tyJ2 : Nat → FieldType := fun k => match k with
  | _ => .int
abbrev wsJ20 : List Cond := u_ws RJ2 TJ2 0
theorem nmJ2 : ∀ a, a < 0 → ∀ b, b < 0 → a ≠ b → (TJ2 a).2.1 ≠ (TJ2 b).2.1 := by decide +kernel
theorem tyJ2_ok : ∀ k, k < 0 → parseFieldDescriptor (TJ2 k).2.2.1 = some (tyJ2 k) := by decide +kernel
abbrev cJ2_getChar_3b067 : ByteArray := prog_16_method_5_code
def yJ2_getChar_3b067 : MethodName := ⟨RJ2, "getChar", "([BI)C"⟩
abbrev cJ2_length_9d52b : ByteArray := prog_16_method_6_code
def yJ2_length_9d52b : MethodName := ⟨RJ2, "length", "([B)I"⟩
abbrev cJ2_indexOf_4cfef : ByteArray := prog_16_method_40_code
def yJ2_indexOf_4cfef : MethodName := ⟨RJ2, "indexOf", "([BIII)I"⟩
abbrev cJ2_indexOfChar_4cfef : ByteArray := prog_16_method_47_code
def yJ2_indexOfChar_4cfef : MethodName := ⟨RJ2, "indexOfChar", "([BIII)I"⟩
abbrev cJ2_indexOfCharUnsafe_4cfef : ByteArray := prog_16_method_48_code
def yJ2_indexOfCharUnsafe_4cfef : MethodName := ⟨RJ2, "indexOfCharUnsafe", "([BIII)I"⟩
abbrev cJ2_indexOfSupplementary_4cfef : ByteArray := prog_16_method_49_code
def yJ2_indexOfSupplementary_4cfef : MethodName := ⟨RJ2, "indexOfSupplementary", "([BIII)I"⟩
abbrev cJ2_charAt_3b067 : ByteArray := prog_16_method_83_code
def yJ2_charAt_3b067 : MethodName := ⟨RJ2, "charAt", "([BI)C"⟩
abbrev cJ2_checkIndex_2214a : ByteArray := prog_16_method_91_code
def yJ2_checkIndex_2214a : MethodName := ⟨RJ2, "checkIndex", "(I[B)V"⟩
abbrev cJ2_checkBoundsBeginEnd_d044e : ByteArray := prog_16_method_93_code
def yJ2_checkBoundsBeginEnd_d044e : MethodName := ⟨RJ2, "checkBoundsBeginEnd", "(II[B)V"⟩
def RJ10 : String := "java/lang/System"
def TJ10 : u_T := fun k => match k with
  | _ => ("", "", "", false)
def tyJ10 : Nat → FieldType := fun k => match k with
  | _ => .int
abbrev wsJ100 : List Cond := u_ws RJ10 TJ10 0
theorem nmJ10 : ∀ a, a < 0 → ∀ b, b < 0 → a ≠ b → (TJ10 a).2.1 ≠ (TJ10 b).2.1 := by decide +kernel
theorem tyJ10_ok : ∀ k, k < 0 → parseFieldDescriptor (TJ10 k).2.2.1 = some (tyJ10 k) := by decide +kernel
def RJ3 : String := "jdk/internal/util/Preconditions"
def TJ3 : u_T := fun k => match k with
  | _ => ("", "", "", false)
def tyJ3 : Nat → FieldType := fun k => match k with
  | _ => .int
abbrev wsJ30 : List Cond := u_ws RJ3 TJ3 0
theorem nmJ3 : ∀ a, a < 0 → ∀ b, b < 0 → a ≠ b → (TJ3 a).2.1 ≠ (TJ3 b).2.1 := by decide +kernel
theorem tyJ3_ok : ∀ k, k < 0 → parseFieldDescriptor (TJ3 k).2.2.1 = some (tyJ3 k) := by decide +kernel
abbrev cJ3_checkIndex_8e157 : ByteArray := prog_18_method_11_code
def yJ3_checkIndex_8e157 : MethodName := ⟨RJ3, "checkIndex", "(IILjava/util/function/BiFunction;)I"⟩
abbrev cJ3_checkFromToIndex_8c36e : ByteArray := prog_18_method_12_code
def yJ3_checkFromToIndex_8c36e : MethodName := ⟨RJ3, "checkFromToIndex", "(IIILjava/util/function/BiFunction;)I"⟩
def RL : String := "OtherSidesPumpLaw"
abbrev cL_law : ByteArray := code
def yL_law : MethodName := ⟨RL, "law", "([I)Z"⟩
end
section
/-! THE PURE MACHINE: ints as Int, cells as (group, row), a store Nat -> Nat -> Nat -> Int; its steps are those of the bytecode -/
abbrev PV : Type := Int ⊕ ((Nat × Nat) ⊕ Int)
abbrev vi (x : Int) : PV := .inl x
abbrev vr (c j : Nat) : PV := .inr (.inl (c, j))
abbrev vl (x : Int) : PV := .inr (.inr x)
abbrev UU : PV := .inr (.inl (999, 0))
abbrev Sg : Type := Nat → Nat → Nat → Int
abbrev Cfg : Type := Nat × List PV × List PV × Sg
abbrev Md : Type := Nat × MethodName × ByteArray × Nat × Option FieldType
abbrev Out : Type := Cfg ⊕ ((Nat × Md × List PV × Cfg) ⊕ (Option PV × Sg))
abbrev Rs : Type := Option (Option PV × Sg)
def up (σ : Sg) (c j i : Nat) (v : Int) : Sg := fun c' j' i' => if c' = c ∧ j' = j ∧ i' = i then v else σ c' j' i'
def w32 (x : Int) : Int := (Int32.ofInt x).toInt
def w64 (x : Int) : Int := (Int64.ofInt x).toInt
def wdiv (a b : Int) : Int := (Int32.ofInt a / Int32.ofInt b).toInt
def wrem (a b : Int) : Int := (Int32.ofInt a - Int32.ofInt a / Int32.ofInt b * Int32.ofInt b).toInt
def wand (a b : Int) : Int := (Int32.ofInt a &&& Int32.ofInt b).toInt
def wor (a b : Int) : Int := (Int32.ofInt a ||| Int32.ofInt b).toInt
def wxor (a b : Int) : Int := (Int32.ofInt a ^^^ Int32.ofInt b).toInt
def wshl (a b : Int) : Int := (Int32.ofInt a <<< (Int32.ofInt b &&& 31)).toInt
def wshr (a b : Int) : Int := (Int32.ofInt a >>> (Int32.ofInt b &&& 31)).toInt
def wush (a b : Int) : Int := ((Int32.ofInt a).toUInt32 >>> ((Int32.ofInt b).toUInt32 &&& Int32.toUInt32 31)).toInt32.toInt
def wi2b (a : Int) : Int := (Int32.ofInt a).toInt8.toInt32.toInt
def wi2s (a : Int) : Int := (Int32.ofInt a).toInt16.toInt32.toInt
def wi2c (a : Int) : Int := ((Int32.ofInt a).toUInt32 % 65536).toInt32.toInt
def wl2i (a : Int) : Int := (Int64.ofInt a).toInt32.toInt
def wldiv (a b : Int) : Int := (Int64.ofInt a / Int64.ofInt b).toInt
def wlrem (a b : Int) : Int := (Int64.ofInt a - Int64.ofInt a / Int64.ofInt b * Int64.ofInt b).toInt
def wlcmp (a b : Int) : Int := if b < a then 1 else if a = b then 0 else -1
abbrev inb (i : Int) (n : Nat) : Prop := 0 ≤ i ∧ i < (n : Int)
def kdT : List Nat := [18, 11, 2, 0, 15, 2, 0, 2, 0, 0, 0, 14, 0, 17, 0, 0, 0, 0, 0, 0, 0, 10, 2, 0, 0, 0, 12, 2, 0, 3, 16, 0, 19, 0, 0, 0, 0, 0, 0, 0, 0, 0, 0, 0, 0, 0, 0, 0, 1, 0, 0, 0, 0, 0, 0, 30, 30, 30, 4, 4, 4, 9]
def lnT : List Nat := [0, 0, 6, 6, 0, 6, 160, 6, 3, 160, 6, 0, 160, 0, 4, 6, 6, 6, 6, 6, 6, 0, 4, 64, 4, 6, 0, 5, 6, 4, 0, 40, 0, 960, 6, 160, 6, 30, 6, 6, 6, 6, 800, 800, 256, 4, 6, 30, 4, 4, 4, 160, 6, 7, 6, 0, 0, 0, 32, 65, 8, 0]
def rwT : List Nat := [1, 1, 1, 6, 1, 1, 6, 1, 6, 1, 1, 1, 1, 1, 1, 1, 1, 1, 1, 1, 1, 1, 1, 4, 1, 1, 1, 1, 5, 1, 4, 4, 1, 1, 1, 1, 1, 1, 1, 1, 1, 1, 1, 1, 1, 1, 1, 1, 1, 1, 1, 1, 1, 1, 1, 1, 1, 1, 1, 1, 1, 1]
def rfT : List (List Nat) := [[1, 4, 11, 13, 21, 29, 26], [2, 99], [3], [], [5, 7, 9, 10, 99, 99, 99], [6], [], [8], [], [], [], [4, 12, 99, 99, 99, 99, 99], [], [1, 4, 14, 15, 16, 17, 18, 19, 20, 99, 99, 99, 99, 99, 99], [], [], [], [], [], [], [], [1, 13, 22, 24, 25, 99, 99], [23], [], [], [], [27, 99, 99], [28], [], [30], [31, 99, 99], [], [99, 33, 34, 99, 99, 35, 99, 36, 37, 99, 99, 99, 99, 99, 99, 99, 99, 99, 99, 99, 99, 99, 99, 99, 99, 99, 38, 39, 40, 41, 42, 43, 44, 45, 99, 99, 46, 47, 99, 99, 48, 49, 50, 51], [], [], [], [], [], [], [], [], [], [], [], [], [], [], [], [], [], [], [], [], [], [], [58], [59], [60], [], [], [], []]
def kd (c : Nat) : Nat := kdT.getD c 9
def ln (c : Nat) : Nat := lnT.getD c 0
def rw_ (c : Nat) : Nat := rwT.getD c 0
def rf (c k : Nat) : Nat := (rfT.getD c []).getD k 99
def svT : List (List Int) := [[9, 1, 3, 99, 9, 5], [-1, 5, 0, 2, 4, 3, 3], [-1, 0, 0, 1, 2, 0], [], [], [], [116, 97, 107, 101, 115, 32, 52, 32, 59, 32, 102, 111, 114, 119, 97, 114, 100, 115, 32, 49, 32, 59, 32, 109, 105, 110, 100, 115, 32, 49, 32, 59], [99, 97, 112, 32, 108, 97, 110, 101, 32, 109, 105, 110, 117, 116, 101, 32, 110, 117, 109, 98, 101, 114, 32, 97, 104, 101, 97, 100, 32, 112, 105, 101, 32, 116, 97, 107, 101, 115, 32, 102, 111, 114, 119, 97, 114, 100, 115, 32, 109, 105, 110, 100, 115, 32, 111, 114, 32, 97, 110, 100, 32, 110, 111, 116, 32], [40, 41, 59, 43, 45, 42, 60, 61], []]
/-- what a static cell holds -/
def sv (c i : Nat) : Int := (svT.getD (c - 52) []).getD i 0
def rd (σ : Sg) (c j i : Nat) : Int := match Nat.blt c 52 with | true => σ c j i | false => sv c i
def fkT : List (List Nat) := [[3, 3, 3, 3, 3, 0, 0], [3, 0], [3, 0, 0], [], [3, 3, 0, 0, 0, 0, 0], [3, 3, 3, 3, 0, 0, 0], [3, 0, 0], [3, 3, 3, 3, 3, 3, 3, 3, 3, 0, 0, 0, 0, 0, 2], [3, 3, 3, 3, 3, 3, 3], [0, 3, 3, 0, 0, 3, 0, 3, 3, 0, 0, 0, 0, 0, 0, 0, 0, 0, 0, 0, 0, 1, 0, 2, 0, 2, 3, 3, 3, 3, 3, 3, 3, 3, 0, 0, 3, 3, 0, 0, 3, 3, 3, 3], [], [], [], [], [], [], [], [], [], [], [3, 0]]
def fk (ci k : Nat) : Nat := (fkT.getD ci []).getD k 9
def ftlT : Nat → List (Nat × (Nat × Nat)) := fun o => match o with
  | 0 => [(11, (0, 2)), (16, (0, 3)), (20, (0, 4)), (23, (0, 0)), (27, (0, 1)), (31, (0, 5)), (35, (0, 6))]
  | 1 => [(11, (1, 0)), (16, (1, 1))]
  | 2 => [(11, (2, 0)), (16, (2, 1)), (30, (2, 2))]
  | 4 => [(9, (4, 1)), (15, (4, 0)), (19, (4, 2)), (37, (4, 3)), (51, (4, 5)), (54, (4, 4)), (88, (4, 6))]
  | 5 => [(11, (5, 0)), (16, (5, 1)), (19, (5, 2)), (23, (5, 3)), (26, (5, 4)), (30, (5, 5)), (37, (5, 6))]
  | 6 => [(9, (6, 0)), (15, (6, 1)), (19, (6, 2))]
  | 7 => [(9, (7, 2)), (15, (7, 3)), (18, (7, 4)), (21, (7, 5)), (24, (7, 6)), (27, (7, 7)), (30, (7, 8)), (33, (7, 0)), (37, (7, 1)), (59, (7, 14)), (63, (7, 13)), (70, (7, 11)), (73, (7, 12)), (86, (7, 10)), (89, (7, 9))]
  | 8 => [(10, (8, 0)), (19, (8, 1)), (28, (8, 2)), (37, (8, 3)), (46, (8, 4)), (53, (8, 6)), (59, (8, 5))]
  | 9 => [(13, (9, 1)), (17, (9, 2)), (20, (9, 5)), (23, (9, 7)), (26, (9, 8)), (29, (9, 26)), (32, (9, 27)), (35, (9, 28)), (38, (9, 29)), (41, (9, 30)), (44, (9, 31)), (47, (9, 32)), (50, (9, 33)), (53, (9, 36)), (56, (9, 37)), (59, (9, 38)), (62, (9, 40)), (66, (9, 41)), (69, (9, 42)), (72, (9, 43)), (79, (9, 3)), (82, (9, 9)), (99, (9, 4)), (131, (9, 6)), (134, (9, 17)), (137, (9, 16)), (140, (9, 18)), (146, (9, 20)), (149, (9, 19)), (160, (9, 21)), (164, (9, 23)), (168, (9, 24)), (174, (9, 22)), (187, (9, 10)), (190, (9, 11)), (193, (9, 12)), (196, (9, 13)), (199, (9, 14)), (202, (9, 15)), (250, (9, 25)), (287, (9, 34)), (290, (9, 35)), (319, (9, 39))]
  | 20 => [(9, (20, 0)), (15, (20, 1))]
  | _ => []
def ftl (o i : Nat) : Option ((Nat × Nat)) := (ftlT o).lookup i
def gtlT : Nat → List (Nat × PV) := fun o => match o with
  | 0 => [(73, vr 52 0)]
  | 1 => [(36, vr 52 0)]
  | 3 => [(11, vr 54 0)]
  | 8 => [(81, vr 52 0), (246, vr 53 0)]
  | 20 => [(38, vi 1), (1053, vr 61 0)]
  | _ => []
def gtl (o i : Nat) : Option (PV) := (gtlT o).lookup i
def lclT : Nat → List (Nat × Int) := fun o => match o with
  | 7 => [(58, 1103515245)]
  | 9 => [(311, 1103515245)]
  | 22 => [(227, 65536)]
  | 31 => [(76, 56320), (110, 55232)]
  | _ => []
def lcl (o i : Nat) : Option (Int) := (lclT o).lookup i
def lllT : Nat → List (Nat × Int) := fun o => match o with
  | 8 => [(210, -4611686018427387904)]
  | 9 => [(89, 4), (102, 5), (104, 9), (106, 3), (108, 10), (129, 255), (152, 97), (154, 122), (156, 48), (158, 57), (225, 43), (233, 60), (276, 199), (299, 69), (315, 20), (317, -4611686018427387904), (322, -1), (324, 2), (326, 6)]
  | _ => []
def lll (o i : Nat) : Option (Int) := (lllT o).lookup i
def lslT : Nat → List (Nat × Nat) := fun o => match o with
  | 4 => [(109, 57), (115, 56)]
  | 8 => [(64, 55)]
  | _ => []
def lsl (o i : Nat) : Option (Nat) := (lslT o).lookup i
def mX0_answer : Md := (0, yX0_answer, cX0_answer, 2, (some .int))
def mX0_seekLane : Md := (0, yX0_seekLane, cX0_seekLane, 5, none)
def mX0_seekLanes : Md := (0, yX0_seekLanes, cX0_seekLanes, 4, none)
def mX0_seekMinute : Md := (0, yX0_seekMinute, cX0_seekMinute, 5, none)
def mX0_seekBlame : Md := (0, yX0_seekBlame, cX0_seekBlame, 4, none)
def mX0_commonDivisor : Md := (0, yX0_commonDivisor, cX0_commonDivisor, 6, (some .int))
def mX0_fillLaneBadness : Md := (0, yX0_fillLaneBadness, cX0_fillLaneBadness, 3, none)
def mX0_badnessOfWay : Md := (0, yX0_badnessOfWay, cX0_badnessOfWay, 4, (some .int))
def mX0_laneInWay : Md := (0, yX0_laneInWay, cX0_laneInWay, 3, (some .int))
def mX0_digits : Md := (0, yX0_digits, cX0_digits, 4, (some .int))
def mX1_size : Md := (1, yX1_size, cX1_size, 1, (some .int))
def mX1_has : Md := (1, yX1_has, cX1_has, 2, (some .boolean))
def mX1_tell : Md := (1, yX1_tell, cX1_tell, 3, (some .int))
def mX1_put : Md := (1, yX1_put, cX1_put, 5, (some .int))
def mX1_welcome : Md := (1, yX1_welcome, cX1_welcome, 5, (some .int))
def mX1_sendAwayFrom : Md := (1, yX1_sendAwayFrom, cX1_sendAwayFrom, 2, none)
def mX1_isOne : Md := (1, yX1_isOne, cX1_isOne, 2, (some .boolean))
def mX2_isTaken : Md := (2, yX2_isTaken, cX2_isTaken, 1, (some .boolean))
def mX2_take : Md := (2, yX2_take, cX2_take, 5, none)
def mX2_layBack : Md := (2, yX2_layBack, cX2_layBack, 5, none)
def mX3_minutes : Md := (3, yX3_minutes, cX3_minutes, 3, (some .int))
def mX3_fits : Md := (3, yX3_fits, cX3_fits, 3, (some .boolean))
def mX3_drawsForward : Md := (3, yX3_drawsForward, cX3_drawsForward, 3, (some .boolean))
def mX3_isLong : Md := (3, yX3_isLong, cX3_isLong, 1, (some .boolean))
def mX3_isUnder : Md := (3, yX3_isUnder, cX3_isUnder, 4, (some .boolean))
def mX4_size : Md := (4, yX4_size, cX4_size, 1, (some .int))
def mX4_empty : Md := (4, yX4_empty, cX4_empty, 1, none)
def mX4_add : Md := (4, yX4_add, cX4_add, 2, (some .boolean))
def mX4_lay : Md := (4, yX4_lay, cX4_lay, 3, none)
def mX4_readText : Md := (4, yX4_readText, cX4_readText, 2, (some .int))
def mX4_readPart : Md := (4, yX4_readPart, cX4_readPart, 2, (some .boolean))
def mX4_readOr : Md := (4, yX4_readOr, cX4_readOr, 3, (some .boolean))
def mX4_readAnd : Md := (4, yX4_readAnd, cX4_readAnd, 3, (some .boolean))
def mX4_readNot : Md := (4, yX4_readNot, cX4_readNot, 2, (some .boolean))
def mX4_readComparison : Md := (4, yX4_readComparison, cX4_readComparison, 3, (some .boolean))
def mX4_readSum : Md := (4, yX4_readSum, cX4_readSum, 4, (some .boolean))
def mX4_readTerm : Md := (4, yX4_readTerm, cX4_readTerm, 3, (some .boolean))
def mX4_readOne : Md := (4, yX4_readOne, cX4_readOne, 3, (some .boolean))
def mX4_readNegated : Md := (4, yX4_readNegated, cX4_readNegated, 2, (some .boolean))
def mX4_readEnclosed : Md := (4, yX4_readEnclosed, cX4_readEnclosed, 2, (some .boolean))
def mX4_step : Md := (4, yX4_step, cX4_step, 1, none)
def mX4_stepWord : Md := (4, yX4_stepWord, cX4_stepWord, 4, none)
def mX4_isSpelled : Md := (4, yX4_isSpelled, cX4_isSpelled, 4, (some .boolean))
def mX4_stepNumeral : Md := (4, yX4_stepNumeral, cX4_stepNumeral, 1, none)
def mX4_isLetter : Md := (4, yX4_isLetter, cX4_isLetter, 2, (some .boolean))
def mX4_isDigit : Md := (4, yX4_isDigit, cX4_isDigit, 2, (some .boolean))
def mX5_size : Md := (5, yX5_size, cX5_size, 1, (some .int))
def mX5_isFull : Md := (5, yX5_isFull, cX5_isFull, 1, (some .boolean))
def mX5_has : Md := (5, yX5_has, cX5_has, 2, (some .boolean))
def mX5_chosen : Md := (5, yX5_chosen, cX5_chosen, 1, (some .int))
def mX5_choose : Md := (5, yX5_choose, cX5_choose, 3, (some .int))
def mX5_beginText : Md := (5, yX5_beginText, cX5_beginText, 1, none)
def mX5_beginPart : Md := (5, yX5_beginPart, cX5_beginPart, 2, none)
def mX5_write : Md := (5, yX5_write, cX5_write, 2, none)
def mX5_endText : Md := (5, yX5_endText, cX5_endText, 1, none)
def mX5_ask : Md := (5, yX5_ask, cX5_ask, 12, (some .int))
def mX5_joined : Md := (5, yX5_joined, cX5_joined, 3, (some .int))
def mX6_size : Md := (6, yX6_size, cX6_size, 1, (some .int))
def mX6_sort : Md := (6, yX6_sort, cX6_sort, 1, (some .int))
def mX6_isMissing : Md := (6, yX6_isMissing, cX6_isMissing, 1, (some .boolean))
def mX6_become : Md := (6, yX6_become, cX6_become, 4, none)
def mX6_hasRun : Md := (6, yX6_hasRun, cX6_hasRun, 3, (some .boolean))
def mX6_item : Md := (6, yX6_item, cX6_item, 2, (some .int))
def mX6_put : Md := (6, yX6_put, cX6_put, 3, (some .boolean))
def mX6_putRun : Md := (6, yX6_putRun, cX6_putRun, 5, none)
def mX6_narrow : Md := (6, yX6_narrow, cX6_narrow, 2, (some .int))
def mX7_spread : Md := (7, yX7_spread, cX7_spread, 2, none)
def mX7_spreadBySeed : Md := (7, yX7_spreadBySeed, cX7_spreadBySeed, 4, none)
def mX7_leaveOut : Md := (7, yX7_leaveOut, cX7_leaveOut, 3, none)
def mX7_sendAllForward : Md := (7, yX7_sendAllForward, cX7_sendAllForward, 2, none)
def mX7_playAll : Md := (7, yX7_playAll, cX7_playAll, 3, (some .int))
def mX7_playLane : Md := (7, yX7_playLane, cX7_playLane, 4, (some .int))
def mX7_starts : Md := (7, yX7_starts, cX7_starts, 2, (some .int))
def mX7_off : Md := (7, yX7_off, cX7_off, 2, (some .int))
def mX7_place : Md := (7, yX7_place, cX7_place, 2, (some .int))
def mX7_waited : Md := (7, yX7_waited, cX7_waited, 3, (some .int))
def mX7_share : Md := (7, yX7_share, cX7_share, 2, (some .int))
def mX7_inVain : Md := (7, yX7_inVain, cX7_inVain, 1, (some .int))
def mX7_whoIsAt : Md := (7, yX7_whoIsAt, cX7_whoIsAt, 7, (some .int))
def mX7_lastOff : Md := (7, yX7_lastOff, cX7_lastOff, 3, (some .int))
def mX7_outOfOrder : Md := (7, yX7_outOfOrder, cX7_outOfOrder, 6, (some .int))
def mX7_otherwise : Md := (7, yX7_otherwise, cX7_otherwise, 4, (some .int))
def mX7_fits : Md := (7, yX7_fits, cX7_fits, 3, (some .boolean))
def mX7_drawsForward : Md := (7, yX7_drawsForward, cX7_drawsForward, 5, (some .boolean))
def mX7_takes : Md := (7, yX7_takes, cX7_takes, 7, (some .int))
def mX7_minds : Md := (7, yX7_minds, cX7_minds, 3, (some .int))
def mX7_clearLanes : Md := (7, yX7_clearLanes, cX7_clearLanes, 2, none)
def mX7_join : Md := (7, yX7_join, cX7_join, 3, none)
def mX7_comesBefore : Md := (7, yX7_comesBefore, cX7_comesBefore, 5, (some .boolean))
def mX7_lineUp : Md := (7, yX7_lineUp, cX7_lineUp, 5, none)
def mX7_leave : Md := (7, yX7_leave, cX7_leave, 2, none)
def mX7_driveUp : Md := (7, yX7_driveUp, cX7_driveUp, 6, none)
def mX7_badness : Md := (7, yX7_badness, cX7_badness, 5, (some .int))
def mX7_within : Md := (7, yX7_within, cX7_within, 2, (some .int))
def mX8_set : Md := (8, yX8_set, cX8_set, 4, (some .int))
def mX8_car : Md := (8, yX8_car, cX8_car, 4, (some .int))
def mX8_told : Md := (8, yX8_told, cX8_told, 5, (some .int))
def mX8_feed : Md := (8, yX8_feed, cX8_feed, 2, (some .int))
def mX8_text : Md := (8, yX8_text, cX8_text, 2, (some .int))
def mX8_force : Md := (8, yX8_force, cX8_force, 2, (some .int))
def mX8_times : Md := (8, yX8_times, cX8_times, 3, (some .int))
def mX8_pump : Md := (8, yX8_pump, cX8_pump, 4, (some .int))
def mX8_all : Md := (8, yX8_all, cX8_all, 3, (some .int))
def mX8_lane : Md := (8, yX8_lane, cX8_lane, 3, (some .int))
def mX8_lanes : Md := (8, yX8_lanes, cX8_lanes, 2, (some .int))
def mX8_when : Md := (8, yX8_when, cX8_when, 3, (some .int))
def mX8_forward : Md := (8, yX8_forward, cX8_forward, 3, (some .int))
def mX8_blame : Md := (8, yX8_blame, cX8_blame, 2, (some .int))
def mX8_tells : Md := (8, yX8_tells, cX8_tells, 6, (some .int))
def mX8_film : Md := (8, yX8_film, cX8_film, 4, (some .int))
def mX8_drawn : Md := (8, yX8_drawn, cX8_drawn, 2, (some .int))
def mX8_chance : Md := (8, yX8_chance, cX8_chance, 7, (some .long))
def mX8_image : Md := (8, yX8_image, cX8_image, 1, (some .int))
def mX8_back : Md := (8, yX8_back, cX8_back, 1, (some .int))
def mX8_count : Md := (8, yX8_count, cX8_count, 2, (some .int))
def mX8_sheet : Md := (8, yX8_sheet, cX8_sheet, 4, (some .int))
def mX8_cell : Md := (8, yX8_cell, cX8_cell, 5, (some .int))
def mX8_copy : Md := (8, yX8_copy, cX8_copy, 8, (some .int))
def mX8_cars : Md := (8, yX8_cars, cX8_cars, 9, (some .int))
def mX8_taken : Md := (8, yX8_taken, cX8_taken, 3, (some .int))
def mX8_isSheet : Md := (8, yX8_isSheet, cX8_isSheet, 1, (some .boolean))
def mX8_otherwiseNow : Md := (8, yX8_otherwiseNow, cX8_otherwiseNow, 2, (some .int))
def mX8_likelyTexts : Md := (8, yX8_likelyTexts, cX8_likelyTexts, 5, (some .int))
def mX8_likely : Md := (8, yX8_likely, cX8_likely, 10, (some .int))
def mX9_in : Md := (9, yX9_in, cX9_in, 6, (some .boolean))
def mX9_within : Md := (9, yX9_within, cX9_within, 3, (some .int))
def mX9_spell : Md := (9, yX9_spell, cX9_spell, 10, none)
def mX9_isCar : Md := (9, yX9_isCar, cX9_isCar, 2, (some .boolean))
def mX9_mostOf : Md := (9, yX9_mostOf, cX9_mostOf, 1, (some .int))
def mX9_set : Md := (9, yX9_set, cX9_set, 5, (some .int))
def mX9_lays : Md := (9, yX9_lays, cX9_lays, 4, none)
def mX9_car : Md := (9, yX9_car, cX9_car, 5, (some .int))
def mX9_told : Md := (9, yX9_told, cX9_told, 5, (some .int))
def mX9_feed : Md := (9, yX9_feed, cX9_feed, 2, (some .int))
def mX9_byteAt : Md := (9, yX9_byteAt, cX9_byteAt, 2, (some .int))
def mX9_next : Md := (9, yX9_next, cX9_next, 3, none)
def mX9_fail : Md := (9, yX9_fail, cX9_fail, 1, none)
def mX9_isLetter : Md := (9, yX9_isLetter, cX9_isLetter, 3, (some .boolean))
def mX9_isWord : Md := (9, yX9_isWord, cX9_isWord, 9, (some .boolean))
def mX9_isSign : Md := (9, yX9_isSign, cX9_isSign, 2, (some .boolean))
def mX9_opens : Md := (9, yX9_opens, cX9_opens, 1, (some .boolean))
def mX9_name : Md := (9, yX9_name, cX9_name, 1, (some .int))
def mX9_atom : Md := (9, yX9_atom, cX9_atom, 2, (some .int))
def mX9_term : Md := (9, yX9_term, cX9_term, 2, (some .int))
def mX9_added : Md := (9, yX9_added, cX9_added, 4, (some .int))
def mX9_not : Md := (9, yX9_not, cX9_not, 4, (some .int))
def mX9_both : Md := (9, yX9_both, cX9_both, 3, (some .int))
def mX9_either : Md := (9, yX9_either, cX9_either, 3, (some .int))
def mX9_part : Md := (9, yX9_part, cX9_part, 3, (some .int))
def mX9_read : Md := (9, yX9_read, cX9_read, 6, (some .int))
def mX9_text : Md := (9, yX9_text, cX9_text, 2, (some .int))
def mX9_force : Md := (9, yX9_force, cX9_force, 3, (some .int))
def mX9_asks : Md := (9, yX9_asks, cX9_asks, 7, (some .int))
def mX9_fits : Md := (9, yX9_fits, cX9_fits, 4, (some .boolean))
def mX9_isLong : Md := (9, yX9_isLong, cX9_isLong, 2, (some .boolean))
def mX9_draws : Md := (9, yX9_draws, cX9_draws, 6, (some .boolean))
def mX9_takesOf : Md := (9, yX9_takesOf, cX9_takesOf, 8, (some .int))
def mX9_nextOf : Md := (9, yX9_nextOf, cX9_nextOf, 6, (some .int))
def mX9_begins : Md := (9, yX9_begins, cX9_begins, 6, none)
def mX9_goes : Md := (9, yX9_goes, cX9_goes, 8, none)
def mX9_setOf : Md := (9, yX9_setOf, cX9_setOf, 4, (some .int))
def mX9_goesAll : Md := (9, yX9_goesAll, cX9_goesAll, 2, none)
def mX9_waitedOf : Md := (9, yX9_waitedOf, cX9_waitedOf, 2, (some .int))
def mX9_badOf : Md := (9, yX9_badOf, cX9_badOf, 3, (some .int))
def mX9_badness : Md := (9, yX9_badness, cX9_badness, 3, (some .int))
def mX9_times : Md := (9, yX9_times, cX9_times, 3, (some .int))
def mX9_pump : Md := (9, yX9_pump, cX9_pump, 4, (some .int))
def mX9_lastOff : Md := (9, yX9_lastOff, cX9_lastOff, 3, (some .int))
def mX9_isAhead : Md := (9, yX9_isAhead, cX9_isAhead, 3, (some .boolean))
def mX9_all : Md := (9, yX9_all, cX9_all, 7, (some .int))
def mX9_lane : Md := (9, yX9_lane, cX9_lane, 7, (some .int))
def mX9_seeks : Md := (9, yX9_seeks, cX9_seeks, 5, none)
def mX9_lanes : Md := (9, yX9_lanes, cX9_lanes, 6, (some .int))
def mX9_when : Md := (9, yX9_when, cX9_when, 8, (some .int))
def mX9_forward : Md := (9, yX9_forward, cX9_forward, 3, (some .int))
def mX9_blame : Md := (9, yX9_blame, cX9_blame, 12, (some .int))
def mX9_unlike : Md := (9, yX9_unlike, cX9_unlike, 4, (some .int))
def mX9_tells : Md := (9, yX9_tells, cX9_tells, 11, (some .int))
def mX9_film : Md := (9, yX9_film, cX9_film, 3, (some .int))
def mX9_drives : Md := (9, yX9_drives, cX9_drives, 5, (some .int))
def mX9_drawn : Md := (9, yX9_drawn, cX9_drawn, 2, (some .int))
def mX9_chance : Md := (9, yX9_chance, cX9_chance, 13, (some .long))
def mX9_image : Md := (9, yX9_image, cX9_image, 2, (some .int))
def mX9_back : Md := (9, yX9_back, cX9_back, 2, (some .int))
def mX9_count : Md := (9, yX9_count, cX9_count, 2, (some .int))
def mX9_isSheet : Md := (9, yX9_isSheet, cX9_isSheet, 1, (some .boolean))
def mX9_sheet : Md := (9, yX9_sheet, cX9_sheet, 5, (some .int))
def mX9_cell : Md := (9, yX9_cell, cX9_cell, 4, (some .int))
def mX9_copy : Md := (9, yX9_copy, cX9_copy, 9, (some .int))
def mX9_cars : Md := (9, yX9_cars, cX9_cars, 8, (some .int))
def mX9_over : Md := (9, yX9_over, cX9_over, 1, (some .int))
def mX9_taken : Md := (9, yX9_taken, cX9_taken, 4, (some .int))
def mJ9_max_7cf53 : Md := (29, yJ9_max_7cf53, cJ9_max_7cf53, 2, (some .int))
def mJ9_min_7cf53 : Md := (29, yJ9_min_7cf53, cJ9_min_7cf53, 2, (some .int))
def mJ0_length_8abf5 : Md := (20, yJ0_length_8abf5, cJ0_length_8abf5, 1, (some .int))
def mJ0_charAt_5068e : Md := (20, yJ0_charAt_5068e, cJ0_charAt_5068e, 2, (some .char))
def mJ0_indexOf_0f7a4 : Md := (20, yJ0_indexOf_0f7a4, cJ0_indexOf_0f7a4, 2, (some .int))
def mJ0_indexOf_7cf53 : Md := (20, yJ0_indexOf_7cf53, cJ0_indexOf_7cf53, 3, (some .int))
def mJ0_coder_7d493 : Md := (20, yJ0_coder_7d493, cJ0_coder_7d493, 1, (some .byte))
def mJ0_isLatin1_aae02 : Md := (20, yJ0_isLatin1_aae02, cJ0_isLatin1_aae02, 1, (some .boolean))
def mJ0_checkIndex_df160 : Md := (20, yJ0_checkIndex_df160, cJ0_checkIndex_df160, 2, none)
def mJ0_checkBoundsBeginEnd_23922 : Md := (20, yJ0_checkBoundsBeginEnd_23922, cJ0_checkBoundsBeginEnd_23922, 3, none)
def mJ1_charAt_3b067 : Md := (21, yJ1_charAt_3b067, cJ1_charAt_3b067, 2, (some .char))
def mJ1_canEncode_9a6ad : Md := (21, yJ1_canEncode_9a6ad, cJ1_canEncode_9a6ad, 1, (some .boolean))
def mJ1_indexOf_4cfef : Md := (21, yJ1_indexOf_4cfef, cJ1_indexOf_4cfef, 4, (some .int))
def mJ1_indexOfChar_4cfef : Md := (21, yJ1_indexOfChar_4cfef, cJ1_indexOfChar_4cfef, 6, (some .int))
def mJ3_checkIndex_8e157 : Md := (23, yJ3_checkIndex_8e157, cJ3_checkIndex_8e157, 3, (some .int))
def mJ3_checkFromToIndex_8c36e : Md := (23, yJ3_checkFromToIndex_8c36e, cJ3_checkFromToIndex_8c36e, 4, (some .int))
def mtlT : Nat → List (Nat × (Nat × Nat × Nat × Md)) := fun o => match o with
  | 0 => [(38, (0, 1, 2, mX1_tell)), (44, (0, 1, 3, mX1_put)), (48, (0, 0, 0, mX7_spread)), (53, (0, 1, 0, mX7_playAll)), (57, (0, 1, 1, mX7_off)), (61, (0, 0, 0, mX0_fillLaneBadness)), (64, (0, 1, 0, mX1_size)), (67, (0, 1, 1, mX0_badnessOfWay)), (70, (0, 1, 1, mX0_digits)), (76, (0, 1, 1, mX7_waited)), (79, (0, 1, 1, mX7_share)), (82, (0, 0, 1, mX7_leaveOut)), (86, (0, 1, 2, mX7_playLane)), (89, (0, 1, 2, mX0_laneInWay))]
  | 1 => [(20, (0, 1, 2, mX1_tell)), (24, (0, 1, 1, mX1_has)), (28, (1, 1, 2, mX1_isOne)), (32, (0, 1, 3, mX1_put))]
  | 2 => [(20, (0, 1, 0, mX1_size)), (25, (0, 1, 0, mX5_chosen)), (33, (0, 1, 2, mX1_tell)), (37, (0, 0, 1, mX1_sendAwayFrom)), (41, (0, 1, 1, mX5_choose)), (45, (0, 1, 3, mX1_put))]
  | 4 => [(23, (0, 1, 0, mJ0_length_8abf5)), (29, (0, 1, 1, mJ0_charAt_5068e)), (33, (0, 1, 1, mX4_add)), (40, (0, 0, 0, mX5_beginText)), (45, (0, 0, 0, mX4_step)), (48, (0, 1, 1, mX4_readPart)), (57, (0, 0, 0, mX5_endText)), (60, (0, 0, 1, mX5_beginPart)), (64, (0, 1, 1, mX4_readOr)), (67, (0, 0, 1, mX5_write)), (70, (0, 1, 1, mX4_readAnd)), (73, (0, 1, 1, mX4_readNot)), (76, (0, 1, 1, mX4_readComparison)), (79, (0, 1, 1, mX4_readSum)), (82, (0, 1, 1, mX4_readTerm)), (85, (0, 1, 1, mX4_readOne)), (91, (0, 1, 1, mX4_readNegated)), (94, (0, 1, 1, mX4_readEnclosed)), (97, (0, 1, 1, mX4_isLetter)), (100, (0, 0, 0, mX4_stepWord)), (103, (0, 1, 1, mX4_isDigit)), (106, (0, 0, 0, mX4_stepNumeral)), (111, (0, 1, 1, mJ0_indexOf_0f7a4)), (117, (0, 1, 2, mX4_isSpelled))]
  | 5 => [(33, (0, 1, 1, mX5_has)), (40, (0, 1, 0, mX5_isFull)), (44, (0, 1, 2, mX1_tell)), (50, (1, 1, 3, mX5_joined))]
  | 6 => [(22, (1, 1, 2, mJ9_min_7cf53)), (28, (1, 1, 2, mJ9_max_7cf53)), (31, (0, 1, 1, mX6_narrow)), (35, (0, 1, 2, mX6_hasRun))]
  | 7 => [(41, (0, 0, 0, mX7_clearLanes)), (44, (0, 1, 0, mX1_size)), (50, (0, 1, 2, mX1_tell)), (54, (0, 0, 2, mX7_join)), (67, (0, 1, 2, mX7_playLane)), (76, (0, 0, 2, mX7_lineUp)), (79, (0, 0, 1, mX7_leave)), (83, (0, 0, 2, mX7_driveUp)), (92, (0, 1, 2, mX7_badness)), (95, (0, 1, 1, mX1_has)), (99, (0, 1, 1, mX7_starts)), (102, (1, 1, 2, mJ9_max_7cf53)), (107, (0, 1, 2, mX7_comesBefore)), (111, (0, 1, 1, mX6_item)), (116, (1, 1, 3, mX3_fits)), (122, (0, 1, 6, mX5_ask)), (128, (1, 1, 3, mX3_drawsForward)), (132, (1, 1, 2, mX7_within)), (135, (1, 1, 3, mX3_minutes)), (139, (0, 1, 2, mX7_fits)), (141, (1, 1, 1, mX3_isLong)), (144, (0, 1, 4, mX7_takes)), (148, (0, 1, 3, mX7_drawsForward)), (150, (0, 1, 2, mX7_minds)), (153, (0, 1, 1, mX7_waited)), (156, (1, 1, 2, mJ9_min_7cf53))]
  | 8 => [(66, (0, 0, 1, mX4_lay)), (70, (0, 1, 0, mX4_readText)), (74, (0, 0, 0, mX4_empty)), (77, (0, 1, 1, mX1_has)), (85, (0, 1, 3, mX1_put)), (89, (0, 1, 3, mX1_welcome)), (92, (0, 1, 2, mX1_tell)), (96, (0, 1, 2, mX7_fits)), (100, (1, 1, 1, mX3_isLong)), (105, (0, 1, 3, mX7_drawsForward)), (109, (0, 1, 4, mX7_takes)), (113, (0, 1, 2, mX7_minds)), (116, (0, 1, 1, mX4_add)), (119, (0, 1, 0, mX4_size)), (122, (0, 1, 0, mX5_isFull)), (126, (0, 1, 0, mX5_size)), (127, (0, 1, 1, mX5_has)), (128, (0, 1, 1, mX5_choose)), (132, (0, 0, 0, mX7_spread)), (135, (0, 1, 0, mX7_playAll)), (138, (0, 1, 1, mX7_starts)), (141, (0, 1, 1, mX7_off)), (144, (0, 1, 1, mX7_waited)), (147, (0, 1, 1, mX7_place)), (150, (0, 1, 3, mX7_whoIsAt)), (153, (0, 1, 0, mX7_inVain)), (156, (0, 1, 0, mX7_lastOff)), (159, (0, 1, 0, mX7_outOfOrder)), (162, (0, 0, 1, mX0_seekLane)), (166, (0, 1, 1, mX0_answer)), (169, (0, 0, 0, mX0_seekLanes)), (172, (0, 0, 1, mX0_seekMinute)), (175, (0, 0, 1, mX7_sendAllForward)), (179, (0, 0, 0, mX0_seekBlame)), (182, (1, 1, 1, mX8_isSheet)), (185, (0, 1, 0, mX6_isMissing)), (188, (0, 1, 0, mX6_size)), (189, (0, 1, 0, mX1_size)), (190, (0, 1, 3, mX8_likely)), (194, (0, 1, 1, mX8_otherwiseNow)), (198, (0, 1, 1, mX8_likelyTexts)), (201, (0, 0, 2, mX6_become)), (205, (0, 1, 2, mX6_put)), (207, (0, 0, 1, mX7_spreadBySeed)), (212, (1, 1, 2, mX0_commonDivisor)), (215, (0, 0, 2, mX2_take)), (218, (0, 1, 0, mX2_isTaken)), (221, (0, 0, 2, mX2_layBack)), (224, (0, 1, 0, mX5_chosen)), (227, (0, 1, 0, mX6_sort)), (230, (0, 1, 2, mX6_hasRun)), (233, (0, 0, 4, mX6_putRun)), (237, (0, 1, 1, mX6_item)), (240, (1, 1, 2, mX3_isUnder)), (243, (0, 1, 1, mX7_otherwise))]
  | 9 => [(75, (0, 0, 9, mX9_spell)), (85, (1, 1, 3, mX9_in)), (91, (0, 1, 1, mX9_isCar)), (95, (1, 1, 1, mX9_mostOf)), (110, (0, 1, 2, mX9_fits)), (114, (0, 1, 1, mX9_isLong)), (117, (0, 1, 4, mX9_draws)), (121, (0, 1, 4, mX9_takesOf)), (125, (0, 1, 5, mX9_asks)), (143, (0, 1, 1, mX9_byteAt)), (171, (0, 1, 2, mX9_isLetter)), (177, (0, 0, 0, mX9_fail)), (180, (0, 0, 0, mX9_next)), (183, (0, 1, 8, mX9_isWord)), (205, (0, 1, 1, mX9_isSign)), (208, (0, 1, 0, mX9_opens)), (212, (0, 1, 0, mX9_atom)), (216, (0, 1, 0, mX9_either)), (219, (0, 1, 0, mX9_name)), (222, (0, 1, 0, mX9_term)), (227, (0, 1, 0, mX9_not)), (230, (0, 1, 0, mX9_added)), (235, (0, 1, 0, mX9_both)), (238, (0, 1, 1, mX9_part)), (242, (0, 1, 2, mX9_read)), (246, (1, 1, 3, mX9_within)), (253, (0, 1, 3, mX9_nextOf)), (256, (0, 0, 5, mX9_begins)), (260, (0, 1, 1, mX9_setOf)), (263, (0, 0, 2, mX9_goes)), (267, (0, 1, 1, mX9_waitedOf)), (270, (0, 0, 0, mX9_goesAll)), (273, (0, 1, 2, mX9_badOf)), (278, (0, 1, 0, mX9_badness)), (281, (0, 1, 0, mX9_lastOff)), (284, (0, 1, 2, mX9_isAhead)), (293, (0, 0, 2, mX9_seeks)), (296, (1, 1, 1, mX9_isSheet)), (301, (0, 1, 1, mX9_unlike)), (304, (0, 0, 3, mX9_lays)), (308, (0, 1, 3, mX9_sheet)), (312, (0, 1, 1, mX9_drives)), (328, (0, 1, 3, mX9_car)), (331, (1, 1, 1, mX9_over))]
  | 20 => [(335, (0, 1, 0, mJ0_coder_7d493)), (492, (0, 1, 0, mJ0_isLatin1_aae02)), (495, (1, 1, 2, mJ1_charAt_3b067)), (505, (0, 1, 0, mJ0_length_8abf5)), (633, (0, 1, 2, mJ0_indexOf_7cf53)), (637, (1, 1, 4, mJ1_indexOf_4cfef)), (1059, (1, 1, 3, mJ3_checkIndex_8e157)), (1062, (1, 1, 4, mJ3_checkFromToIndex_8c36e))]
  | 21 => [(9, (1, 0, 2, mJ0_checkIndex_df160)), (38, (1, 1, 2, mJ9_min_7cf53)), (88, (1, 1, 1, mJ1_canEncode_9a6ad)), (92, (1, 1, 2, mJ9_max_7cf53)), (95, (1, 1, 4, mJ1_indexOfChar_4cfef))]
  | 22 => [(183, (1, 1, 2, mJ9_min_7cf53)), (224, (1, 1, 2, mJ9_max_7cf53)), (241, (1, 0, 3, mJ0_checkBoundsBeginEnd_23922)), (414, (1, 0, 2, mJ0_checkIndex_df160))]
  | _ => []
def mtl (o i : Nat) : Option ((Nat × Nat × Nat × Md)) := (mtlT o).lookup i
def aclT : Nat → List (Nat × Nat) := fun o => match o with
  | 6 => [(39, 0)]
  | _ => []
def acl (o i : Nat) : Option (Nat) := (aclT o).lookup i
def jmp (pc : Nat) (off : Int) : Option Nat := match (pc : Int) + off with | .ofNat t => some t | .negSucc _ => none
def setL (ls : List PV) (i : Nat) (v : PV) : List PV := match i with
  | 0 => ls.set 0 v
  | k + 1 => match ls[k]? with
    | some (.inr (.inr _)) => (ls.set k UU).set (k + 1) v
    | _ => ls.set (k + 1) v
def cst (n : Int) : Bool := match n with | .ofNat k => Nat.blt k 32768 | .negSucc k => Nat.blt k 32768
def sPush (v : PV) (len : Nat) (c : Cfg) : Option Out := some (.inl (c.1 + len, c.2.1, v :: c.2.2.1, c.2.2.2))
def sIcon (n : Int) (len : Nat) (c : Cfg) : Option Out := match cst n with | true => sPush (.inl n) len c | false => none
def sIload (k len : Nat) (c : Cfg) : Option Out := match c.2.1[k]? with | some (.inl x) => sPush (.inl x) len c | _ => none
def sLload (k len : Nat) (c : Cfg) : Option Out := match c.2.1[k]? with | some (.inr (.inr x)) => sPush (.inr (.inr x)) len c | _ => none
def sAload (k len : Nat) (c : Cfg) : Option Out := match c.2.1[k]? with | some (.inr (.inl x)) => (match Nat.blt x.1 61 with | true => sPush (.inr (.inl x)) len c | false => none) | _ => none
def sIstore (k len : Nat) : Cfg → Option Out
  | (pc, ls, .inl x :: st, σ) => (match Nat.blt k ls.length with | true => some (.inl (pc + len, setL ls k (.inl x), st, σ)) | false => none)
  | _ => none
def sAstore (k len : Nat) : Cfg → Option Out
  | (pc, ls, .inr (.inl x) :: st, σ) => (match Nat.blt x.1 61, Nat.blt k ls.length with | true, true => some (.inl (pc + len, setL ls k (.inr (.inl x)), st, σ)) | _, _ => none)
  | _ => none
def sLstore (k len : Nat) : Cfg → Option Out
  | (pc, ls, .inr (.inr x) :: st, σ) => (match Nat.blt (k + 1) ls.length with | true => some (.inl (pc + len, (setL ls k (.inr (.inr x))).set (k + 1) UU, st, σ)) | false => none)
  | _ => none
def sIinc (k : Nat) (n : Int) (c : Cfg) : Option Out := match c.2.1[k]?, cst n with
  | some (.inl x), true => some (.inl (c.1 + 3, setL c.2.1 k (.inl (w32 (x + n))), c.2.2.1, c.2.2.2))
  | _, _ => none
def sBin (f : Int → Int → Int) : Cfg → Option Out
  | (pc, ls, .inl b :: .inl a :: st, σ) => some (.inl (pc + 1, ls, .inl (f a b) :: st, σ))
  | _ => none
def sDiv (f : Int → Int → Int) : Cfg → Option Out
  | (pc, ls, .inl b :: .inl a :: st, σ) => if b = 0 then none else some (.inl (pc + 1, ls, .inl (f a b) :: st, σ))
  | _ => none
def sUn (f : Int → Int) : Cfg → Option Out
  | (pc, ls, .inl a :: st, σ) => some (.inl (pc + 1, ls, .inl (f a) :: st, σ))
  | _ => none
def sLbin (f : Int → Int → Int) : Cfg → Option Out
  | (pc, ls, .inr (.inr b) :: .inr (.inr a) :: st, σ) => some (.inl (pc + 1, ls, .inr (.inr (f a b)) :: st, σ))
  | _ => none
def sLdiv (f : Int → Int → Int) : Cfg → Option Out
  | (pc, ls, .inr (.inr b) :: .inr (.inr a) :: st, σ) => if b = 0 then none else some (.inl (pc + 1, ls, .inr (.inr (f a b)) :: st, σ))
  | _ => none
def sLcmp : Cfg → Option Out
  | (pc, ls, .inr (.inr b) :: .inr (.inr a) :: st, σ) => some (.inl (pc + 1, ls, .inl (wlcmp a b) :: st, σ))
  | _ => none
def sI2l : Cfg → Option Out
  | (pc, ls, .inl a :: st, σ) => some (.inl (pc + 1, ls, .inr (.inr a) :: st, σ))
  | _ => none
def sL2i : Cfg → Option Out
  | (pc, ls, .inr (.inr a) :: st, σ) => some (.inl (pc + 1, ls, .inl (wl2i a) :: st, σ))
  | _ => none
def sBr (k : Jvm.ClassFile.Cond) (x y : Int) (A B : Option Out) : Option Out := match k with
  | .eq => if x = y then A else B
  | .ne => if x = y then B else A
  | .lt => if x < y then A else B
  | .ge => if x < y then B else A
  | .gt => if y < x then A else B
  | .le => if y < x then B else A
def sTo (pc : Nat) (off : Int) (ls st : List PV) (σ : Sg) : Option Out := match jmp pc off with | some t => some (.inl (t, ls, st, σ)) | none => none
def sIf (k : Jvm.ClassFile.Cond) (off : Int) : Cfg → Option Out
  | (pc, ls, .inl a :: st, σ) => sBr k a 0 (sTo pc off ls st σ) (some (.inl (pc + 3, ls, st, σ)))
  | _ => none
def sIcmp (k : Jvm.ClassFile.Cond) (off : Int) : Cfg → Option Out
  | (pc, ls, .inl b :: .inl a :: st, σ) => sBr k a b (sTo pc off ls st σ) (some (.inl (pc + 3, ls, st, σ)))
  | _ => none
def sTab (k : Int → Option Out) (x dflt : Int) : Int → List Int → Option Out
  | _, [] => k dflt
  | lo, o :: os => if x = lo then k o else sTab k x dflt (lo + 1) os
def sSw (dflt lo hi : Int) (offs : Array Int) : Cfg → Option Out
  | (pc, ls, .inl x :: st, σ) => (match decide (lo + (offs.toList.length : Int) = hi + 1) with | true => sTab (fun o => sTo pc o ls st σ) x dflt lo offs.toList | false => none)
  | _ => none
def sDup : Cfg → Option Out
  | (pc, ls, .inl a :: st, σ) => some (.inl (pc + 1, ls, .inl a :: .inl a :: st, σ))
  | (pc, ls, .inr (.inl a) :: st, σ) => some (.inl (pc + 1, ls, .inr (.inl a) :: .inr (.inl a) :: st, σ))
  | _ => none
def sPop : Cfg → Option Out
  | (pc, ls, .inl _ :: st, σ) => some (.inl (pc + 1, ls, st, σ))
  | _ => none
def sDupx1 : Cfg → Option Out
  | (pc, ls, .inl a :: .inl b :: st, σ) => some (.inl (pc + 1, ls, .inl a :: .inl b :: .inl a :: st, σ))
  | (pc, ls, .inl a :: .inr (.inl b) :: st, σ) => some (.inl (pc + 1, ls, .inl a :: .inr (.inl b) :: .inl a :: st, σ))
  | _ => none
def sDup2 : Cfg → Option Out
  | (pc, ls, .inl a :: .inr (.inl b) :: st, σ) => some (.inl (pc + 1, ls, .inl a :: .inr (.inl b) :: .inl a :: .inr (.inl b) :: st, σ))
  | _ => none
def sGet (own idx : Nat) : Cfg → Option Out
  | (pc, ls, .inr (.inl (c, j)) :: st, σ) => (match ftl own idx with
    | some (ci, k) => (match Nat.beq (kd c) (10 + ci), fk ci k with
      | true, 0 => some (.inl (pc + 3, ls, .inl (rd σ c j k) :: st, σ))
      | true, 2 => some (.inl (pc + 3, ls, .inl (rd σ c j k) :: st, σ))
      | true, 1 => some (.inl (pc + 3, ls, .inr (.inr (rd σ c j k)) :: st, σ))
      | true, 3 => some (.inl (pc + 3, ls, .inr (.inl (rf c k, j)) :: st, σ))
      | _, _ => none)
    | none => none)
  | _ => none
def sPut (own idx : Nat) : Cfg → Option Out
  | (pc, ls, .inl x :: .inr (.inl (c, j)) :: st, σ) => (match ftl own idx with
    | some (ci, k) => (match Nat.blt c 52, Nat.beq (kd c) (10 + ci), fk ci k with
      | true, true, 0 => some (.inl (pc + 3, ls, st, up σ c j k x))
      | true, true, 2 => if 0 ≤ x ∧ x ≤ 1 then some (.inl (pc + 3, ls, st, up σ c j k x)) else none
      | _, _, _ => none)
    | none => none)
  | (pc, ls, .inr (.inr x) :: .inr (.inl (c, j)) :: st, σ) => (match ftl own idx with
    | some (ci, k) => (match Nat.blt c 52, Nat.beq (kd c) (10 + ci), fk ci k with
      | true, true, 1 => some (.inl (pc + 3, ls, st, up σ c j k x))
      | _, _, _ => none)
    | none => none)
  | _ => none
def sIald : Cfg → Option Out
  | (pc, ls, .inl i :: .inr (.inl (c, j)) :: st, σ) => (match kd c with
    | 0 => if inb i (ln c) then some (.inl (pc + 1, ls, .inl (rd σ c j i.toNat) :: st, σ)) else none
    | _ => none)
  | _ => none
def sBald : Cfg → Option Out
  | (pc, ls, .inl i :: .inr (.inl (c, j)) :: st, σ) => (match kd c with
    | 1 => if inb i (ln c) then some (.inl (pc + 1, ls, .inl (rd σ c j i.toNat) :: st, σ)) else none
    | 4 => if inb i (ln c) then some (.inl (pc + 1, ls, .inl (rd σ c j i.toNat) :: st, σ)) else none
    | _ => none)
  | _ => none
def sAald : Cfg → Option Out
  | (pc, ls, .inl i :: .inr (.inl (c, _)) :: st, σ) => (match kd c with
    | 2 => if inb i (ln c) then some (.inl (pc + 1, ls, .inr (.inl (rf c 0, i.toNat)) :: st, σ)) else none
    | 3 => if inb i (ln c) then some (.inl (pc + 1, ls, .inr (.inl (rf c 0, i.toNat)) :: st, σ)) else none
    | _ => none)
  | _ => none
def sIast : Cfg → Option Out
  | (pc, ls, .inl x :: .inl i :: .inr (.inl (c, j)) :: st, σ) => (match Nat.blt c 52, kd c with
    | true, 0 => if inb i (ln c) then some (.inl (pc + 1, ls, st, up σ c j i.toNat x)) else none
    | _, _ => none)
  | _ => none
def sBast : Cfg → Option Out
  | (pc, ls, .inl x :: .inl i :: .inr (.inl (c, j)) :: st, σ) => (match Nat.blt c 52, kd c with
    | true, 1 => if 0 ≤ x ∧ x ≤ 1 then (if inb i (ln c) then some (.inl (pc + 1, ls, st, up σ c j i.toNat x)) else none) else none
    | _, _ => none)
  | _ => none
def sAlen : Cfg → Option Out
  | (pc, ls, .inr (.inl (c, _)) :: st, σ) => (match kd c with
    | 0 => some (.inl (pc + 1, ls, .inl (ln c : Int) :: st, σ))
    | 4 => some (.inl (pc + 1, ls, .inl (ln c : Int) :: st, σ))
    | _ => none)
  | _ => none
def cpyS (σ : Sg) (c j c2 j2 sp dp n : Nat) : Sg := fun c' j' i => if c' = c2 ∧ j' = j2 ∧ dp ≤ i ∧ i < dp + n then σ c j (sp + (i - dp)) else σ c' j' i
def sCopy : Cfg → Option Out
  | (pc, ls, .inl n :: .inl dp :: .inr (.inl (c2, j2)) :: .inl sp :: .inr (.inl (c, j)) :: st, σ) => (match Nat.blt c 52, Nat.blt c2 52, kd c, kd c2, Nat.ble st.length 4 with
    | true, true, 0, 0, true => if 0 ≤ sp ∧ 0 ≤ dp ∧ 0 ≤ n ∧ sp + n ≤ (ln c : Int) ∧ dp + n ≤ (ln c2 : Int) then some (.inl (pc + 3, ls, st, cpyS σ c j c2 j2 sp.toNat dp.toNat n.toNat)) else none
    | _, _, _, _, _ => none)
  | _ => none
def sCon (own idx len : Nat) (c : Cfg) : Option Out := match lcl own idx with
  | some n => sPush (.inl n) len c
  | none => (match lsl own idx with | some s => sPush (.inr (.inl (s, 0))) len c | none => none)
def sCall (vs own idx : Nat) : Cfg → Option Out
  | (pc, ls, st, σ) => (match mtl own idx with
    | some (v, rk, n, M) => (match Nat.beq v vs, Nat.ble (st.length) (n + 5 - vs), v with
      | true, true, 1 => (match Nat.ble n st.length with | true => some (.inr (.inl (rk, M, (st.take n).reverse, (pc + 3, ls, st.drop n, σ)))) | false => none)
      | true, true, 0 => (match (st.drop n) with
        | .inr (.inl (c, j)) :: st' => (match Nat.beq (kd c) (10 + M.1) with | true => some (.inr (.inl (rk, M, .inr (.inl (c, j)) :: (st.take n).reverse, (pc + 3, ls, st', σ)))) | false => none)
        | _ => none)
      | _, _, _ => none)
    | none => none)
def sStat (own idx : Nat) (c : Cfg) : Option Out := match acl own idx with | some _ => sCopy c | none => sCall 1 own idx c
def sIret : Cfg → Option Out
  | (_, _, .inl x :: [], σ) => some (.inr (.inr (some (.inl x), σ)))
  | _ => none
def sLret : Cfg → Option Out
  | (_, _, .inr (.inr x) :: [], σ) => some (.inr (.inr (some (.inr (.inr x)), σ)))
  | _ => none
def sVret : Cfg → Option Out
  | (_, _, [], σ) => some (.inr (.inr (none, σ)))
  | _ => none
def stpI (own : Nat) (i : Instr) (len : Nat) (c : Cfg) : Option Out := match i with
  | .iconst n => sIcon n len c
  | .bipush n => sIcon n len c
  | .sipush n => sIcon n len c
  | .lconst n => sPush (.inr (.inr ((n : Nat) : Int))) len c
  | .ldc k => sCon own k len c
  | .ldc_w k => sCon own k len c
  | .ldc2_w k => (match lll own k with | some n => sPush (.inr (.inr n)) len c | none => none)
  | .iload_n k => sIload k len c
  | .iload k => sIload k len c
  | .lload_n k => sLload k len c
  | .lload k => sLload k len c
  | .aload_n k => sAload k len c
  | .aload k => sAload k len c
  | .istore_n k => sIstore k len c
  | .istore k => sIstore k len c
  | .lstore k => sLstore k len c
  | .astore_n k => sAstore k len c
  | .astore k => sAstore k len c
  | .iinc k n => sIinc k n c
  | .iadd => sBin (fun a b => w32 (a + b)) c
  | .isub => sBin (fun a b => w32 (a - b)) c
  | .imul => sBin (fun a b => w32 (a * b)) c
  | .idiv => sDiv wdiv c
  | .irem => sDiv wrem c
  | .ineg => sUn (fun a => w32 (-a)) c
  | .iand => sBin wand c
  | .ior => sBin wor c
  | .ixor => sBin wxor c
  | .ishl => sBin wshl c
  | .ishr => sBin wshr c
  | .iushr => sBin wush c
  | .i2b => sUn wi2b c
  | .i2s => sUn wi2s c
  | .i2c => sUn wi2c c
  | .i2l => sI2l c
  | .l2i => sL2i c
  | .ladd => sLbin (fun a b => w64 (a + b)) c
  | .lsub => sLbin (fun a b => w64 (a - b)) c
  | .lmul => sLbin (fun a b => w64 (a * b)) c
  | .ldiv => sLdiv wldiv c
  | .lrem => sLdiv wlrem c
  | .lcmp => sLcmp c
  | .ifCond k off => sIf k off c
  | .if_icmp k off => sIcmp k off c
  | .goto off => sTo c.1 off c.2.1 c.2.2.1 c.2.2.2
  | .tableswitch d lo hi offs => sSw d lo hi offs c
  | .dup => sDup c
  | .dup_x1 => sDupx1 c
  | .dup2 => sDup2 c
  | .pop => sPop c
  | .getfield k => sGet own k c
  | .putfield k => sPut own k c
  | .getstatic k => (match gtl own k with | some v => sPush v len c | none => none)
  | .iaload => sIald c
  | .baload => sBald c
  | .aaload => sAald c
  | .iastore => sIast c
  | .bastore => sBast c
  | .arraylength => sAlen c
  | .invokevirtual k => sCall 0 own k c
  | .invokestatic k => sStat own k c
  | .ireturn => sIret c
  | .lreturn => sLret c
  | .return_ => sVret c
  | _ => none
def stp (M : Md) (c : Cfg) : Option Out := match decode M.2.2.1 c.1 with | .ok (i, len) => stpI M.1 i len c | .error _ => none
def slots : List PV → List PV
  | [] => []
  | .inl x :: l => .inl x :: slots l
  | .inr (.inl x) :: l => .inr (.inl x) :: slots l
  | .inr (.inr x) :: l => .inr (.inr x) :: UU :: slots l
def padL (n : Nat) (l : List PV) : List PV := l ++ List.replicate (n - l.length) UU
def entry (M : Md) (as : List PV) (σ : Sg) : Cfg := (0, padL M.2.2.2.1 (slots as), [], σ)
def rsm (rk : Nat) (c : Cfg) (r : Option PV) (σ : Sg) : Option Cfg := match rk, r with
  | 0, none => some (c.1, c.2.1, c.2.2.1, σ)
  | 1, some (.inl x) => some (c.1, c.2.1, .inl x :: c.2.2.1, σ)
  | 2, some (.inr (.inr x)) => some (c.1, c.2.1, .inr (.inr x) :: c.2.2.1, σ)
  | _, _ => none
def ev : Nat → Nat → Md → Cfg → Rs
  | 0, _, _, _ => none
  | n + 1, d, M, c => match stp M c with
    | none => none
    | some (.inl c') => ev n d M c'
    | some (.inr (.inl q)) => (match d with
      | 0 => none
      | d' + 1 => (match ev n d' q.2.1 (entry q.2.1 q.2.2.1 q.2.2.2.2.2.2) with
        | none => none
        | some r => (match rsm q.1 q.2.2.2 r.1 r.2 with
          | none => none
          | some c' => ev n (d' + 1) M c')))
    | some (.inr (.inr r)) => some r
end
section
/-! the machine's runs, without fuel: EV; its equations -/
theorem ev_mono : ∀ (n d : Nat) (M : Md) (c : Cfg) (r : Option PV × Sg), ev n d M c = some r → ev (n + 1) d M c = some r := by
  intro n
  induction n with
  | zero => intro d M c r h; simp [ev] at h
  | succ n ih =>
    intro d M c r h
    rw [ev] at h ⊢
    cases hs : stp M c with
    | none => rw [hs] at h; cases h
    | some o =>
      rw [hs] at h
      rcases o with c' | q | r'
      · exact ih d M c' r h
      · cases d with
        | zero => cases h
        | succ d' =>
          dsimp only at h ⊢
          cases h1 : ev n d' q.2.1 (entry q.2.1 q.2.2.1 q.2.2.2.2.2.2) with
          | none => rw [h1] at h; cases h
          | some r1 =>
            rw [h1] at h
            rw [ih _ _ _ _ h1]
            dsimp only at h ⊢
            cases h2 : rsm q.1 q.2.2.2 r1.1 r1.2 with
            | none => rw [h2] at h; cases h
            | some c' =>
              rw [h2] at h
              exact ih _ _ _ _ h
      · exact h
theorem ev_le {n k d : Nat} {M : Md} {c : Cfg} {r : Option PV × Sg} (hk : n ≤ k) (h : ev n d M c = some r) : ev k d M c = some r := by
  induction k with
  | zero => rw [Nat.le_zero.mp hk] at h; exact h
  | succ k ih =>
    rcases Nat.lt_or_ge n (k + 1) with q | q
    · exact ev_mono _ _ _ _ _ (ih (Nat.le_of_lt_succ q))
    · rw [Nat.le_antisymm hk q] at h; exact h
theorem ev_det {n k d : Nat} {M : Md} {c : Cfg} {r r' : Option PV × Sg} (h : ev n d M c = some r) (h' : ev k d M c = some r') : r = r' := by
  have h1 := ev_le (Nat.le_max_left n k) h
  have h2 := ev_le (Nat.le_max_right n k) h'
  rw [h1] at h2
  exact Option.some.inj h2
noncomputable def EV (d : Nat) (M : Md) (c : Cfg) : Rs := @dite _ (∃ r, ∃ n, ev n d M c = some r) (Classical.propDecidable _) (fun h => some (Classical.choose h)) (fun _ => none)
theorem EV_of {n d : Nat} {M : Md} {c : Cfg} {r : Option PV × Sg} (h : ev n d M c = some r) : EV d M c = some r := by
  have hx : ∃ r, ∃ n, ev n d M c = some r := ⟨r, n, h⟩
  unfold EV
  rw [dif_pos hx]
  obtain ⟨k, hk⟩ := Classical.choose_spec hx
  rw [ev_det hk h]
theorem EV_inv {d : Nat} {M : Md} {c : Cfg} {r : Option PV × Sg} (h : EV d M c = some r) : ∃ n, ev n d M c = some r := by
  unfold EV at h
  by_cases hx : ∃ r, ∃ n, ev n d M c = some r
  · rw [dif_pos hx] at h
    have := Classical.choose_spec hx
    rw [Option.some.inj h] at this
    exact this
  · rw [dif_neg hx] at h; cases h
noncomputable def RUN (d : Nat) (M : Md) (as : List PV) (σ : Sg) : Rs := EV d M (entry M as σ)
noncomputable def evo (d : Nat) (M : Md) (o : Option Out) : Rs := match o with
  | none => none
  | some (.inl c) => EV d M c
  | some (.inr (.inl q)) => (match d with
    | 0 => none
    | d' + 1 => (match RUN d' q.2.1 q.2.2.1 q.2.2.2.2.2.2 with
      | none => none
      | some r => (match rsm q.1 q.2.2.2 r.1 r.2 with
        | none => none
        | some c' => EV (d' + 1) M c')))
  | some (.inr (.inr r)) => some r
theorem EV_eq (d : Nat) (M : Md) (c : Cfg) : EV d M c = evo d M (stp M c) := by
  apply Option.ext
  intro r
  constructor
  · intro h
    obtain ⟨n, h⟩ := EV_inv h
    cases n with
    | zero => cases h
    | succ n =>
      rw [ev] at h
      cases hs : stp M c with
      | none => rw [hs] at h; cases h
      | some o =>
        rw [hs] at h
        rcases o with c' | q | r'
        · exact EV_of h
        · cases d with
          | zero => cases h
          | succ d' =>
            dsimp only at h
            cases h1 : ev n d' q.2.1 (entry q.2.1 q.2.2.1 q.2.2.2.2.2.2) with
            | none => rw [h1] at h; cases h
            | some r1 =>
              rw [h1] at h
              dsimp only at h
              have h3 : RUN d' q.2.1 q.2.2.1 q.2.2.2.2.2.2 = some r1 := EV_of h1
              unfold evo
              dsimp only
              rw [h3]
              dsimp only
              cases h2 : rsm q.1 q.2.2.2 r1.1 r1.2 with
              | none => rw [h2] at h; cases h
              | some c' =>
                rw [h2] at h
                exact EV_of h
        · exact h
  · intro h
    cases hs : stp M c with
    | none => rw [hs] at h; cases h
    | some o =>
      rw [hs] at h
      rcases o with c' | q | r'
      · obtain ⟨n, h⟩ := EV_inv h
        refine EV_of (n := n + 1) ?_
        rw [ev, hs]
        exact h
      · cases d with
        | zero => cases h
        | succ d' =>
          unfold evo at h
          dsimp only at h
          cases h1 : RUN d' q.2.1 q.2.2.1 q.2.2.2.2.2.2 with
          | none => rw [h1] at h; cases h
          | some r1 =>
            rw [h1] at h
            dsimp only at h
            cases h2 : rsm q.1 q.2.2.2 r1.1 r1.2 with
            | none => rw [h2] at h; cases h
            | some c' =>
              rw [h2] at h
              obtain ⟨n1, e1⟩ := EV_inv h1
              obtain ⟨n2, e2⟩ := EV_inv h
              refine EV_of (n := max n1 n2 + 1) ?_
              rw [ev, hs]
              dsimp only
              rw [ev_le (Nat.le_max_left n1 n2) e1]
              dsimp only
              rw [h2]
              exact ev_le (Nat.le_max_right n1 n2) e2
      · refine EV_of (n := 1) ?_
        rw [ev, hs]
        exact h
def bV (o : Rs) (k : Sg → Rs) : Rs := match o with | some (none, σ) => k σ | _ => none
def bI (o : Rs) (k : Int → Sg → Rs) : Rs := match o with | some (some (.inl r), σ) => k r σ | _ => none
def bL (o : Rs) (k : Int → Sg → Rs) : Rs := match o with | some (some (.inr (.inr r)), σ) => k r σ | _ => none
section XR
variable {d : Nat} {M : Md} {pc : Nat} {ls st : List PV} {σ : Sg} {i : Instr} {len : Nat} {A B : Rs}
theorem x_dec {o : Option Out} (hd : decode M.2.2.1 pc = .ok (i, len)) (hs : stpI M.1 i len (pc, ls, st, σ) = o) (h : evo d M o = A) : EV d M (pc, ls, st, σ) = A := by
  rw [EV_eq, ← h, ← hs]
  unfold stp
  dsimp only
  rw [hd]
theorem x_st {c' : Cfg} (hd : decode M.2.2.1 pc = .ok (i, len)) (hs : stpI M.1 i len (pc, ls, st, σ) = some (.inl c')) (h : EV d M c' = A) : EV d M (pc, ls, st, σ) = A := x_dec hd hs h
theorem x_go {c' : Cfg} (h : EV d M c' = A) : evo d M (some (.inl c')) = A := h
theorem x_no : evo d M none = none := rfl
theorem x_if {p : Prop} [Decidable p] {X Y : Option Out} (hX : evo d M X = A) (hY : evo d M Y = B) : evo d M (if p then X else Y) = if p then A else B := by
  by_cases h : p
  · rw [if_pos h, if_pos h]; exact hX
  · rw [if_neg h, if_neg h]; exact hY
theorem x_ret {r : Option PV × Sg} (hd : decode M.2.2.1 pc = .ok (i, len)) (hs : stpI M.1 i len (pc, ls, st, σ) = some (.inr (.inr r))) : EV d M (pc, ls, st, σ) = some r := x_dec hd hs rfl
theorem x_cv {M' : Md} {as : List PV} {pc' : Nat} {ls' st' : List PV} {σ' : Sg} {k : Sg → Rs} (hd : decode M.2.2.1 pc = .ok (i, len)) (hs : stpI M.1 i len (pc, ls, st, σ) = some (.inr (.inl (0, M', as, (pc', ls', st', σ'))))) (h : ∀ σ2, EV (d + 1) M (pc', ls', st', σ2) = k σ2) : EV (d + 1) M (pc, ls, st, σ) = bV (RUN d M' as σ') k := by
  refine x_dec hd hs ?_
  unfold evo
  dsimp only
  cases hr : RUN d M' as σ' with
  | none => rfl
  | some r =>
    obtain ⟨r, σ2⟩ := r
    cases r with
    | none => exact h σ2
    | some v => rcases v with v | v | v <;> rfl
theorem x_ci {M' : Md} {as : List PV} {pc' : Nat} {ls' st' : List PV} {σ' : Sg} {k : Int → Sg → Rs} (hd : decode M.2.2.1 pc = .ok (i, len)) (hs : stpI M.1 i len (pc, ls, st, σ) = some (.inr (.inl (1, M', as, (pc', ls', st', σ'))))) (h : ∀ r σ2, EV (d + 1) M (pc', ls', vi r :: st', σ2) = k r σ2) : EV (d + 1) M (pc, ls, st, σ) = bI (RUN d M' as σ') k := by
  refine x_dec hd hs ?_
  unfold evo
  dsimp only
  cases hr : RUN d M' as σ' with
  | none => rfl
  | some r =>
    obtain ⟨r, σ2⟩ := r
    cases r with
    | none => rfl
    | some v =>
      rcases v with v | v | v
      · exact h v σ2
      · rfl
      · rfl
theorem x_cl {M' : Md} {as : List PV} {pc' : Nat} {ls' st' : List PV} {σ' : Sg} {k : Int → Sg → Rs} (hd : decode M.2.2.1 pc = .ok (i, len)) (hs : stpI M.1 i len (pc, ls, st, σ) = some (.inr (.inl (2, M', as, (pc', ls', st', σ'))))) (h : ∀ r σ2, EV (d + 1) M (pc', ls', vl r :: st', σ2) = k r σ2) : EV (d + 1) M (pc, ls, st, σ) = bL (RUN d M' as σ') k := by
  refine x_dec hd hs ?_
  unfold evo
  dsimp only
  cases hr : RUN d M' as σ' with
  | none => rfl
  | some r =>
    obtain ⟨r, σ2⟩ := r
    cases r with
    | none => rfl
    | some v =>
      rcases v with v | v | v
      · rfl
      · rfl
      · exact h v σ2
theorem x_run {as : List PV} {c : Cfg} (he : entry M as σ = c) (h : EV d M c = A) : RUN d M as σ = A := by
  unfold RUN
  rw [he]
  exact h
end XR
end
