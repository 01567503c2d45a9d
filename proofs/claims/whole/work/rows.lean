section
/-- a private method of a class that the tables say can be made, by its rows of tables_1 -/
def lw_okq (q : MethodName × Nat) : Prop := (q.1.cls ≠ "java/lang/invoke/MethodHandle" ∧ q.1.cls ≠ "java/lang/invoke/VarHandle") ∧ Cond.instantiable q.1.cls q.2 ∈ tables_1 ∧ Cond.privateMethod q.1 ∈ tables_1 ∧ Cond.instanceMethod q.1 ∈ tables_1
theorem lw_p0 : lw_okq (⟨"IndexDesk", "tableAt", "(I)LIndexDesk$Table;"⟩, 4) := ⟨⟨by decide +kernel, by decide +kernel⟩, List.mem_of_getElem? (i := 24) (by decide +kernel), List.mem_of_getElem? (i := 173) (by decide +kernel), List.mem_of_getElem? (i := 174) (by decide +kernel)⟩
theorem lw_p1 : lw_okq (⟨"IndexDesk$Table", "allowsAt", "(II)Z"⟩, 10) := ⟨⟨by decide +kernel, by decide +kernel⟩, List.mem_of_getElem? (i := 119) (by decide +kernel), List.mem_of_getElem? (i := 181) (by decide +kernel), List.mem_of_getElem? (i := 182) (by decide +kernel)⟩
theorem lw_p2 : lw_okq (⟨"IndexDesk$Table", "write", "(III)V"⟩, 10) := ⟨⟨by decide +kernel, by decide +kernel⟩, List.mem_of_getElem? (i := 119) (by decide +kernel), List.mem_of_getElem? (i := 194) (by decide +kernel), List.mem_of_getElem? (i := 195) (by decide +kernel)⟩
theorem lw_p3 : lw_okq (⟨"IndexDesk$Table", "isCell", "(II)Z"⟩, 10) := ⟨⟨by decide +kernel, by decide +kernel⟩, List.mem_of_getElem? (i := 119) (by decide +kernel), List.mem_of_getElem? (i := 198) (by decide +kernel), List.mem_of_getElem? (i := 199) (by decide +kernel)⟩
theorem lw_p4 : lw_okq (⟨"IndexDesk$Table", "isFirstOfItsLike", "(II)Z"⟩, 10) := ⟨⟨by decide +kernel, by decide +kernel⟩, List.mem_of_getElem? (i := 119) (by decide +kernel), List.mem_of_getElem? (i := 229) (by decide +kernel), List.mem_of_getElem? (i := 230) (by decide +kernel)⟩
theorem lw_p5 : lw_okq (⟨"IndexDesk$Table", "areAlike", "(III)Z"⟩, 10) := ⟨⟨by decide +kernel, by decide +kernel⟩, List.mem_of_getElem? (i := 119) (by decide +kernel), List.mem_of_getElem? (i := 233) (by decide +kernel), List.mem_of_getElem? (i := 234) (by decide +kernel)⟩
theorem lw_p6 : lw_okq (⟨"IndexDesk$Table", "takeEnds", "(I)V"⟩, 10) := ⟨⟨by decide +kernel, by decide +kernel⟩, List.mem_of_getElem? (i := 119) (by decide +kernel), List.mem_of_getElem? (i := 240) (by decide +kernel), List.mem_of_getElem? (i := 241) (by decide +kernel)⟩
theorem lw_p7 : lw_okq (⟨"java/util/ArrayList", "add", "(Ljava/lang/Object;[Ljava/lang/Object;I)V"⟩, 3) := ⟨⟨by decide +kernel, by decide +kernel⟩, List.mem_of_getElem? (i := 34) (by decide +kernel), List.mem_of_getElem? (i := 323) (by decide +kernel), List.mem_of_getElem? (i := 324) (by decide +kernel)⟩
theorem lw_p8 : lw_okq (⟨"java/util/ArrayList", "grow", "()[Ljava/lang/Object;"⟩, 3) := ⟨⟨by decide +kernel, by decide +kernel⟩, List.mem_of_getElem? (i := 34) (by decide +kernel), List.mem_of_getElem? (i := 327) (by decide +kernel), List.mem_of_getElem? (i := 328) (by decide +kernel)⟩
theorem lw_p9 : lw_okq (⟨"java/util/ArrayList", "grow", "(I)[Ljava/lang/Object;"⟩, 3) := ⟨⟨by decide +kernel, by decide +kernel⟩, List.mem_of_getElem? (i := 34) (by decide +kernel), List.mem_of_getElem? (i := 331) (by decide +kernel), List.mem_of_getElem? (i := 332) (by decide +kernel)⟩
theorem lw_p10 : lw_okq (⟨"IndexDesk", "questionAt", "(I)LIndexDesk$Question;"⟩, 4) := ⟨⟨by decide +kernel, by decide +kernel⟩, List.mem_of_getElem? (i := 24) (by decide +kernel), List.mem_of_getElem? (i := 377) (by decide +kernel), List.mem_of_getElem? (i := 378) (by decide +kernel)⟩
theorem lw_p11 : lw_okq (⟨"IndexDesk", "tableForAid", "(I)LIndexDesk$Table;"⟩, 4) := ⟨⟨by decide +kernel, by decide +kernel⟩, List.mem_of_getElem? (i := 24) (by decide +kernel), List.mem_of_getElem? (i := 409) (by decide +kernel), List.mem_of_getElem? (i := 410) (by decide +kernel)⟩
theorem lw_p12 : lw_okq (⟨"IndexDesk", "enlist", "(LIndexDesk$Aid;)I"⟩, 4) := ⟨⟨by decide +kernel, by decide +kernel⟩, List.mem_of_getElem? (i := 24) (by decide +kernel), List.mem_of_getElem? (i := 461) (by decide +kernel), List.mem_of_getElem? (i := 462) (by decide +kernel)⟩
theorem lw_p13 : lw_okq (⟨"IndexDesk", "aidAt", "(I)LIndexDesk$Aid;"⟩, 4) := ⟨⟨by decide +kernel, by decide +kernel⟩, List.mem_of_getElem? (i := 24) (by decide +kernel), List.mem_of_getElem? (i := 547) (by decide +kernel), List.mem_of_getElem? (i := 548) (by decide +kernel)⟩
theorem lw_p14 : lw_okq (⟨"IndexDesk$Scales", "weighNothing", "()J"⟩, 10) := ⟨⟨by decide +kernel, by decide +kernel⟩, List.mem_of_getElem? (i := 60) (by decide +kernel), List.mem_of_getElem? (i := 717) (by decide +kernel), List.mem_of_getElem? (i := 718) (by decide +kernel)⟩
theorem lw_p15 : lw_okq (⟨"IndexDesk$Scales", "savedBy", "(I[I)J"⟩, 10) := ⟨⟨by decide +kernel, by decide +kernel⟩, List.mem_of_getElem? (i := 60) (by decide +kernel), List.mem_of_getElem? (i := 722) (by decide +kernel), List.mem_of_getElem? (i := 723) (by decide +kernel)⟩
def lw_privs_1 : List (MethodName × Nat) := [(⟨"IndexDesk", "tableAt", "(I)LIndexDesk$Table;"⟩, 4), (⟨"IndexDesk$Table", "allowsAt", "(II)Z"⟩, 10), (⟨"IndexDesk$Table", "write", "(III)V"⟩, 10), (⟨"IndexDesk$Table", "isCell", "(II)Z"⟩, 10), (⟨"IndexDesk$Table", "isFirstOfItsLike", "(II)Z"⟩, 10), (⟨"IndexDesk$Table", "areAlike", "(III)Z"⟩, 10), (⟨"IndexDesk$Table", "takeEnds", "(I)V"⟩, 10), (⟨"java/util/ArrayList", "add", "(Ljava/lang/Object;[Ljava/lang/Object;I)V"⟩, 3), (⟨"java/util/ArrayList", "grow", "()[Ljava/lang/Object;"⟩, 3), (⟨"java/util/ArrayList", "grow", "(I)[Ljava/lang/Object;"⟩, 3), (⟨"IndexDesk", "questionAt", "(I)LIndexDesk$Question;"⟩, 4), (⟨"IndexDesk", "tableForAid", "(I)LIndexDesk$Table;"⟩, 4), (⟨"IndexDesk", "enlist", "(LIndexDesk$Aid;)I"⟩, 4), (⟨"IndexDesk", "aidAt", "(I)LIndexDesk$Aid;"⟩, 4), (⟨"IndexDesk$Scales", "weighNothing", "()J"⟩, 10), (⟨"IndexDesk$Scales", "savedBy", "(I[I)J"⟩, 10)]
theorem lw_r1 : ∀ q ∈ lw_privs_1, lw_okq q := List.forall_mem_cons.mpr ⟨lw_p0, List.forall_mem_cons.mpr ⟨lw_p1, List.forall_mem_cons.mpr ⟨lw_p2, List.forall_mem_cons.mpr ⟨lw_p3, List.forall_mem_cons.mpr ⟨lw_p4, List.forall_mem_cons.mpr ⟨lw_p5, List.forall_mem_cons.mpr ⟨lw_p6, List.forall_mem_cons.mpr ⟨lw_p7, List.forall_mem_cons.mpr ⟨lw_p8, List.forall_mem_cons.mpr ⟨lw_p9, List.forall_mem_cons.mpr ⟨lw_p10, List.forall_mem_cons.mpr ⟨lw_p11, List.forall_mem_cons.mpr ⟨lw_p12, List.forall_mem_cons.mpr ⟨lw_p13, List.forall_mem_cons.mpr ⟨lw_p14, List.forall_mem_cons.mpr ⟨lw_p15, fun _ h => absurd h List.not_mem_nil⟩⟩⟩⟩⟩⟩⟩⟩⟩⟩⟩⟩⟩⟩⟩⟩
theorem lw_p16 : lw_okq (⟨"IndexDesk$Scales", "settle", "(IZ)V"⟩, 10) := ⟨⟨by decide +kernel, by decide +kernel⟩, List.mem_of_getElem? (i := 60) (by decide +kernel), List.mem_of_getElem? (i := 727) (by decide +kernel), List.mem_of_getElem? (i := 728) (by decide +kernel)⟩
theorem lw_p17 : lw_okq (⟨"IndexDesk$Question", "passes", "(I)Z"⟩, 7) := ⟨⟨by decide +kernel, by decide +kernel⟩, List.mem_of_getElem? (i := 285) (by decide +kernel), List.mem_of_getElem? (i := 750) (by decide +kernel), List.mem_of_getElem? (i := 751) (by decide +kernel)⟩
theorem lw_p18 : lw_okq (⟨"IndexDesk", "isSet", "(I)Z"⟩, 4) := ⟨⟨by decide +kernel, by decide +kernel⟩, List.mem_of_getElem? (i := 24) (by decide +kernel), List.mem_of_getElem? (i := 807) (by decide +kernel), List.mem_of_getElem? (i := 808) (by decide +kernel)⟩
theorem lw_p19 : lw_okq (⟨"IndexDesk$Scales", "explore", "(IIJI)V"⟩, 10) := ⟨⟨by decide +kernel, by decide +kernel⟩, List.mem_of_getElem? (i := 60) (by decide +kernel), List.mem_of_getElem? (i := 825) (by decide +kernel), List.mem_of_getElem? (i := 826) (by decide +kernel)⟩
theorem lw_p20 : lw_okq (⟨"IndexDesk$Scales", "keepIfBetter", "(IJ)V"⟩, 10) := ⟨⟨by decide +kernel, by decide +kernel⟩, List.mem_of_getElem? (i := 60) (by decide +kernel), List.mem_of_getElem? (i := 829) (by decide +kernel), List.mem_of_getElem? (i := 830) (by decide +kernel)⟩
theorem lw_p21 : lw_okq (⟨"IndexDesk$Scales", "fits", "(III)Z"⟩, 10) := ⟨⟨by decide +kernel, by decide +kernel⟩, List.mem_of_getElem? (i := 60) (by decide +kernel), List.mem_of_getElem? (i := 834) (by decide +kernel), List.mem_of_getElem? (i := 835) (by decide +kernel)⟩
theorem lw_p22 : lw_okq (⟨"IndexDesk$Scales", "mostSaving", "(II)I"⟩, 10) := ⟨⟨by decide +kernel, by decide +kernel⟩, List.mem_of_getElem? (i := 60) (by decide +kernel), List.mem_of_getElem? (i := 847) (by decide +kernel), List.mem_of_getElem? (i := 848) (by decide +kernel)⟩
theorem lw_p23 : lw_okq (⟨"IndexDesk$Scales", "lower", "(I)V"⟩, 10) := ⟨⟨by decide +kernel, by decide +kernel⟩, List.mem_of_getElem? (i := 60) (by decide +kernel), List.mem_of_getElem? (i := 851) (by decide +kernel), List.mem_of_getElem? (i := 852) (by decide +kernel)⟩
theorem lw_p24 : lw_okq (⟨"IndexDesk", "tablesTold", "()I"⟩, 4) := ⟨⟨by decide +kernel, by decide +kernel⟩, List.mem_of_getElem? (i := 24) (by decide +kernel), List.mem_of_getElem? (i := 859) (by decide +kernel), List.mem_of_getElem? (i := 860) (by decide +kernel)⟩
theorem lw_p25 : lw_okq (⟨"IndexDesk", "rowsInAll", "()I"⟩, 4) := ⟨⟨by decide +kernel, by decide +kernel⟩, List.mem_of_getElem? (i := 24) (by decide +kernel), List.mem_of_getElem? (i := 863) (by decide +kernel), List.mem_of_getElem? (i := 864) (by decide +kernel)⟩
theorem lw_p26 : lw_okq (⟨"IndexDeskModel", "isTable", "(I)Z"⟩, 29) := ⟨⟨by decide +kernel, by decide +kernel⟩, List.mem_of_getElem? (i := 867) (by decide +kernel), List.mem_of_getElem? (i := 973) (by decide +kernel), List.mem_of_getElem? (i := 974) (by decide +kernel)⟩
theorem lw_p27 : lw_okq (⟨"IndexDeskModel", "at", "(III)I"⟩, 29) := ⟨⟨by decide +kernel, by decide +kernel⟩, List.mem_of_getElem? (i := 867) (by decide +kernel), List.mem_of_getElem? (i := 985) (by decide +kernel), List.mem_of_getElem? (i := 986) (by decide +kernel)⟩
theorem lw_p28 : lw_okq (⟨"IndexDeskModel", "pages", "(I)I"⟩, 29) := ⟨⟨by decide +kernel, by decide +kernel⟩, List.mem_of_getElem? (i := 867) (by decide +kernel), List.mem_of_getElem? (i := 993) (by decide +kernel), List.mem_of_getElem? (i := 994) (by decide +kernel)⟩
theorem lw_p29 : lw_okq (⟨"IndexDeskModel", "isColumn", "(II)Z"⟩, 29) := ⟨⟨by decide +kernel, by decide +kernel⟩, List.mem_of_getElem? (i := 867) (by decide +kernel), List.mem_of_getElem? (i := 1000) (by decide +kernel), List.mem_of_getElem? (i := 1001) (by decide +kernel)⟩
theorem lw_p30 : lw_okq (⟨"IndexDeskModel", "isQuestion", "(I)Z"⟩, 29) := ⟨⟨by decide +kernel, by decide +kernel⟩, List.mem_of_getElem? (i := 867) (by decide +kernel), List.mem_of_getElem? (i := 1016) (by decide +kernel), List.mem_of_getElem? (i := 1017) (by decide +kernel)⟩
theorem lw_p31 : lw_okq (⟨"IndexDeskModel", "inTurn", "(IIII)I"⟩, 29) := ⟨⟨by decide +kernel, by decide +kernel⟩, List.mem_of_getElem? (i := 867) (by decide +kernel), List.mem_of_getElem? (i := 1024) (by decide +kernel), List.mem_of_getElem? (i := 1025) (by decide +kernel)⟩
def lw_privs_2 : List (MethodName × Nat) := [(⟨"IndexDesk$Scales", "settle", "(IZ)V"⟩, 10), (⟨"IndexDesk$Question", "passes", "(I)Z"⟩, 7), (⟨"IndexDesk", "isSet", "(I)Z"⟩, 4), (⟨"IndexDesk$Scales", "explore", "(IIJI)V"⟩, 10), (⟨"IndexDesk$Scales", "keepIfBetter", "(IJ)V"⟩, 10), (⟨"IndexDesk$Scales", "fits", "(III)Z"⟩, 10), (⟨"IndexDesk$Scales", "mostSaving", "(II)I"⟩, 10), (⟨"IndexDesk$Scales", "lower", "(I)V"⟩, 10), (⟨"IndexDesk", "tablesTold", "()I"⟩, 4), (⟨"IndexDesk", "rowsInAll", "()I"⟩, 4), (⟨"IndexDeskModel", "isTable", "(I)Z"⟩, 29), (⟨"IndexDeskModel", "at", "(III)I"⟩, 29), (⟨"IndexDeskModel", "pages", "(I)I"⟩, 29), (⟨"IndexDeskModel", "isColumn", "(II)Z"⟩, 29), (⟨"IndexDeskModel", "isQuestion", "(I)Z"⟩, 29), (⟨"IndexDeskModel", "inTurn", "(IIII)I"⟩, 29)]
theorem lw_r2 : ∀ q ∈ lw_privs_2, lw_okq q := List.forall_mem_cons.mpr ⟨lw_p16, List.forall_mem_cons.mpr ⟨lw_p17, List.forall_mem_cons.mpr ⟨lw_p18, List.forall_mem_cons.mpr ⟨lw_p19, List.forall_mem_cons.mpr ⟨lw_p20, List.forall_mem_cons.mpr ⟨lw_p21, List.forall_mem_cons.mpr ⟨lw_p22, List.forall_mem_cons.mpr ⟨lw_p23, List.forall_mem_cons.mpr ⟨lw_p24, List.forall_mem_cons.mpr ⟨lw_p25, List.forall_mem_cons.mpr ⟨lw_p26, List.forall_mem_cons.mpr ⟨lw_p27, List.forall_mem_cons.mpr ⟨lw_p28, List.forall_mem_cons.mpr ⟨lw_p29, List.forall_mem_cons.mpr ⟨lw_p30, List.forall_mem_cons.mpr ⟨lw_p31, fun _ h => absurd h List.not_mem_nil⟩⟩⟩⟩⟩⟩⟩⟩⟩⟩⟩⟩⟩⟩⟩⟩
theorem lw_p32 : lw_okq (⟨"IndexDeskModel", "aid", "(IIIII)I"⟩, 29) := ⟨⟨by decide +kernel, by decide +kernel⟩, List.mem_of_getElem? (i := 867) (by decide +kernel), List.mem_of_getElem? (i := 1028) (by decide +kernel), List.mem_of_getElem? (i := 1029) (by decide +kernel)⟩
theorem lw_p33 : lw_okq (⟨"IndexDeskModel", "isAid", "(I)Z"⟩, 29) := ⟨⟨by decide +kernel, by decide +kernel⟩, List.mem_of_getElem? (i := 867) (by decide +kernel), List.mem_of_getElem? (i := 1050) (by decide +kernel), List.mem_of_getElem? (i := 1051) (by decide +kernel)⟩
theorem lw_p34 : lw_okq (⟨"IndexDeskModel", "isSet", "(I)Z"⟩, 29) := ⟨⟨by decide +kernel, by decide +kernel⟩, List.mem_of_getElem? (i := 867) (by decide +kernel), List.mem_of_getElem? (i := 1054) (by decide +kernel), List.mem_of_getElem? (i := 1055) (by decide +kernel)⟩
theorem lw_p35 : lw_okq (⟨"IndexDeskModel", "helps", "(II)Z"⟩, 29) := ⟨⟨by decide +kernel, by decide +kernel⟩, List.mem_of_getElem? (i := 867) (by decide +kernel), List.mem_of_getElem? (i := 1062) (by decide +kernel), List.mem_of_getElem? (i := 1063) (by decide +kernel)⟩
theorem lw_p36 : lw_okq (⟨"IndexDeskModel", "tested", "(I)I"⟩, 29) := ⟨⟨by decide +kernel, by decide +kernel⟩, List.mem_of_getElem? (i := 867) (by decide +kernel), List.mem_of_getElem? (i := 1066) (by decide +kernel), List.mem_of_getElem? (i := 1067) (by decide +kernel)⟩
theorem lw_p37 : lw_okq (⟨"IndexDeskModel", "uses", "(II)I"⟩, 29) := ⟨⟨by decide +kernel, by decide +kernel⟩, List.mem_of_getElem? (i := 867) (by decide +kernel), List.mem_of_getElem? (i := 1070) (by decide +kernel), List.mem_of_getElem? (i := 1071) (by decide +kernel)⟩
theorem lw_p38 : lw_okq (⟨"IndexDeskModel", "costOf", "(II)I"⟩, 29) := ⟨⟨by decide +kernel, by decide +kernel⟩, List.mem_of_getElem? (i := 867) (by decide +kernel), List.mem_of_getElem? (i := 1074) (by decide +kernel), List.mem_of_getElem? (i := 1075) (by decide +kernel)⟩
theorem lw_p39 : lw_okq (⟨"IndexDeskModel", "groups", "(I)I"⟩, 29) := ⟨⟨by decide +kernel, by decide +kernel⟩, List.mem_of_getElem? (i := 867) (by decide +kernel), List.mem_of_getElem? (i := 1078) (by decide +kernel), List.mem_of_getElem? (i := 1079) (by decide +kernel)⟩
theorem lw_p40 : lw_okq (⟨"IndexDeskModel", "matched", "(II)I"⟩, 29) := ⟨⟨by decide +kernel, by decide +kernel⟩, List.mem_of_getElem? (i := 867) (by decide +kernel), List.mem_of_getElem? (i := 1082) (by decide +kernel), List.mem_of_getElem? (i := 1083) (by decide +kernel)⟩
theorem lw_p41 : lw_okq (⟨"IndexDeskModel", "own", "(I)I"⟩, 29) := ⟨⟨by decide +kernel, by decide +kernel⟩, List.mem_of_getElem? (i := 867) (by decide +kernel), List.mem_of_getElem? (i := 1086) (by decide +kernel), List.mem_of_getElem? (i := 1087) (by decide +kernel)⟩
theorem lw_p42 : lw_okq (⟨"IndexDeskModel", "passes", "(IIIII)I"⟩, 29) := ⟨⟨by decide +kernel, by decide +kernel⟩, List.mem_of_getElem? (i := 867) (by decide +kernel), List.mem_of_getElem? (i := 1090) (by decide +kernel), List.mem_of_getElem? (i := 1091) (by decide +kernel)⟩
theorem lw_p43 : lw_okq (⟨"IndexDeskModel", "covers", "(II)Z"⟩, 29) := ⟨⟨by decide +kernel, by decide +kernel⟩, List.mem_of_getElem? (i := 867) (by decide +kernel), List.mem_of_getElem? (i := 1094) (by decide +kernel), List.mem_of_getElem? (i := 1095) (by decide +kernel)⟩
theorem lw_p44 : lw_okq (⟨"IndexDeskModel", "planOf", "(II)I"⟩, 29) := ⟨⟨by decide +kernel, by decide +kernel⟩, List.mem_of_getElem? (i := 867) (by decide +kernel), List.mem_of_getElem? (i := 1102) (by decide +kernel), List.mem_of_getElem? (i := 1103) (by decide +kernel)⟩
theorem lw_p45 : lw_okq (⟨"IndexDeskModel", "answers", "(II)Z"⟩, 29) := ⟨⟨by decide +kernel, by decide +kernel⟩, List.mem_of_getElem? (i := 867) (by decide +kernel), List.mem_of_getElem? (i := 1111) (by decide +kernel), List.mem_of_getElem? (i := 1112) (by decide +kernel)⟩
theorem lw_p46 : lw_okq (⟨"IndexDeskModel", "passesNow", "(IIIII)Z"⟩, 29) := ⟨⟨by decide +kernel, by decide +kernel⟩, List.mem_of_getElem? (i := 867) (by decide +kernel), List.mem_of_getElem? (i := 1115) (by decide +kernel), List.mem_of_getElem? (i := 1116) (by decide +kernel)⟩
theorem lw_p47 : lw_okq (⟨"IndexDeskModel", "fetched", "(I)I"⟩, 29) := ⟨⟨by decide +kernel, by decide +kernel⟩, List.mem_of_getElem? (i := 867) (by decide +kernel), List.mem_of_getElem? (i := 1119) (by decide +kernel), List.mem_of_getElem? (i := 1120) (by decide +kernel)⟩
def lw_privs_3 : List (MethodName × Nat) := [(⟨"IndexDeskModel", "aid", "(IIIII)I"⟩, 29), (⟨"IndexDeskModel", "isAid", "(I)Z"⟩, 29), (⟨"IndexDeskModel", "isSet", "(I)Z"⟩, 29), (⟨"IndexDeskModel", "helps", "(II)Z"⟩, 29), (⟨"IndexDeskModel", "tested", "(I)I"⟩, 29), (⟨"IndexDeskModel", "uses", "(II)I"⟩, 29), (⟨"IndexDeskModel", "costOf", "(II)I"⟩, 29), (⟨"IndexDeskModel", "groups", "(I)I"⟩, 29), (⟨"IndexDeskModel", "matched", "(II)I"⟩, 29), (⟨"IndexDeskModel", "own", "(I)I"⟩, 29), (⟨"IndexDeskModel", "passes", "(IIIII)I"⟩, 29), (⟨"IndexDeskModel", "covers", "(II)Z"⟩, 29), (⟨"IndexDeskModel", "planOf", "(II)I"⟩, 29), (⟨"IndexDeskModel", "answers", "(II)Z"⟩, 29), (⟨"IndexDeskModel", "passesNow", "(IIIII)Z"⟩, 29), (⟨"IndexDeskModel", "fetched", "(I)I"⟩, 29)]
theorem lw_r3 : ∀ q ∈ lw_privs_3, lw_okq q := List.forall_mem_cons.mpr ⟨lw_p32, List.forall_mem_cons.mpr ⟨lw_p33, List.forall_mem_cons.mpr ⟨lw_p34, List.forall_mem_cons.mpr ⟨lw_p35, List.forall_mem_cons.mpr ⟨lw_p36, List.forall_mem_cons.mpr ⟨lw_p37, List.forall_mem_cons.mpr ⟨lw_p38, List.forall_mem_cons.mpr ⟨lw_p39, List.forall_mem_cons.mpr ⟨lw_p40, List.forall_mem_cons.mpr ⟨lw_p41, List.forall_mem_cons.mpr ⟨lw_p42, List.forall_mem_cons.mpr ⟨lw_p43, List.forall_mem_cons.mpr ⟨lw_p44, List.forall_mem_cons.mpr ⟨lw_p45, List.forall_mem_cons.mpr ⟨lw_p46, List.forall_mem_cons.mpr ⟨lw_p47, fun _ h => absurd h List.not_mem_nil⟩⟩⟩⟩⟩⟩⟩⟩⟩⟩⟩⟩⟩⟩⟩⟩
theorem lw_p48 : lw_okq (⟨"IndexDeskModel", "alike", "(IIII)Z"⟩, 29) := ⟨⟨by decide +kernel, by decide +kernel⟩, List.mem_of_getElem? (i := 867) (by decide +kernel), List.mem_of_getElem? (i := 1123) (by decide +kernel), List.mem_of_getElem? (i := 1124) (by decide +kernel)⟩
theorem lw_p49 : lw_okq (⟨"IndexDeskModel", "matchesNow", "(III)Z"⟩, 29) := ⟨⟨by decide +kernel, by decide +kernel⟩, List.mem_of_getElem? (i := 867) (by decide +kernel), List.mem_of_getElem? (i := 1127) (by decide +kernel), List.mem_of_getElem? (i := 1128) (by decide +kernel)⟩
theorem lw_p50 : lw_okq (⟨"IndexDeskModel", "totalOf", "(I)J"⟩, 29) := ⟨⟨by decide +kernel, by decide +kernel⟩, List.mem_of_getElem? (i := 867) (by decide +kernel), List.mem_of_getElem? (i := 1135) (by decide +kernel), List.mem_of_getElem? (i := 1136) (by decide +kernel)⟩
theorem lw_p51 : lw_okq (⟨"IndexDeskModel", "keeping", "(I)I"⟩, 29) := ⟨⟨by decide +kernel, by decide +kernel⟩, List.mem_of_getElem? (i := 867) (by decide +kernel), List.mem_of_getElem? (i := 1139) (by decide +kernel), List.mem_of_getElem? (i := 1140) (by decide +kernel)⟩
theorem lw_p52 : lw_okq (⟨"IndexDeskModel", "roomOfSet", "(I)I"⟩, 29) := ⟨⟨by decide +kernel, by decide +kernel⟩, List.mem_of_getElem? (i := 867) (by decide +kernel), List.mem_of_getElem? (i := 1148) (by decide +kernel), List.mem_of_getElem? (i := 1149) (by decide +kernel)⟩
theorem lw_p53 : lw_okq (⟨"IndexDeskModel", "roomOf", "(I)I"⟩, 29) := ⟨⟨by decide +kernel, by decide +kernel⟩, List.mem_of_getElem? (i := 867) (by decide +kernel), List.mem_of_getElem? (i := 1152) (by decide +kernel), List.mem_of_getElem? (i := 1153) (by decide +kernel)⟩
theorem lw_p54 : lw_okq (⟨"IndexDeskModel", "works", "()V"⟩, 29) := ⟨⟨by decide +kernel, by decide +kernel⟩, List.mem_of_getElem? (i := 867) (by decide +kernel), List.mem_of_getElem? (i := 1168) (by decide +kernel), List.mem_of_getElem? (i := 1169) (by decide +kernel)⟩
theorem lw_p55 : lw_okq (⟨"IndexDeskModel", "totalWorked", "(I)J"⟩, 29) := ⟨⟨by decide +kernel, by decide +kernel⟩, List.mem_of_getElem? (i := 867) (by decide +kernel), List.mem_of_getElem? (i := 1172) (by decide +kernel), List.mem_of_getElem? (i := 1173) (by decide +kernel)⟩
def lw_privs_4 : List (MethodName × Nat) := [(⟨"IndexDeskModel", "alike", "(IIII)Z"⟩, 29), (⟨"IndexDeskModel", "matchesNow", "(III)Z"⟩, 29), (⟨"IndexDeskModel", "totalOf", "(I)J"⟩, 29), (⟨"IndexDeskModel", "keeping", "(I)I"⟩, 29), (⟨"IndexDeskModel", "roomOfSet", "(I)I"⟩, 29), (⟨"IndexDeskModel", "roomOf", "(I)I"⟩, 29), (⟨"IndexDeskModel", "works", "()V"⟩, 29), (⟨"IndexDeskModel", "totalWorked", "(I)J"⟩, 29)]
theorem lw_r4 : ∀ q ∈ lw_privs_4, lw_okq q := List.forall_mem_cons.mpr ⟨lw_p48, List.forall_mem_cons.mpr ⟨lw_p49, List.forall_mem_cons.mpr ⟨lw_p50, List.forall_mem_cons.mpr ⟨lw_p51, List.forall_mem_cons.mpr ⟨lw_p52, List.forall_mem_cons.mpr ⟨lw_p53, List.forall_mem_cons.mpr ⟨lw_p54, List.forall_mem_cons.mpr ⟨lw_p55, fun _ h => absurd h List.not_mem_nil⟩⟩⟩⟩⟩⟩⟩⟩
def lw_privs : List (MethodName × Nat) := lw_privs_1 ++ (lw_privs_2 ++ (lw_privs_3 ++ (lw_privs_4)))
def lw_tbl : List Cond := k2_sels lw_privs ++ tables_1
theorem lw_privs_ok : ∀ q ∈ lw_privs, lw_okq q := by
  show ∀ q ∈ lw_privs_1 ++ (lw_privs_2 ++ (lw_privs_3 ++ (lw_privs_4))), lw_okq q
  exact List.forall_mem_append.mpr ⟨lw_r1, List.forall_mem_append.mpr ⟨lw_r2, List.forall_mem_append.mpr ⟨lw_r3, lw_r4⟩⟩⟩
end
section
def RX0 : String := "IndexDesk$Aid"
def TX0 : u_T := fun k => match k with
  | _ => ("", "", "", false)
def tyX0 : Nat → FieldType := fun k => match k with
  | _ => .int
theorem nmX0 : ∀ a, a < 0 → ∀ b, b < 0 → a ≠ b → (TX0 a).2.1 ≠ (TX0 b).2.1 := by decide +kernel
theorem tyX0_ok : ∀ k, k < 0 → parseFieldDescriptor (TX0 k).2.2.1 = some (tyX0 k) := by decide +kernel
abbrev cX0_init : ByteArray := prog_2_method_1_code
def yX0_init : MethodName := ⟨RX0, "<init>", "(ILIndexDesk$Table;)V"⟩
def RX1 : String := "IndexDesk$Cluster"
def TX1 : u_T := fun k => match k with
  | 0 => ("IndexDesk$Ordered", "own", "I", true)
  | 1 => ("IndexDesk$Ordered", "by", "[I", true)
  | 2 => ("IndexDesk$Aid", "kind", "I", true)
  | 3 => ("IndexDesk$Aid", "table", "LIndexDesk$Table;", true)
  | _ => ("IndexDesk$Aid", "isBuilt", "Z", false)
def tyX1 : Nat → FieldType := fun k => match k with
  | 0 => .int
  | 1 => .array .int
  | 2 => .int
  | 3 => .object "IndexDesk$Table"
  | _ => .boolean
theorem nmX1 : ∀ a, a < 5 → ∀ b, b < 5 → a ≠ b → (TX1 a).2.1 ≠ (TX1 b).2.1 := by decide +kernel
theorem tyX1_ok : ∀ k, k < 5 → parseFieldDescriptor (TX1 k).2.2.1 = some (tyX1 k) := by decide +kernel
abbrev cX1_init : ByteArray := prog_3_method_1_code
def yX1_init : MethodName := ⟨RX1, "<init>", "(LIndexDesk$Table;III)V"⟩
abbrev cX1_mustFetch : ByteArray := prog_3_method_2_code
def yX1_mustFetch : MethodName := ⟨RX1, "mustFetch", "(LIndexDesk$Question;)Z"⟩
abbrev cX1_entriesOnPage : ByteArray := prog_3_method_3_code
def yX1_entriesOnPage : MethodName := ⟨RX1, "entriesOnPage", "()I"⟩
abbrev cX1_space : ByteArray := prog_3_method_4_code
def yX1_space : MethodName := ⟨RX1, "space", "()I"⟩
abbrev cX1_keeping : ByteArray := prog_3_method_5_code
def yX1_keeping : MethodName := ⟨RX1, "keeping", "()I"⟩
def RX2 : String := "IndexDesk$Covering"
def TX2 : u_T := fun k => match k with
  | 0 => ("IndexDesk$Ordered", "own", "I", true)
  | 1 => ("IndexDesk$Ordered", "by", "[I", true)
  | 2 => ("IndexDesk$Aid", "kind", "I", true)
  | 3 => ("IndexDesk$Aid", "table", "LIndexDesk$Table;", true)
  | 4 => ("IndexDesk$Aid", "isBuilt", "Z", false)
  | _ => ("IndexDesk$Covering", "held", "I", true)
def tyX2 : Nat → FieldType := fun k => match k with
  | 0 => .int
  | 1 => .array .int
  | 2 => .int
  | 3 => .object "IndexDesk$Table"
  | 4 => .boolean
  | _ => .int
theorem nmX2 : ∀ a, a < 6 → ∀ b, b < 6 → a ≠ b → (TX2 a).2.1 ≠ (TX2 b).2.1 := by decide +kernel
theorem tyX2_ok : ∀ k, k < 6 → parseFieldDescriptor (TX2 k).2.2.1 = some (tyX2 k) := by decide +kernel
abbrev cX2_init : ByteArray := prog_4_method_1_code
def yX2_init : MethodName := ⟨RX2, "<init>", "(LIndexDesk$Table;IIII)V"⟩
abbrev cX2_mustFetch : ByteArray := prog_4_method_2_code
def yX2_mustFetch : MethodName := ⟨RX2, "mustFetch", "(LIndexDesk$Question;)Z"⟩
abbrev cX2_space : ByteArray := prog_4_method_3_code
def yX2_space : MethodName := ⟨RX2, "space", "()I"⟩
abbrev cX2_keeping : ByteArray := prog_4_method_4_code
def yX2_keeping : MethodName := ⟨RX2, "keeping", "()I"⟩
def RX3 : String := "IndexDesk$Order"
def TX3 : u_T := fun k => match k with
  | 0 => ("IndexDesk$Ordered", "own", "I", true)
  | 1 => ("IndexDesk$Ordered", "by", "[I", true)
  | 2 => ("IndexDesk$Aid", "kind", "I", true)
  | 3 => ("IndexDesk$Aid", "table", "LIndexDesk$Table;", true)
  | _ => ("IndexDesk$Aid", "isBuilt", "Z", false)
def tyX3 : Nat → FieldType := fun k => match k with
  | 0 => .int
  | 1 => .array .int
  | 2 => .int
  | 3 => .object "IndexDesk$Table"
  | _ => .boolean
theorem nmX3 : ∀ a, a < 5 → ∀ b, b < 5 → a ≠ b → (TX3 a).2.1 ≠ (TX3 b).2.1 := by decide +kernel
theorem tyX3_ok : ∀ k, k < 5 → parseFieldDescriptor (TX3 k).2.2.1 = some (tyX3 k) := by decide +kernel
abbrev cX3_init : ByteArray := prog_5_method_1_code
def yX3_init : MethodName := ⟨RX3, "<init>", "(LIndexDesk$Table;III)V"⟩
abbrev cX3_keeping : ByteArray := prog_5_method_2_code
def yX3_keeping : MethodName := ⟨RX3, "keeping", "()I"⟩
def RX4 : String := "IndexDesk$Ordered"
def TX4 : u_T := fun k => match k with
  | _ => ("", "", "", false)
def tyX4 : Nat → FieldType := fun k => match k with
  | _ => .int
theorem nmX4 : ∀ a, a < 0 → ∀ b, b < 0 → a ≠ b → (TX4 a).2.1 ≠ (TX4 b).2.1 := by decide +kernel
theorem tyX4_ok : ∀ k, k < 0 → parseFieldDescriptor (TX4 k).2.2.1 = some (tyX4 k) := by decide +kernel
abbrev cX4_init : ByteArray := prog_6_method_1_code
def yX4_init : MethodName := ⟨RX4, "<init>", "(ILIndexDesk$Table;III)V"⟩
abbrev cX4_usedBy : ByteArray := prog_6_method_2_code
def yX4_usedBy : MethodName := ⟨RX4, "usedBy", "(LIndexDesk$Question;)I"⟩
abbrev cX4_helps : ByteArray := prog_6_method_3_code
def yX4_helps : MethodName := ⟨RX4, "helps", "(LIndexDesk$Question;)Z"⟩
abbrev cX4_foretoldRows : ByteArray := prog_6_method_4_code
def yX4_foretoldRows : MethodName := ⟨RX4, "foretoldRows", "()I"⟩
abbrev cX4_holds : ByteArray := prog_6_method_5_code
def yX4_holds : MethodName := ⟨RX4, "holds", "(I)Z"⟩
abbrev cX4_mustFetch : ByteArray := prog_6_method_6_code
def yX4_mustFetch : MethodName := ⟨RX4, "mustFetch", "(LIndexDesk$Question;)Z"⟩
abbrev cX4_entriesOnPage : ByteArray := prog_6_method_7_code
def yX4_entriesOnPage : MethodName := ⟨RX4, "entriesOnPage", "()I"⟩
abbrev cX4_foretold : ByteArray := prog_6_method_8_code
def yX4_foretold : MethodName := ⟨RX4, "foretold", "(LIndexDesk$Question;)I"⟩
abbrev cX4_fetched : ByteArray := prog_6_method_9_code
def yX4_fetched : MethodName := ⟨RX4, "fetched", "(LIndexDesk$Question;)I"⟩
abbrev cX4_finds : ByteArray := prog_6_method_10_code
def yX4_finds : MethodName := ⟨RX4, "finds", "(LIndexDesk$Question;II)Z"⟩
abbrev cX4_space : ByteArray := prog_6_method_11_code
def yX4_space : MethodName := ⟨RX4, "space", "()I"⟩
def RX5 : String := "IndexDesk$Part"
def TX5 : u_T := fun k => match k with
  | 0 => ("IndexDesk$Ordered", "own", "I", true)
  | 1 => ("IndexDesk$Ordered", "by", "[I", true)
  | 2 => ("IndexDesk$Aid", "kind", "I", true)
  | 3 => ("IndexDesk$Aid", "table", "LIndexDesk$Table;", true)
  | 4 => ("IndexDesk$Aid", "isBuilt", "Z", false)
  | 5 => ("IndexDesk$Part", "column", "I", true)
  | 6 => ("IndexDesk$Part", "from", "I", true)
  | _ => ("IndexDesk$Part", "to", "I", true)
def tyX5 : Nat → FieldType := fun k => match k with
  | 0 => .int
  | 1 => .array .int
  | 2 => .int
  | 3 => .object "IndexDesk$Table"
  | 4 => .boolean
  | 5 => .int
  | 6 => .int
  | _ => .int
theorem nmX5 : ∀ a, a < 8 → ∀ b, b < 8 → a ≠ b → (TX5 a).2.1 ≠ (TX5 b).2.1 := by decide +kernel
theorem tyX5_ok : ∀ k, k < 8 → parseFieldDescriptor (TX5 k).2.2.1 = some (tyX5 k) := by decide +kernel
abbrev cX5_init : ByteArray := prog_7_method_1_code
def yX5_init : MethodName := ⟨RX5, "<init>", "(LIndexDesk$Table;IIIII)V"⟩
abbrev cX5_helps : ByteArray := prog_7_method_2_code
def yX5_helps : MethodName := ⟨RX5, "helps", "(LIndexDesk$Question;)Z"⟩
abbrev cX5_foretoldRows : ByteArray := prog_7_method_3_code
def yX5_foretoldRows : MethodName := ⟨RX5, "foretoldRows", "()I"⟩
abbrev cX5_holds : ByteArray := prog_7_method_4_code
def yX5_holds : MethodName := ⟨RX5, "holds", "(I)Z"⟩
abbrev cX5_keeping : ByteArray := prog_7_method_5_code
def yX5_keeping : MethodName := ⟨RX5, "keeping", "()I"⟩
def RX6 : String := "IndexDesk$Question"
def TX6 : u_T := fun k => match k with
  | 0 => ("IndexDesk$Question", "table", "LIndexDesk$Table;", true)
  | 1 => ("IndexDesk$Question", "wants", "I", true)
  | 2 => ("IndexDesk$Question", "adds", "I", true)
  | 3 => ("IndexDesk$Question", "weight", "I", true)
  | 4 => ("IndexDesk$Question", "tested", "I", false)
  | 5 => ("IndexDesk$Question", "first", "[I", true)
  | _ => ("IndexDesk$Question", "last", "[I", true)
def tyX6 : Nat → FieldType := fun k => match k with
  | 0 => .object "IndexDesk$Table"
  | 1 => .int
  | 2 => .int
  | 3 => .int
  | 4 => .int
  | 5 => .array .int
  | _ => .array .int
theorem nmX6 : ∀ a, a < 7 → ∀ b, b < 7 → a ≠ b → (TX6 a).2.1 ≠ (TX6 b).2.1 := by decide +kernel
theorem tyX6_ok : ∀ k, k < 7 → parseFieldDescriptor (TX6 k).2.2.1 = some (tyX6 k) := by decide +kernel
abbrev cX6_init : ByteArray := prog_8_method_1_code
def yX6_init : MethodName := ⟨RX6, "<init>", "(LIndexDesk$Table;III)V"⟩
abbrev cX6_limit : ByteArray := prog_8_method_2_code
def yX6_limit : MethodName := ⟨RX6, "limit", "(III)V"⟩
abbrev cX6_tests : ByteArray := prog_8_method_3_code
def yX6_tests : MethodName := ⟨RX6, "tests", "(I)Z"⟩
abbrev cX6_testsAlike : ByteArray := prog_8_method_4_code
def yX6_testsAlike : MethodName := ⟨RX6, "testsAlike", "(I)Z"⟩
abbrev cX6_testsWithin : ByteArray := prog_8_method_5_code
def yX6_testsWithin : MethodName := ⟨RX6, "testsWithin", "(III)Z"⟩
abbrev cX6_foretoldPassing : ByteArray := prog_8_method_6_code
def yX6_foretoldPassing : MethodName := ⟨RX6, "foretoldPassing", "(II)I"⟩
abbrev cX6_passesAt : ByteArray := prog_8_method_7_code
def yX6_passesAt : MethodName := ⟨RX6, "passesAt", "(II)Z"⟩
abbrev cX6_passes : ByteArray := prog_8_method_8_code
def yX6_passes : MethodName := ⟨RX6, "passes", "(I)Z"⟩
abbrev cX6_answering : ByteArray := prog_8_method_9_code
def yX6_answering : MethodName := ⟨RX6, "answering", "()I"⟩
abbrev cX6_addedUp : ByteArray := prog_8_method_10_code
def yX6_addedUp : MethodName := ⟨RX6, "addedUp", "()I"⟩
abbrev cX6_touched : ByteArray := prog_8_method_11_code
def yX6_touched : MethodName := ⟨RX6, "touched", "()I"⟩
def RX7 : String := "IndexDesk$Scales"
def TX7 : u_T := fun k => match k with
  | 0 => ("IndexDesk$Scales", "questionCount", "I", false)
  | 1 => ("IndexDesk$Scales", "aidCount", "I", false)
  | 2 => ("IndexDesk$Scales", "weights", "[I", true)
  | 3 => ("IndexDesk$Scales", "costs", "[[I", true)
  | 4 => ("IndexDesk$Scales", "spaces", "[I", true)
  | 5 => ("IndexDesk$Scales", "upkeep", "[I", true)
  | 6 => ("IndexDesk$Scales", "rivals", "[I", true)
  | 7 => ("IndexDesk$Scales", "least", "[[I", true)
  | 8 => ("IndexDesk$Scales", "best", "I", false)
  | _ => ("IndexDesk$Scales", "bestCost", "J", false)
def tyX7 : Nat → FieldType := fun k => match k with
  | 0 => .int
  | 1 => .int
  | 2 => .array .int
  | 3 => .array (.array .int)
  | 4 => .array .int
  | 5 => .array .int
  | 6 => .array .int
  | 7 => .array (.array .int)
  | 8 => .int
  | _ => .long
theorem nmX7 : ∀ a, a < 10 → ∀ b, b < 10 → a ≠ b → (TX7 a).2.1 ≠ (TX7 b).2.1 := by decide +kernel
theorem tyX7_ok : ∀ k, k < 10 → parseFieldDescriptor (TX7 k).2.2.1 = some (tyX7 k) := by decide +kernel
abbrev cX7_init : ByteArray := prog_9_method_1_code
def yX7_init : MethodName := ⟨RX7, "<init>", "()V"⟩
abbrev cX7_load : ByteArray := prog_9_method_2_code
def yX7_load : MethodName := ⟨RX7, "load", "(Ljava/util/ArrayList;Ljava/util/ArrayList;)V"⟩
abbrev cX7_weigh : ByteArray := prog_9_method_3_code
def yX7_weigh : MethodName := ⟨RX7, "weigh", "(I)J"⟩
abbrev cX7_weighNothing : ByteArray := prog_9_method_4_code
def yX7_weighNothing : MethodName := ⟨RX7, "weighNothing", "()J"⟩
abbrev cX7_savedBy : ByteArray := prog_9_method_5_code
def yX7_savedBy : MethodName := ⟨RX7, "savedBy", "(I[I)J"⟩
abbrev cX7_settle : ByteArray := prog_9_method_6_code
def yX7_settle : MethodName := ⟨RX7, "settle", "(IZ)V"⟩
abbrev cX7_fits : ByteArray := prog_9_method_7_code
def yX7_fits : MethodName := ⟨RX7, "fits", "(III)Z"⟩
abbrev cX7_cheapest : ByteArray := prog_9_method_8_code
def yX7_cheapest : MethodName := ⟨RX7, "cheapest", "(I)I"⟩
abbrev cX7_explore : ByteArray := prog_9_method_9_code
def yX7_explore : MethodName := ⟨RX7, "explore", "(IIJI)V"⟩
abbrev cX7_keepIfBetter : ByteArray := prog_9_method_10_code
def yX7_keepIfBetter : MethodName := ⟨RX7, "keepIfBetter", "(IJ)V"⟩
abbrev cX7_gathered : ByteArray := prog_9_method_11_code
def yX7_gathered : MethodName := ⟨RX7, "gathered", "(I)I"⟩
abbrev cX7_mostSaving : ByteArray := prog_9_method_12_code
def yX7_mostSaving : MethodName := ⟨RX7, "mostSaving", "(II)I"⟩
abbrev cX7_lower : ByteArray := prog_9_method_13_code
def yX7_lower : MethodName := ⟨RX7, "lower", "(I)V"⟩
def RX8 : String := "IndexDesk$Sums"
def TX8 : u_T := fun k => match k with
  | 0 => ("IndexDesk$Aid", "kind", "I", true)
  | 1 => ("IndexDesk$Aid", "table", "LIndexDesk$Table;", true)
  | 2 => ("IndexDesk$Aid", "isBuilt", "Z", false)
  | 3 => ("IndexDesk$Sums", "groupedBy", "I", true)
  | _ => ("IndexDesk$Sums", "column", "I", true)
def tyX8 : Nat → FieldType := fun k => match k with
  | 0 => .int
  | 1 => .object "IndexDesk$Table"
  | 2 => .boolean
  | 3 => .int
  | _ => .int
theorem nmX8 : ∀ a, a < 5 → ∀ b, b < 5 → a ≠ b → (TX8 a).2.1 ≠ (TX8 b).2.1 := by decide +kernel
theorem tyX8_ok : ∀ k, k < 5 → parseFieldDescriptor (TX8 k).2.2.1 = some (tyX8 k) := by decide +kernel
abbrev cX8_init : ByteArray := prog_10_method_1_code
def yX8_init : MethodName := ⟨RX8, "<init>", "(LIndexDesk$Table;II)V"⟩
abbrev cX8_helps : ByteArray := prog_10_method_2_code
def yX8_helps : MethodName := ⟨RX8, "helps", "(LIndexDesk$Question;)Z"⟩
abbrev cX8_foretold : ByteArray := prog_10_method_3_code
def yX8_foretold : MethodName := ⟨RX8, "foretold", "(LIndexDesk$Question;)I"⟩
abbrev cX8_fetched : ByteArray := prog_10_method_4_code
def yX8_fetched : MethodName := ⟨RX8, "fetched", "(LIndexDesk$Question;)I"⟩
abbrev cX8_space : ByteArray := prog_10_method_5_code
def yX8_space : MethodName := ⟨RX8, "space", "()I"⟩
abbrev cX8_keeping : ByteArray := prog_10_method_6_code
def yX8_keeping : MethodName := ⟨RX8, "keeping", "()I"⟩
def RX9 : String := "IndexDesk$Table"
def TX9 : u_T := fun k => match k with
  | 0 => ("IndexDesk$Table", "number", "I", true)
  | 1 => ("IndexDesk$Table", "columns", "I", true)
  | 2 => ("IndexDesk$Table", "page", "I", true)
  | 3 => ("IndexDesk$Table", "rows", "I", false)
  | 4 => ("IndexDesk$Table", "changing", "I", false)
  | 5 => ("IndexDesk$Table", "countedRows", "I", false)
  | 6 => ("IndexDesk$Table", "cells", "[I", true)
  | 7 => ("IndexDesk$Table", "unlike", "[I", true)
  | 8 => ("IndexDesk$Table", "least", "[I", true)
  | _ => ("IndexDesk$Table", "greatest", "[I", true)
def tyX9 : Nat → FieldType := fun k => match k with
  | 0 => .int
  | 1 => .int
  | 2 => .int
  | 3 => .int
  | 4 => .int
  | 5 => .int
  | 6 => .array .int
  | 7 => .array .int
  | 8 => .array .int
  | _ => .array .int
theorem nmX9 : ∀ a, a < 10 → ∀ b, b < 10 → a ≠ b → (TX9 a).2.1 ≠ (TX9 b).2.1 := by decide +kernel
theorem tyX9_ok : ∀ k, k < 10 → parseFieldDescriptor (TX9 k).2.2.1 = some (tyX9 k) := by decide +kernel
abbrev cX9_init : ByteArray := prog_11_method_1_code
def yX9_init : MethodName := ⟨RX9, "<init>", "(III)V"⟩
abbrev cX9_has : ByteArray := prog_11_method_2_code
def yX9_has : MethodName := ⟨RX9, "has", "(I)Z"⟩
abbrev cX9_hasOrNone : ByteArray := prog_11_method_3_code
def yX9_hasOrNone : MethodName := ⟨RX9, "hasOrNone", "(I)Z"⟩
abbrev cX9_hasAll : ByteArray := prog_11_method_4_code
def yX9_hasAll : MethodName := ⟨RX9, "hasAll", "(I)Z"⟩
abbrev cX9_allows : ByteArray := prog_11_method_5_code
def yX9_allows : MethodName := ⟨RX9, "allows", "(IIII)Z"⟩
abbrev cX9_allowsAt : ByteArray := prog_11_method_6_code
def yX9_allowsAt : MethodName := ⟨RX9, "allowsAt", "(II)Z"⟩
abbrev cX9_append : ByteArray := prog_11_method_7_code
def yX9_append : MethodName := ⟨RX9, "append", "(IIII)I"⟩
abbrev cX9_write : ByteArray := prog_11_method_8_code
def yX9_write : MethodName := ⟨RX9, "write", "(III)V"⟩
abbrev cX9_isCell : ByteArray := prog_11_method_9_code
def yX9_isCell : MethodName := ⟨RX9, "isCell", "(II)Z"⟩
abbrev cX9_value : ByteArray := prog_11_method_10_code
def yX9_value : MethodName := ⟨RX9, "value", "(II)I"⟩
abbrev cX9_remove : ByteArray := prog_11_method_11_code
def yX9_remove : MethodName := ⟨RX9, "remove", "(I)V"⟩
abbrev cX9_pages : ByteArray := prog_11_method_12_code
def yX9_pages : MethodName := ⟨RX9, "pages", "()I"⟩
abbrev cX9_countedPages : ByteArray := prog_11_method_13_code
def yX9_countedPages : MethodName := ⟨RX9, "countedPages", "()I"⟩
abbrev cX9_pageOf : ByteArray := prog_11_method_14_code
def yX9_pageOf : MethodName := ⟨RX9, "pageOf", "(I)I"⟩
abbrev cX9_takeCounts : ByteArray := prog_11_method_15_code
def yX9_takeCounts : MethodName := ⟨RX9, "takeCounts", "()V"⟩
abbrev cX9_takeEnds : ByteArray := prog_11_method_16_code
def yX9_takeEnds : MethodName := ⟨RX9, "takeEnds", "(I)V"⟩
abbrev cX9_countOfColumn : ByteArray := prog_11_method_17_code
def yX9_countOfColumn : MethodName := ⟨RX9, "countOfColumn", "(II)I"⟩
abbrev cX9_unlikeRows : ByteArray := prog_11_method_18_code
def yX9_unlikeRows : MethodName := ⟨RX9, "unlikeRows", "(I)I"⟩
abbrev cX9_isFirstOfItsLike : ByteArray := prog_11_method_19_code
def yX9_isFirstOfItsLike : MethodName := ⟨RX9, "isFirstOfItsLike", "(II)Z"⟩
abbrev cX9_areAlike : ByteArray := prog_11_method_20_code
def yX9_areAlike : MethodName := ⟨RX9, "areAlike", "(III)Z"⟩
abbrev cX9_foretoldGroups : ByteArray := prog_11_method_21_code
def yX9_foretoldGroups : MethodName := ⟨RX9, "foretoldGroups", "(I)I"⟩
abbrev cX9_foretoldPassing : ByteArray := prog_11_method_22_code
def yX9_foretoldPassing : MethodName := ⟨RX9, "foretoldPassing", "(IIII)I"⟩
def RX10 : String := "IndexDesk"
def TX10 : u_T := fun k => match k with
  | 0 => ("IndexDesk", "tables", "[LIndexDesk$Table;", true)
  | 1 => ("IndexDesk", "questions", "Ljava/util/ArrayList;", true)
  | 2 => ("IndexDesk", "aids", "Ljava/util/ArrayList;", true)
  | _ => ("IndexDesk", "scales", "LIndexDesk$Scales;", true)
def tyX10 : Nat → FieldType := fun k => match k with
  | 0 => .array (.object "IndexDesk$Table")
  | 1 => .object "java/util/ArrayList"
  | 2 => .object "java/util/ArrayList"
  | _ => .object "IndexDesk$Scales"
theorem nmX10 : ∀ a, a < 4 → ∀ b, b < 4 → a ≠ b → (TX10 a).2.1 ≠ (TX10 b).2.1 := by decide +kernel
theorem tyX10_ok : ∀ k, k < 4 → parseFieldDescriptor (TX10 k).2.2.1 = some (tyX10 k) := by decide +kernel
abbrev cX10_init : ByteArray := prog_1_method_1_code
def yX10_init : MethodName := ⟨RX10, "<init>", "()V"⟩
abbrev cX10_table : ByteArray := prog_1_method_2_code
def yX10_table : MethodName := ⟨RX10, "table", "(III)Z"⟩
abbrev cX10_put : ByteArray := prog_1_method_3_code
def yX10_put : MethodName := ⟨RX10, "put", "(IIIII)I"⟩
abbrev cX10_strike : ByteArray := prog_1_method_4_code
def yX10_strike : MethodName := ⟨RX10, "strike", "(II)Z"⟩
abbrev cX10_recount : ByteArray := prog_1_method_5_code
def yX10_recount : MethodName := ⟨RX10, "recount", "(I)I"⟩
abbrev cX10_counts : ByteArray := prog_1_method_6_code
def yX10_counts : MethodName := ⟨RX10, "counts", "(III)I"⟩
abbrev cX10_changes : ByteArray := prog_1_method_7_code
def yX10_changes : MethodName := ⟨RX10, "changes", "(II)Z"⟩
abbrev cX10_question : ByteArray := prog_1_method_8_code
def yX10_question : MethodName := ⟨RX10, "question", "(IIII)I"⟩
abbrev cX10_test : ByteArray := prog_1_method_9_code
def yX10_test : MethodName := ⟨RX10, "test", "(IIII)Z"⟩
abbrev cX10_order : ByteArray := prog_1_method_10_code
def yX10_order : MethodName := ⟨RX10, "order", "(IIIIII)I"⟩
abbrev cX10_part : ByteArray := prog_1_method_11_code
def yX10_part : MethodName := ⟨RX10, "part", "(IIIIII)I"⟩
abbrev cX10_sums : ByteArray := prog_1_method_12_code
def yX10_sums : MethodName := ⟨RX10, "sums", "(III)I"⟩
abbrev cX10_build : ByteArray := prog_1_method_13_code
def yX10_build : MethodName := ⟨RX10, "build", "(IZ)Z"⟩
abbrev cX10_look : ByteArray := prog_1_method_14_code
def yX10_look : MethodName := ⟨RX10, "look", "(II)J"⟩
abbrev cX10_cost : ByteArray := prog_1_method_15_code
def yX10_cost : MethodName := ⟨RX10, "cost", "(II)I"⟩
abbrev cX10_plan : ByteArray := prog_1_method_16_code
def yX10_plan : MethodName := ⟨RX10, "plan", "(I)I"⟩
abbrev cX10_run : ByteArray := prog_1_method_17_code
def yX10_run : MethodName := ⟨RX10, "run", "(II)I"⟩
abbrev cX10_total : ByteArray := prog_1_method_18_code
def yX10_total : MethodName := ⟨RX10, "total", "(I)J"⟩
abbrev cX10_room : ByteArray := prog_1_method_19_code
def yX10_room : MethodName := ⟨RX10, "room", "(I)I"⟩
abbrev cX10_built : ByteArray := prog_1_method_20_code
def yX10_built : MethodName := ⟨RX10, "built", "()I"⟩
abbrev cX10_choose : ByteArray := prog_1_method_21_code
def yX10_choose : MethodName := ⟨RX10, "choose", "(I)I"⟩
abbrev cX10_greedy : ByteArray := prog_1_method_22_code
def yX10_greedy : MethodName := ⟨RX10, "greedy", "(I)I"⟩
abbrev cX10_count : ByteArray := prog_1_method_23_code
def yX10_count : MethodName := ⟨RX10, "count", "(I)I"⟩
abbrev cX10_tableAt : ByteArray := prog_1_method_24_code
def yX10_tableAt : MethodName := ⟨RX10, "tableAt", "(I)LIndexDesk$Table;"⟩
abbrev cX10_questionAt : ByteArray := prog_1_method_25_code
def yX10_questionAt : MethodName := ⟨RX10, "questionAt", "(I)LIndexDesk$Question;"⟩
abbrev cX10_aidAt : ByteArray := prog_1_method_26_code
def yX10_aidAt : MethodName := ⟨RX10, "aidAt", "(I)LIndexDesk$Aid;"⟩
abbrev cX10_tableForAid : ByteArray := prog_1_method_27_code
def yX10_tableForAid : MethodName := ⟨RX10, "tableForAid", "(I)LIndexDesk$Table;"⟩
abbrev cX10_enlist : ByteArray := prog_1_method_28_code
def yX10_enlist : MethodName := ⟨RX10, "enlist", "(LIndexDesk$Aid;)I"⟩
abbrev cX10_isSet : ByteArray := prog_1_method_29_code
def yX10_isSet : MethodName := ⟨RX10, "isSet", "(I)Z"⟩
abbrev cX10_tablesTold : ByteArray := prog_1_method_30_code
def yX10_tablesTold : MethodName := ⟨RX10, "tablesTold", "()I"⟩
abbrev cX10_rowsInAll : ByteArray := prog_1_method_31_code
def yX10_rowsInAll : MethodName := ⟨RX10, "rowsInAll", "()I"⟩
abbrev cX10_canOrderBy : ByteArray := prog_1_method_32_code
def yX10_canOrderBy : MethodName := ⟨RX10, "canOrderBy", "(LIndexDesk$Table;III)Z"⟩
abbrev cX10_rivalsOf : ByteArray := prog_1_method_33_code
def yX10_rivalsOf : MethodName := ⟨RX10, "rivalsOf", "(Ljava/util/ArrayList;I)I"⟩
abbrev cX10_isBetween : ByteArray := prog_1_method_34_code
def yX10_isBetween : MethodName := ⟨RX10, "isBetween", "(III)Z"⟩
abbrev cX10_isRange : ByteArray := prog_1_method_35_code
def yX10_isRange : MethodName := ⟨RX10, "isRange", "(II)Z"⟩
abbrev cX10_bit : ByteArray := prog_1_method_36_code
def yX10_bit : MethodName := ⟨RX10, "bit", "(I)I"⟩
abbrev cX10_isIn : ByteArray := prog_1_method_37_code
def yX10_isIn : MethodName := ⟨RX10, "isIn", "(II)Z"⟩
abbrev cX10_dividedUp : ByteArray := prog_1_method_38_code
def yX10_dividedUp : MethodName := ⟨RX10, "dividedUp", "(II)I"⟩
def RX11 : String := "IndexDeskModel"
def TX11 : u_T := fun k => match k with
  | 0 => ("IndexDeskModel", "columns", "[I", true)
  | 1 => ("IndexDeskModel", "page", "[I", true)
  | 2 => ("IndexDeskModel", "rows", "[I", true)
  | 3 => ("IndexDeskModel", "value", "[I", true)
  | 4 => ("IndexDeskModel", "counted", "[I", true)
  | 5 => ("IndexDeskModel", "unlike", "[I", true)
  | 6 => ("IndexDeskModel", "least", "[I", true)
  | 7 => ("IndexDeskModel", "greatest", "[I", true)
  | 8 => ("IndexDeskModel", "changes", "[I", true)
  | 9 => ("IndexDeskModel", "questions", "I", false)
  | 10 => ("IndexDeskModel", "asked", "[I", true)
  | 11 => ("IndexDeskModel", "wants", "[I", true)
  | 12 => ("IndexDeskModel", "adds", "[I", true)
  | 13 => ("IndexDeskModel", "weight", "[I", true)
  | 14 => ("IndexDeskModel", "isTested", "[Z", true)
  | 15 => ("IndexDeskModel", "from", "[I", true)
  | 16 => ("IndexDeskModel", "to", "[I", true)
  | 17 => ("IndexDeskModel", "aids", "I", false)
  | 18 => ("IndexDeskModel", "built", "I", false)
  | 19 => ("IndexDeskModel", "kind", "[I", true)
  | 20 => ("IndexDeskModel", "of", "[I", true)
  | 21 => ("IndexDeskModel", "many", "[I", true)
  | 22 => ("IndexDeskModel", "by", "[I", true)
  | 23 => ("IndexDeskModel", "set", "[I", true)
  | 24 => ("IndexDeskModel", "column", "[I", true)
  | 25 => ("IndexDeskModel", "low", "[I", true)
  | 26 => ("IndexDeskModel", "high", "[I", true)
  | 27 => ("IndexDeskModel", "costs", "[I", true)
  | _ => ("IndexDeskModel", "rooms", "[I", true)
def tyX11 : Nat → FieldType := fun k => match k with
  | 0 => .array .int
  | 1 => .array .int
  | 2 => .array .int
  | 3 => .array .int
  | 4 => .array .int
  | 5 => .array .int
  | 6 => .array .int
  | 7 => .array .int
  | 8 => .array .int
  | 9 => .int
  | 10 => .array .int
  | 11 => .array .int
  | 12 => .array .int
  | 13 => .array .int
  | 14 => .array .boolean
  | 15 => .array .int
  | 16 => .array .int
  | 17 => .int
  | 18 => .int
  | 19 => .array .int
  | 20 => .array .int
  | 21 => .array .int
  | 22 => .array .int
  | 23 => .array .int
  | 24 => .array .int
  | 25 => .array .int
  | 26 => .array .int
  | 27 => .array .int
  | _ => .array .int
theorem nmX11 : ∀ a, a < 29 → ∀ b, b < 29 → a ≠ b → (TX11 a).2.1 ≠ (TX11 b).2.1 := by decide +kernel
theorem tyX11_ok : ∀ k, k < 29 → parseFieldDescriptor (TX11 k).2.2.1 = some (tyX11 k) := by decide +kernel
abbrev cX11_init : ByteArray := prog_13_method_1_code
def yX11_init : MethodName := ⟨RX11, "<init>", "()V"⟩
abbrev cX11_lies : ByteArray := prog_13_method_2_code
def yX11_lies : MethodName := ⟨RX11, "lies", "(III)Z"⟩
abbrev cX11_isTable : ByteArray := prog_13_method_3_code
def yX11_isTable : MethodName := ⟨RX11, "isTable", "(I)Z"⟩
abbrev cX11_isColumn : ByteArray := prog_13_method_4_code
def yX11_isColumn : MethodName := ⟨RX11, "isColumn", "(II)Z"⟩
abbrev cX11_up : ByteArray := prog_13_method_5_code
def yX11_up : MethodName := ⟨RX11, "up", "(II)I"⟩
abbrev cX11_isIn : ByteArray := prog_13_method_6_code
def yX11_isIn : MethodName := ⟨RX11, "isIn", "(II)Z"⟩
abbrev cX11_size : ByteArray := prog_13_method_7_code
def yX11_size : MethodName := ⟨RX11, "size", "(I)I"⟩
abbrev cX11_table : ByteArray := prog_13_method_8_code
def yX11_table : MethodName := ⟨RX11, "table", "(III)Z"⟩
abbrev cX11_at : ByteArray := prog_13_method_9_code
def yX11_at : MethodName := ⟨RX11, "at", "(III)I"⟩
abbrev cX11_put : ByteArray := prog_13_method_10_code
def yX11_put : MethodName := ⟨RX11, "put", "(IIIII)I"⟩
abbrev cX11_strike : ByteArray := prog_13_method_11_code
def yX11_strike : MethodName := ⟨RX11, "strike", "(II)Z"⟩
abbrev cX11_recount : ByteArray := prog_13_method_12_code
def yX11_recount : MethodName := ⟨RX11, "recount", "(I)I"⟩
abbrev cX11_pages : ByteArray := prog_13_method_13_code
def yX11_pages : MethodName := ⟨RX11, "pages", "(I)I"⟩
abbrev cX11_counts : ByteArray := prog_13_method_14_code
def yX11_counts : MethodName := ⟨RX11, "counts", "(III)I"⟩
abbrev cX11_changes : ByteArray := prog_13_method_15_code
def yX11_changes : MethodName := ⟨RX11, "changes", "(II)Z"⟩
abbrev cX11_question : ByteArray := prog_13_method_16_code
def yX11_question : MethodName := ⟨RX11, "question", "(IIII)I"⟩
abbrev cX11_isQuestion : ByteArray := prog_13_method_17_code
def yX11_isQuestion : MethodName := ⟨RX11, "isQuestion", "(I)Z"⟩
abbrev cX11_test : ByteArray := prog_13_method_18_code
def yX11_test : MethodName := ⟨RX11, "test", "(IIII)Z"⟩
abbrev cX11_aid : ByteArray := prog_13_method_19_code
def yX11_aid : MethodName := ⟨RX11, "aid", "(IIIII)I"⟩
abbrev cX11_inTurn : ByteArray := prog_13_method_20_code
def yX11_inTurn : MethodName := ⟨RX11, "inTurn", "(IIII)I"⟩
abbrev cX11_order : ByteArray := prog_13_method_21_code
def yX11_order : MethodName := ⟨RX11, "order", "(IIIIII)I"⟩
abbrev cX11_part : ByteArray := prog_13_method_22_code
def yX11_part : MethodName := ⟨RX11, "part", "(IIIIII)I"⟩
abbrev cX11_sums : ByteArray := prog_13_method_23_code
def yX11_sums : MethodName := ⟨RX11, "sums", "(III)I"⟩
abbrev cX11_isAid : ByteArray := prog_13_method_24_code
def yX11_isAid : MethodName := ⟨RX11, "isAid", "(I)Z"⟩
abbrev cX11_build : ByteArray := prog_13_method_25_code
def yX11_build : MethodName := ⟨RX11, "build", "(IZ)Z"⟩
abbrev cX11_isSet : ByteArray := prog_13_method_26_code
def yX11_isSet : MethodName := ⟨RX11, "isSet", "(I)Z"⟩
abbrev cX11_passes : ByteArray := prog_13_method_27_code
def yX11_passes : MethodName := ⟨RX11, "passes", "(IIIII)I"⟩
abbrev cX11_uses : ByteArray := prog_13_method_28_code
def yX11_uses : MethodName := ⟨RX11, "uses", "(II)I"⟩
abbrev cX11_own : ByteArray := prog_13_method_29_code
def yX11_own : MethodName := ⟨RX11, "own", "(I)I"⟩
abbrev cX11_matched : ByteArray := prog_13_method_30_code
def yX11_matched : MethodName := ⟨RX11, "matched", "(II)I"⟩
abbrev cX11_groups : ByteArray := prog_13_method_31_code
def yX11_groups : MethodName := ⟨RX11, "groups", "(I)I"⟩
abbrev cX11_roomOf : ByteArray := prog_13_method_32_code
def yX11_roomOf : MethodName := ⟨RX11, "roomOf", "(I)I"⟩
abbrev cX11_keeping : ByteArray := prog_13_method_33_code
def yX11_keeping : MethodName := ⟨RX11, "keeping", "(I)I"⟩
abbrev cX11_tested : ByteArray := prog_13_method_34_code
def yX11_tested : MethodName := ⟨RX11, "tested", "(I)I"⟩
abbrev cX11_helps : ByteArray := prog_13_method_35_code
def yX11_helps : MethodName := ⟨RX11, "helps", "(II)Z"⟩
abbrev cX11_covers : ByteArray := prog_13_method_36_code
def yX11_covers : MethodName := ⟨RX11, "covers", "(II)Z"⟩
abbrev cX11_costOf : ByteArray := prog_13_method_37_code
def yX11_costOf : MethodName := ⟨RX11, "costOf", "(II)I"⟩
abbrev cX11_cost : ByteArray := prog_13_method_38_code
def yX11_cost : MethodName := ⟨RX11, "cost", "(II)I"⟩
abbrev cX11_planOf : ByteArray := prog_13_method_39_code
def yX11_planOf : MethodName := ⟨RX11, "planOf", "(II)I"⟩
abbrev cX11_plan : ByteArray := prog_13_method_40_code
def yX11_plan : MethodName := ⟨RX11, "plan", "(I)I"⟩
abbrev cX11_passesNow : ByteArray := prog_13_method_41_code
def yX11_passesNow : MethodName := ⟨RX11, "passesNow", "(IIIII)Z"⟩
abbrev cX11_answers : ByteArray := prog_13_method_42_code
def yX11_answers : MethodName := ⟨RX11, "answers", "(II)Z"⟩
abbrev cX11_matchesNow : ByteArray := prog_13_method_43_code
def yX11_matchesNow : MethodName := ⟨RX11, "matchesNow", "(III)Z"⟩
abbrev cX11_alike : ByteArray := prog_13_method_44_code
def yX11_alike : MethodName := ⟨RX11, "alike", "(IIII)Z"⟩
abbrev cX11_fetched : ByteArray := prog_13_method_45_code
def yX11_fetched : MethodName := ⟨RX11, "fetched", "(I)I"⟩
abbrev cX11_run : ByteArray := prog_13_method_46_code
def yX11_run : MethodName := ⟨RX11, "run", "(II)I"⟩
abbrev cX11_totalOf : ByteArray := prog_13_method_47_code
def yX11_totalOf : MethodName := ⟨RX11, "totalOf", "(I)J"⟩
abbrev cX11_roomOfSet : ByteArray := prog_13_method_48_code
def yX11_roomOfSet : MethodName := ⟨RX11, "roomOfSet", "(I)I"⟩
abbrev cX11_total : ByteArray := prog_13_method_49_code
def yX11_total : MethodName := ⟨RX11, "total", "(I)J"⟩
abbrev cX11_room : ByteArray := prog_13_method_50_code
def yX11_room : MethodName := ⟨RX11, "room", "(I)I"⟩
abbrev cX11_built : ByteArray := prog_13_method_51_code
def yX11_built : MethodName := ⟨RX11, "built", "()I"⟩
abbrev cX11_look : ByteArray := prog_13_method_52_code
def yX11_look : MethodName := ⟨RX11, "look", "(II)J"⟩
abbrev cX11_works : ByteArray := prog_13_method_53_code
def yX11_works : MethodName := ⟨RX11, "works", "()V"⟩
abbrev cX11_totalWorked : ByteArray := prog_13_method_54_code
def yX11_totalWorked : MethodName := ⟨RX11, "totalWorked", "(I)J"⟩
abbrev cX11_isAhead : ByteArray := prog_13_method_55_code
def yX11_isAhead : MethodName := ⟨RX11, "isAhead", "(II)Z"⟩
abbrev cX11_choose : ByteArray := prog_13_method_56_code
def yX11_choose : MethodName := ⟨RX11, "choose", "(I)I"⟩
abbrev cX11_greedy : ByteArray := prog_13_method_57_code
def yX11_greedy : MethodName := ⟨RX11, "greedy", "(I)I"⟩
abbrev cX11_count : ByteArray := prog_13_method_58_code
def yX11_count : MethodName := ⟨RX11, "count", "(I)I"⟩
def RJx145de : String := "java/io/Serializable"
def TJx145de : u_T := fun k => match k with
  | _ => ("", "", "", false)
def tyJx145de : Nat → FieldType := fun k => match k with
  | _ => .int
theorem nmJx145de : ∀ a, a < 0 → ∀ b, b < 0 → a ≠ b → (TJx145de a).2.1 ≠ (TJx145de b).2.1 := by decide +kernel
theorem tyJx145de_ok : ∀ k, k < 0 → parseFieldDescriptor (TJx145de k).2.2.1 = some (tyJx145de k) := by decide +kernel
def RJx8e188 : String := "java/lang/Cloneable"
def TJx8e188 : u_T := fun k => match k with
  | _ => ("", "", "", false)
def tyJx8e188 : Nat → FieldType := fun k => match k with
  | _ => .int
theorem nmJx8e188 : ∀ a, a < 0 → ∀ b, b < 0 → a ≠ b → (TJx8e188 a).2.1 ≠ (TJx8e188 b).2.1 := by decide +kernel
theorem tyJx8e188_ok : ∀ k, k < 0 → parseFieldDescriptor (TJx8e188 k).2.2.1 = some (tyJx8e188 k) := by decide +kernel
def RJ6 : String := "java/lang/Integer"
def TJ6 : u_T := fun k => match k with
  | _ => ("", "", "", false)
def tyJ6 : Nat → FieldType := fun k => match k with
  | _ => .int
theorem nmJ6 : ∀ a, a < 0 → ∀ b, b < 0 → a ≠ b → (TJ6 a).2.1 ≠ (TJ6 b).2.1 := by decide +kernel
theorem tyJ6_ok : ∀ k, k < 0 → parseFieldDescriptor (TJ6 k).2.2.1 = some (tyJ6 k) := by decide +kernel
abbrev cJ6_bitCount_0f7a4 : ByteArray := prog_16_method_49_code
def yJ6_bitCount_0f7a4 : MethodName := ⟨RJ6, "bitCount", "(I)I"⟩
def RJxab1ab : String := "java/lang/Iterable"
def TJxab1ab : u_T := fun k => match k with
  | _ => ("", "", "", false)
def tyJxab1ab : Nat → FieldType := fun k => match k with
  | _ => .int
theorem nmJxab1ab : ∀ a, a < 0 → ∀ b, b < 0 → a ≠ b → (TJxab1ab a).2.1 ≠ (TJxab1ab b).2.1 := by decide +kernel
theorem tyJxab1ab_ok : ∀ k, k < 0 → parseFieldDescriptor (TJxab1ab k).2.2.1 = some (tyJxab1ab k) := by decide +kernel
def RJ9 : String := "java/lang/Math"
def TJ9 : u_T := fun k => match k with
  | _ => ("", "", "", false)
def tyJ9 : Nat → FieldType := fun k => match k with
  | _ => .int
theorem nmJ9 : ∀ a, a < 0 → ∀ b, b < 0 → a ≠ b → (TJ9 a).2.1 ≠ (TJ9 b).2.1 := by decide +kernel
theorem tyJ9_ok : ∀ k, k < 0 → parseFieldDescriptor (TJ9 k).2.2.1 = some (tyJ9 k) := by decide +kernel
abbrev cJ9_max_7cf53 : ByteArray := prog_18_method_65_code
def yJ9_max_7cf53 : MethodName := ⟨RJ9, "max", "(II)I"⟩
abbrev cJ9_min_7cf53 : ByteArray := prog_18_method_69_code
def yJ9_min_7cf53 : MethodName := ⟨RJ9, "min", "(II)I"⟩
def RJ10 : String := "java/lang/System"
def TJ10 : u_T := fun k => match k with
  | _ => ("", "", "", false)
def tyJ10 : Nat → FieldType := fun k => match k with
  | _ => .int
theorem nmJ10 : ∀ a, a < 0 → ∀ b, b < 0 → a ≠ b → (TJ10 a).2.1 ≠ (TJ10 b).2.1 := by decide +kernel
theorem tyJ10_ok : ∀ k, k < 0 → parseFieldDescriptor (TJ10 k).2.2.1 = some (tyJ10 k) := by decide +kernel
def RJxa1e45 : String := "java/util/AbstractCollection"
def TJxa1e45 : u_T := fun k => match k with
  | _ => ("", "", "", false)
def tyJxa1e45 : Nat → FieldType := fun k => match k with
  | _ => .int
theorem nmJxa1e45 : ∀ a, a < 0 → ∀ b, b < 0 → a ≠ b → (TJxa1e45 a).2.1 ≠ (TJxa1e45 b).2.1 := by decide +kernel
theorem tyJxa1e45_ok : ∀ k, k < 0 → parseFieldDescriptor (TJxa1e45 k).2.2.1 = some (tyJxa1e45 k) := by decide +kernel
abbrev cJxa1e45_init_da8c8 : ByteArray := prog_20_method_1_code
def yJxa1e45_init_da8c8 : MethodName := ⟨RJxa1e45, "<init>", "()V"⟩
def RJxc12de : String := "java/util/AbstractList"
def TJxc12de : u_T := fun k => match k with
  | _ => ("", "", "", false)
def tyJxc12de : Nat → FieldType := fun k => match k with
  | _ => .int
theorem nmJxc12de : ∀ a, a < 0 → ∀ b, b < 0 → a ≠ b → (TJxc12de a).2.1 ≠ (TJxc12de b).2.1 := by decide +kernel
theorem tyJxc12de_ok : ∀ k, k < 0 → parseFieldDescriptor (TJxc12de k).2.2.1 = some (tyJxc12de k) := by decide +kernel
abbrev cJxc12de_init_da8c8 : ByteArray := prog_21_method_1_code
def yJxc12de_init_da8c8 : MethodName := ⟨RJxc12de, "<init>", "()V"⟩
def RJx4a65c : String := "java/util/ArrayList"
def TJx4a65c : u_T := fun k => match k with
  | 0 => ("java/util/AbstractList", "modCount", "I", false)
  | 1 => ("java/util/ArrayList", "elementData", "[Ljava/lang/Object;", false)
  | _ => ("java/util/ArrayList", "size", "I", false)
def tyJx4a65c : Nat → FieldType := fun k => match k with
  | 0 => .int
  | 1 => .array (.object "java/lang/Object")
  | _ => .int
theorem nmJx4a65c : ∀ a, a < 3 → ∀ b, b < 3 → a ≠ b → (TJx4a65c a).2.1 ≠ (TJx4a65c b).2.1 := by decide +kernel
theorem tyJx4a65c_ok : ∀ k, k < 3 → parseFieldDescriptor (TJx4a65c k).2.2.1 = some (tyJx4a65c k) := by decide +kernel
abbrev cJx4a65c_init_da8c8 : ByteArray := prog_22_method_2_code
def yJx4a65c_init_da8c8 : MethodName := ⟨RJx4a65c, "<init>", "()V"⟩
abbrev cJx4a65c_grow_92f84 : ByteArray := prog_22_method_6_code
def yJx4a65c_grow_92f84 : MethodName := ⟨RJx4a65c, "grow", "(I)[Ljava/lang/Object;"⟩
abbrev cJx4a65c_grow_d5877 : ByteArray := prog_22_method_7_code
def yJx4a65c_grow_d5877 : MethodName := ⟨RJx4a65c, "grow", "()[Ljava/lang/Object;"⟩
abbrev cJx4a65c_size_8abf5 : ByteArray := prog_22_method_8_code
def yJx4a65c_size_8abf5 : MethodName := ⟨RJx4a65c, "size", "()I"⟩
abbrev cJx4a65c_elementData_915e3 : ByteArray := prog_22_method_18_code
def yJx4a65c_elementData_915e3 : MethodName := ⟨RJx4a65c, "elementData", "(I)Ljava/lang/Object;"⟩
abbrev cJx4a65c_get_915e3 : ByteArray := prog_22_method_20_code
def yJx4a65c_get_915e3 : MethodName := ⟨RJx4a65c, "get", "(I)Ljava/lang/Object;"⟩
abbrev cJx4a65c_add_72be8 : ByteArray := prog_22_method_24_code
def yJx4a65c_add_72be8 : MethodName := ⟨RJx4a65c, "add", "(Ljava/lang/Object;[Ljava/lang/Object;I)V"⟩
abbrev cJx4a65c_add_9ea2d : ByteArray := prog_22_method_25_code
def yJx4a65c_add_9ea2d : MethodName := ⟨RJx4a65c, "add", "(Ljava/lang/Object;)Z"⟩
def RJ7 : String := "java/util/Arrays"
def TJ7 : u_T := fun k => match k with
  | _ => ("", "", "", false)
def tyJ7 : Nat → FieldType := fun k => match k with
  | _ => .int
theorem nmJ7 : ∀ a, a < 0 → ∀ b, b < 0 → a ≠ b → (TJ7 a).2.1 ≠ (TJ7 b).2.1 := by decide +kernel
theorem tyJ7_ok : ∀ k, k < 0 → parseFieldDescriptor (TJ7 k).2.2.1 = some (tyJ7 k) := by decide +kernel
abbrev cJ7_copyOf_1904c : ByteArray := prog_23_method_119_code
def yJ7_copyOf_1904c : MethodName := ⟨RJ7, "copyOf", "([Ljava/lang/Object;I)[Ljava/lang/Object;"⟩
abbrev cJ7_copyOf_6403c : ByteArray := prog_23_method_120_code
def yJ7_copyOf_6403c : MethodName := ⟨RJ7, "copyOf", "([Ljava/lang/Object;ILjava/lang/Class;)[Ljava/lang/Object;"⟩
def RJx5ef63 : String := "java/util/Collection"
def TJx5ef63 : u_T := fun k => match k with
  | _ => ("", "", "", false)
def tyJx5ef63 : Nat → FieldType := fun k => match k with
  | _ => .int
theorem nmJx5ef63 : ∀ a, a < 0 → ∀ b, b < 0 → a ≠ b → (TJx5ef63 a).2.1 ≠ (TJx5ef63 b).2.1 := by decide +kernel
theorem tyJx5ef63_ok : ∀ k, k < 0 → parseFieldDescriptor (TJx5ef63 k).2.2.1 = some (tyJx5ef63 k) := by decide +kernel
def RJxbd725 : String := "java/util/List"
def TJxbd725 : u_T := fun k => match k with
  | _ => ("", "", "", false)
def tyJxbd725 : Nat → FieldType := fun k => match k with
  | _ => .int
theorem nmJxbd725 : ∀ a, a < 0 → ∀ b, b < 0 → a ≠ b → (TJxbd725 a).2.1 ≠ (TJxbd725 b).2.1 := by decide +kernel
theorem tyJxbd725_ok : ∀ k, k < 0 → parseFieldDescriptor (TJxbd725 k).2.2.1 = some (tyJxbd725 k) := by decide +kernel
def RJ15 : String := "java/util/Objects"
def TJ15 : u_T := fun k => match k with
  | _ => ("", "", "", false)
def tyJ15 : Nat → FieldType := fun k => match k with
  | _ => .int
theorem nmJ15 : ∀ a, a < 0 → ∀ b, b < 0 → a ≠ b → (TJ15 a).2.1 ≠ (TJ15 b).2.1 := by decide +kernel
theorem tyJ15_ok : ∀ k, k < 0 → parseFieldDescriptor (TJ15 k).2.2.1 = some (tyJ15 k) := by decide +kernel
abbrev cJ15_checkIndex_7cf53 : ByteArray := prog_26_method_17_code
def yJ15_checkIndex_7cf53 : MethodName := ⟨RJ15, "checkIndex", "(II)I"⟩
def RJxf0a74 : String := "java/util/RandomAccess"
def TJxf0a74 : u_T := fun k => match k with
  | _ => ("", "", "", false)
def tyJxf0a74 : Nat → FieldType := fun k => match k with
  | _ => .int
theorem nmJxf0a74 : ∀ a, a < 0 → ∀ b, b < 0 → a ≠ b → (TJxf0a74 a).2.1 ≠ (TJxf0a74 b).2.1 := by decide +kernel
theorem tyJxf0a74_ok : ∀ k, k < 0 → parseFieldDescriptor (TJxf0a74 k).2.2.1 = some (tyJxf0a74 k) := by decide +kernel
def RJxa66e6 : String := "java/util/SequencedCollection"
def TJxa66e6 : u_T := fun k => match k with
  | _ => ("", "", "", false)
def tyJxa66e6 : Nat → FieldType := fun k => match k with
  | _ => .int
theorem nmJxa66e6 : ∀ a, a < 0 → ∀ b, b < 0 → a ≠ b → (TJxa66e6 a).2.1 ≠ (TJxa66e6 b).2.1 := by decide +kernel
theorem tyJxa66e6_ok : ∀ k, k < 0 → parseFieldDescriptor (TJxa66e6 k).2.2.1 = some (tyJxa66e6 k) := by decide +kernel
def RJ8 : String := "jdk/internal/util/ArraysSupport"
def TJ8 : u_T := fun k => match k with
  | _ => ("", "", "", false)
def tyJ8 : Nat → FieldType := fun k => match k with
  | _ => .int
theorem nmJ8 : ∀ a, a < 0 → ∀ b, b < 0 → a ≠ b → (TJ8 a).2.1 ≠ (TJ8 b).2.1 := by decide +kernel
theorem tyJ8_ok : ∀ k, k < 0 → parseFieldDescriptor (TJ8 k).2.2.1 = some (tyJ8 k) := by decide +kernel
abbrev cJ8_newLength_cabcc : ByteArray := prog_29_method_27_code
def yJ8_newLength_cabcc : MethodName := ⟨RJ8, "newLength", "(III)I"⟩
abbrev cJ8_hugeLength_7cf53 : ByteArray := prog_29_method_28_code
def yJ8_hugeLength_7cf53 : MethodName := ⟨RJ8, "hugeLength", "(II)I"⟩
def RJ3 : String := "jdk/internal/util/Preconditions"
def TJ3 : u_T := fun k => match k with
  | _ => ("", "", "", false)
def tyJ3 : Nat → FieldType := fun k => match k with
  | _ => .int
theorem nmJ3 : ∀ a, a < 0 → ∀ b, b < 0 → a ≠ b → (TJ3 a).2.1 ≠ (TJ3 b).2.1 := by decide +kernel
theorem tyJ3_ok : ∀ k, k < 0 → parseFieldDescriptor (TJ3 k).2.2.1 = some (tyJ3 k) := by decide +kernel
abbrev cJ3_checkIndex_8e157 : ByteArray := prog_30_method_11_code
def yJ3_checkIndex_8e157 : MethodName := ⟨RJ3, "checkIndex", "(IILjava/util/function/BiFunction;)I"⟩
def RL : String := "IndexDeskLaw"
abbrev cL_law : ByteArray := code
def yL_law : MethodName := ⟨RL, "law", "([I)Z"⟩
abbrev vwCl : List vw_C := [(RJx4a65c, TJx4a65c, 3), (RX1, TX1, 5), (RX2, TX2, 6), (RX3, TX3, 5), (RX5, TX5, 8), (RX6, TX6, 7), (RX7, TX7, 10), (RX8, TX8, 5), (RX9, TX9, 10), (RX10, TX10, 4), (RX11, TX11, 29)]
end
section
theorem dX0_init_0 : decode cX0_init 0 = .ok (.aload_n 0, 1) := by decide +kernel
theorem dX0_init_1 : decode cX0_init 1 = .ok (.invokespecial 1, 3) := by decide +kernel
theorem dX0_init_4 : decode cX0_init 4 = .ok (.aload_n 0, 1) := by decide +kernel
theorem dX0_init_5 : decode cX0_init 5 = .ok (.iload_n 1, 1) := by decide +kernel
theorem dX0_init_6 : decode cX0_init 6 = .ok (.putfield 7, 3) := by decide +kernel
theorem dX0_init_9 : decode cX0_init 9 = .ok (.aload_n 0, 1) := by decide +kernel
theorem dX0_init_10 : decode cX0_init 10 = .ok (.aload_n 2, 1) := by decide +kernel
theorem dX0_init_11 : decode cX0_init 11 = .ok (.putfield 13, 3) := by decide +kernel
theorem dX0_init_14 : decode cX0_init 14 = .ok (.return_, 1) := by decide +kernel
theorem dX1_init_0 : decode cX1_init 0 = .ok (.aload_n 0, 1) := by decide +kernel
theorem dX1_init_1 : decode cX1_init 1 = .ok (.iconst 4, 1) := by decide +kernel
theorem dX1_init_2 : decode cX1_init 2 = .ok (.aload_n 1, 1) := by decide +kernel
theorem dX1_init_3 : decode cX1_init 3 = .ok (.iload_n 2, 1) := by decide +kernel
theorem dX1_init_4 : decode cX1_init 4 = .ok (.iload_n 3, 1) := by decide +kernel
theorem dX1_init_5 : decode cX1_init 5 = .ok (.iload 4, 2) := by decide +kernel
theorem dX1_init_7 : decode cX1_init 7 = .ok (.invokespecial 3, 3) := by decide +kernel
theorem dX1_init_10 : decode cX1_init 10 = .ok (.return_, 1) := by decide +kernel
theorem dX1_mustFetch_0 : decode cX1_mustFetch 0 = .ok (.iconst 0, 1) := by decide +kernel
theorem dX1_mustFetch_1 : decode cX1_mustFetch 1 = .ok (.ireturn, 1) := by decide +kernel
theorem dX1_entriesOnPage_0 : decode cX1_entriesOnPage 0 = .ok (.aload_n 0, 1) := by decide +kernel
theorem dX1_entriesOnPage_1 : decode cX1_entriesOnPage 1 = .ok (.getfield 9, 3) := by decide +kernel
theorem dX1_entriesOnPage_4 : decode cX1_entriesOnPage 4 = .ok (.getfield 15, 3) := by decide +kernel
theorem dX1_entriesOnPage_7 : decode cX1_entriesOnPage 7 = .ok (.ireturn, 1) := by decide +kernel
theorem dX1_space_0 : decode cX1_space 0 = .ok (.iconst 0, 1) := by decide +kernel
theorem dX1_space_1 : decode cX1_space 1 = .ok (.ireturn, 1) := by decide +kernel
theorem dX1_keeping_0 : decode cX1_keeping 0 = .ok (.iconst 4, 1) := by decide +kernel
theorem dX1_keeping_1 : decode cX1_keeping 1 = .ok (.ireturn, 1) := by decide +kernel
theorem dX2_init_0 : decode cX2_init 0 = .ok (.aload_n 0, 1) := by decide +kernel
theorem dX2_init_1 : decode cX2_init 1 = .ok (.iconst 1, 1) := by decide +kernel
theorem dX2_init_2 : decode cX2_init 2 = .ok (.aload_n 1, 1) := by decide +kernel
theorem dX2_init_3 : decode cX2_init 3 = .ok (.iload_n 2, 1) := by decide +kernel
theorem dX2_init_4 : decode cX2_init 4 = .ok (.iload_n 3, 1) := by decide +kernel
theorem dX2_init_5 : decode cX2_init 5 = .ok (.iload 4, 2) := by decide +kernel
theorem dX2_init_7 : decode cX2_init 7 = .ok (.invokespecial 3, 3) := by decide +kernel
theorem dX2_init_10 : decode cX2_init 10 = .ok (.aload_n 0, 1) := by decide +kernel
theorem dX2_init_11 : decode cX2_init 11 = .ok (.aload_n 0, 1) := by decide +kernel
theorem dX2_init_12 : decode cX2_init 12 = .ok (.getfield 9, 3) := by decide +kernel
theorem dX2_init_15 : decode cX2_init 15 = .ok (.iload 5, 2) := by decide +kernel
theorem dX2_init_17 : decode cX2_init 17 = .ok (.ior, 1) := by decide +kernel
theorem dX2_init_18 : decode cX2_init 18 = .ok (.putfield 15, 3) := by decide +kernel
theorem dX2_init_21 : decode cX2_init 21 = .ok (.return_, 1) := by decide +kernel
theorem dX2_mustFetch_0 : decode cX2_mustFetch 0 = .ok (.aload_n 1, 1) := by decide +kernel
theorem dX2_mustFetch_1 : decode cX2_mustFetch 1 = .ok (.invokevirtual 18, 3) := by decide +kernel
theorem dX2_mustFetch_4 : decode cX2_mustFetch 4 = .ok (.aload_n 0, 1) := by decide +kernel
theorem dX2_mustFetch_5 : decode cX2_mustFetch 5 = .ok (.getfield 15, 3) := by decide +kernel
theorem dX2_mustFetch_8 : decode cX2_mustFetch 8 = .ok (.iconst (-1), 1) := by decide +kernel
theorem dX2_mustFetch_9 : decode cX2_mustFetch 9 = .ok (.ixor, 1) := by decide +kernel
theorem dX2_mustFetch_10 : decode cX2_mustFetch 10 = .ok (.iand, 1) := by decide +kernel
theorem dX2_mustFetch_11 : decode cX2_mustFetch 11 = .ok (.ifCond .eq 7, 3) := by decide +kernel
theorem dX2_mustFetch_14 : decode cX2_mustFetch 14 = .ok (.iconst 1, 1) := by decide +kernel
theorem dX2_mustFetch_15 : decode cX2_mustFetch 15 = .ok (.goto 4, 3) := by decide +kernel
theorem dX2_mustFetch_18 : decode cX2_mustFetch 18 = .ok (.iconst 0, 1) := by decide +kernel
theorem dX2_mustFetch_19 : decode cX2_mustFetch 19 = .ok (.ireturn, 1) := by decide +kernel
theorem dX2_space_0 : decode cX2_space 0 = .ok (.aload_n 0, 1) := by decide +kernel
theorem dX2_space_1 : decode cX2_space 1 = .ok (.getfield 15, 3) := by decide +kernel
theorem dX2_space_4 : decode cX2_space 4 = .ok (.aload_n 0, 1) := by decide +kernel
theorem dX2_space_5 : decode cX2_space 5 = .ok (.getfield 9, 3) := by decide +kernel
theorem dX2_space_8 : decode cX2_space 8 = .ok (.iconst (-1), 1) := by decide +kernel
theorem dX2_space_9 : decode cX2_space 9 = .ok (.ixor, 1) := by decide +kernel
theorem dX2_space_10 : decode cX2_space 10 = .ok (.iand, 1) := by decide +kernel
theorem dX2_space_11 : decode cX2_space 11 = .ok (.invokestatic 24, 3) := by decide +kernel
theorem dX2_space_14 : decode cX2_space 14 = .ok (.istore_n 1, 1) := by decide +kernel
theorem dX2_space_15 : decode cX2_space 15 = .ok (.aload_n 0, 1) := by decide +kernel
theorem dX2_space_16 : decode cX2_space 16 = .ok (.getfield 30, 3) := by decide +kernel
theorem dX2_space_19 : decode cX2_space 19 = .ok (.getfield 34, 3) := by decide +kernel
theorem dX2_space_22 : decode cX2_space 22 = .ok (.iconst 1, 1) := by decide +kernel
theorem dX2_space_23 : decode cX2_space 23 = .ok (.iload_n 1, 1) := by decide +kernel
theorem dX2_space_24 : decode cX2_space 24 = .ok (.iadd, 1) := by decide +kernel
theorem dX2_space_25 : decode cX2_space 25 = .ok (.imul, 1) := by decide +kernel
theorem dX2_space_26 : decode cX2_space 26 = .ok (.iconst 2, 1) := by decide +kernel
theorem dX2_space_27 : decode cX2_space 27 = .ok (.aload_n 0, 1) := by decide +kernel
theorem dX2_space_28 : decode cX2_space 28 = .ok (.getfield 30, 3) := by decide +kernel
theorem dX2_space_31 : decode cX2_space 31 = .ok (.getfield 39, 3) := by decide +kernel
theorem dX2_space_34 : decode cX2_space 34 = .ok (.imul, 1) := by decide +kernel
theorem dX2_space_35 : decode cX2_space 35 = .ok (.invokestatic 42, 3) := by decide +kernel
theorem dX2_space_38 : decode cX2_space 38 = .ok (.ireturn, 1) := by decide +kernel
theorem dX2_keeping_0 : decode cX2_keeping 0 = .ok (.iconst 3, 1) := by decide +kernel
theorem dX2_keeping_1 : decode cX2_keeping 1 = .ok (.ireturn, 1) := by decide +kernel
theorem dX3_init_0 : decode cX3_init 0 = .ok (.aload_n 0, 1) := by decide +kernel
theorem dX3_init_1 : decode cX3_init 1 = .ok (.iconst 0, 1) := by decide +kernel
theorem dX3_init_2 : decode cX3_init 2 = .ok (.aload_n 1, 1) := by decide +kernel
theorem dX3_init_3 : decode cX3_init 3 = .ok (.iload_n 2, 1) := by decide +kernel
theorem dX3_init_4 : decode cX3_init 4 = .ok (.iload_n 3, 1) := by decide +kernel
theorem dX3_init_5 : decode cX3_init 5 = .ok (.iload 4, 2) := by decide +kernel
theorem dX3_init_7 : decode cX3_init 7 = .ok (.invokespecial 3, 3) := by decide +kernel
theorem dX3_init_10 : decode cX3_init 10 = .ok (.return_, 1) := by decide +kernel
theorem dX3_keeping_0 : decode cX3_keeping 0 = .ok (.iconst 2, 1) := by decide +kernel
theorem dX3_keeping_1 : decode cX3_keeping 1 = .ok (.ireturn, 1) := by decide +kernel
theorem dX4_init_0 : decode cX4_init 0 = .ok (.aload_n 0, 1) := by decide +kernel
theorem dX4_init_1 : decode cX4_init 1 = .ok (.iload_n 1, 1) := by decide +kernel
theorem dX4_init_2 : decode cX4_init 2 = .ok (.aload_n 2, 1) := by decide +kernel
theorem dX4_init_3 : decode cX4_init 3 = .ok (.invokespecial 3, 3) := by decide +kernel
theorem dX4_init_6 : decode cX4_init 6 = .ok (.aload_n 0, 1) := by decide +kernel
theorem dX4_init_7 : decode cX4_init 7 = .ok (.iload_n 3, 1) := by decide +kernel
theorem dX4_init_8 : decode cX4_init 8 = .ok (.invokestatic 9, 3) := by decide +kernel
theorem dX4_init_11 : decode cX4_init 11 = .ok (.iload 4, 2) := by decide +kernel
theorem dX4_init_13 : decode cX4_init 13 = .ok (.invokestatic 9, 3) := by decide +kernel
theorem dX4_init_16 : decode cX4_init 16 = .ok (.ior, 1) := by decide +kernel
theorem dX4_init_17 : decode cX4_init 17 = .ok (.iload 5, 2) := by decide +kernel
theorem dX4_init_19 : decode cX4_init 19 = .ok (.invokestatic 9, 3) := by decide +kernel
theorem dX4_init_22 : decode cX4_init 22 = .ok (.ior, 1) := by decide +kernel
theorem dX4_init_23 : decode cX4_init 23 = .ok (.putfield 13, 3) := by decide +kernel
theorem dX4_init_26 : decode cX4_init 26 = .ok (.aload_n 0, 1) := by decide +kernel
theorem dX4_init_27 : decode cX4_init 27 = .ok (.iconst 3, 1) := by decide +kernel
theorem dX4_init_28 : decode cX4_init 28 = .ok (.newarray .int, 2) := by decide +kernel
theorem dX4_init_30 : decode cX4_init 30 = .ok (.dup, 1) := by decide +kernel
theorem dX4_init_31 : decode cX4_init 31 = .ok (.iconst 0, 1) := by decide +kernel
theorem dX4_init_32 : decode cX4_init 32 = .ok (.iload_n 3, 1) := by decide +kernel
theorem dX4_init_33 : decode cX4_init 33 = .ok (.iastore, 1) := by decide +kernel
theorem dX4_init_34 : decode cX4_init 34 = .ok (.dup, 1) := by decide +kernel
theorem dX4_init_35 : decode cX4_init 35 = .ok (.iconst 1, 1) := by decide +kernel
theorem dX4_init_36 : decode cX4_init 36 = .ok (.iload 4, 2) := by decide +kernel
theorem dX4_init_38 : decode cX4_init 38 = .ok (.iastore, 1) := by decide +kernel
theorem dX4_init_39 : decode cX4_init 39 = .ok (.dup, 1) := by decide +kernel
theorem dX4_init_40 : decode cX4_init 40 = .ok (.iconst 2, 1) := by decide +kernel
theorem dX4_init_41 : decode cX4_init 41 = .ok (.iload 5, 2) := by decide +kernel
theorem dX4_init_43 : decode cX4_init 43 = .ok (.iastore, 1) := by decide +kernel
theorem dX4_init_44 : decode cX4_init 44 = .ok (.putfield 19, 3) := by decide +kernel
theorem dX4_init_47 : decode cX4_init 47 = .ok (.return_, 1) := by decide +kernel
theorem dX4_usedBy_0 : decode cX4_usedBy 0 = .ok (.iconst 0, 1) := by decide +kernel
theorem dX4_usedBy_1 : decode cX4_usedBy 1 = .ok (.istore_n 2, 1) := by decide +kernel
theorem dX4_usedBy_2 : decode cX4_usedBy 2 = .ok (.iload_n 2, 1) := by decide +kernel
theorem dX4_usedBy_3 : decode cX4_usedBy 3 = .ok (.aload_n 0, 1) := by decide +kernel
theorem dX4_usedBy_4 : decode cX4_usedBy 4 = .ok (.getfield 19, 3) := by decide +kernel
theorem dX4_usedBy_7 : decode cX4_usedBy 7 = .ok (.arraylength, 1) := by decide +kernel
theorem dX4_usedBy_8 : decode cX4_usedBy 8 = .ok (.if_icmp .ge 22, 3) := by decide +kernel
theorem dX4_usedBy_11 : decode cX4_usedBy 11 = .ok (.aload_n 1, 1) := by decide +kernel
theorem dX4_usedBy_12 : decode cX4_usedBy 12 = .ok (.aload_n 0, 1) := by decide +kernel
theorem dX4_usedBy_13 : decode cX4_usedBy 13 = .ok (.getfield 19, 3) := by decide +kernel
theorem dX4_usedBy_16 : decode cX4_usedBy 16 = .ok (.iload_n 2, 1) := by decide +kernel
theorem dX4_usedBy_17 : decode cX4_usedBy 17 = .ok (.iaload, 1) := by decide +kernel
theorem dX4_usedBy_18 : decode cX4_usedBy 18 = .ok (.invokevirtual 23, 3) := by decide +kernel
theorem dX4_usedBy_21 : decode cX4_usedBy 21 = .ok (.ifCond .eq 9, 3) := by decide +kernel
theorem dX4_usedBy_24 : decode cX4_usedBy 24 = .ok (.iinc 2 1, 3) := by decide +kernel
theorem dX4_usedBy_27 : decode cX4_usedBy 27 = .ok (.goto (-25), 3) := by decide +kernel
theorem dX4_usedBy_30 : decode cX4_usedBy 30 = .ok (.iload_n 2, 1) := by decide +kernel
theorem dX4_usedBy_31 : decode cX4_usedBy 31 = .ok (.aload_n 0, 1) := by decide +kernel
theorem dX4_usedBy_32 : decode cX4_usedBy 32 = .ok (.getfield 19, 3) := by decide +kernel
theorem dX4_usedBy_35 : decode cX4_usedBy 35 = .ok (.arraylength, 1) := by decide +kernel
theorem dX4_usedBy_36 : decode cX4_usedBy 36 = .ok (.if_icmp .ge 19, 3) := by decide +kernel
theorem dX4_usedBy_39 : decode cX4_usedBy 39 = .ok (.aload_n 1, 1) := by decide +kernel
theorem dX4_usedBy_40 : decode cX4_usedBy 40 = .ok (.aload_n 0, 1) := by decide +kernel
theorem dX4_usedBy_41 : decode cX4_usedBy 41 = .ok (.getfield 19, 3) := by decide +kernel
theorem dX4_usedBy_44 : decode cX4_usedBy 44 = .ok (.iload_n 2, 1) := by decide +kernel
theorem dX4_usedBy_45 : decode cX4_usedBy 45 = .ok (.iaload, 1) := by decide +kernel
theorem dX4_usedBy_46 : decode cX4_usedBy 46 = .ok (.invokevirtual 29, 3) := by decide +kernel
theorem dX4_usedBy_49 : decode cX4_usedBy 49 = .ok (.ifCond .eq 6, 3) := by decide +kernel
theorem dX4_usedBy_52 : decode cX4_usedBy 52 = .ok (.iinc 2 1, 3) := by decide +kernel
theorem dX4_usedBy_55 : decode cX4_usedBy 55 = .ok (.iload_n 2, 1) := by decide +kernel
theorem dX4_usedBy_56 : decode cX4_usedBy 56 = .ok (.ireturn, 1) := by decide +kernel
theorem dX4_helps_0 : decode cX4_helps 0 = .ok (.aload_n 0, 1) := by decide +kernel
theorem dX4_helps_1 : decode cX4_helps 1 = .ok (.aload_n 1, 1) := by decide +kernel
theorem dX4_helps_2 : decode cX4_helps 2 = .ok (.invokevirtual 32, 3) := by decide +kernel
theorem dX4_helps_5 : decode cX4_helps 5 = .ok (.ifCond .le 7, 3) := by decide +kernel
theorem dX4_helps_8 : decode cX4_helps 8 = .ok (.iconst 1, 1) := by decide +kernel
theorem dX4_helps_9 : decode cX4_helps 9 = .ok (.goto 4, 3) := by decide +kernel
theorem dX4_helps_12 : decode cX4_helps 12 = .ok (.iconst 0, 1) := by decide +kernel
theorem dX4_helps_13 : decode cX4_helps 13 = .ok (.ireturn, 1) := by decide +kernel
theorem dX4_foretoldRows_0 : decode cX4_foretoldRows 0 = .ok (.aload_n 0, 1) := by decide +kernel
theorem dX4_foretoldRows_1 : decode cX4_foretoldRows 1 = .ok (.getfield 36, 3) := by decide +kernel
theorem dX4_foretoldRows_4 : decode cX4_foretoldRows 4 = .ok (.getfield 40, 3) := by decide +kernel
theorem dX4_foretoldRows_7 : decode cX4_foretoldRows 7 = .ok (.ireturn, 1) := by decide +kernel
theorem dX4_holds_0 : decode cX4_holds 0 = .ok (.iconst 1, 1) := by decide +kernel
theorem dX4_holds_1 : decode cX4_holds 1 = .ok (.ireturn, 1) := by decide +kernel
theorem dX4_mustFetch_0 : decode cX4_mustFetch 0 = .ok (.iconst 1, 1) := by decide +kernel
theorem dX4_mustFetch_1 : decode cX4_mustFetch 1 = .ok (.ireturn, 1) := by decide +kernel
theorem dX4_entriesOnPage_0 : decode cX4_entriesOnPage 0 = .ok (.iconst 2, 1) := by decide +kernel
theorem dX4_entriesOnPage_1 : decode cX4_entriesOnPage 1 = .ok (.aload_n 0, 1) := by decide +kernel
theorem dX4_entriesOnPage_2 : decode cX4_entriesOnPage 2 = .ok (.getfield 36, 3) := by decide +kernel
theorem dX4_entriesOnPage_5 : decode cX4_entriesOnPage 5 = .ok (.getfield 45, 3) := by decide +kernel
theorem dX4_entriesOnPage_8 : decode cX4_entriesOnPage 8 = .ok (.imul, 1) := by decide +kernel
theorem dX4_entriesOnPage_9 : decode cX4_entriesOnPage 9 = .ok (.ireturn, 1) := by decide +kernel
theorem dX4_foretold_0 : decode cX4_foretold 0 = .ok (.aload_n 0, 1) := by decide +kernel
theorem dX4_foretold_1 : decode cX4_foretold 1 = .ok (.invokevirtual 48, 3) := by decide +kernel
theorem dX4_foretold_4 : decode cX4_foretold 4 = .ok (.istore_n 2, 1) := by decide +kernel
theorem dX4_foretold_5 : decode cX4_foretold 5 = .ok (.aload_n 0, 1) := by decide +kernel
theorem dX4_foretold_6 : decode cX4_foretold 6 = .ok (.aload_n 1, 1) := by decide +kernel
theorem dX4_foretold_7 : decode cX4_foretold 7 = .ok (.invokevirtual 32, 3) := by decide +kernel
theorem dX4_foretold_10 : decode cX4_foretold 10 = .ok (.istore_n 3, 1) := by decide +kernel
theorem dX4_foretold_11 : decode cX4_foretold 11 = .ok (.iconst 0, 1) := by decide +kernel
theorem dX4_foretold_12 : decode cX4_foretold 12 = .ok (.istore 4, 2) := by decide +kernel
theorem dX4_foretold_14 : decode cX4_foretold 14 = .ok (.iload 4, 2) := by decide +kernel
theorem dX4_foretold_16 : decode cX4_foretold 16 = .ok (.iload_n 3, 1) := by decide +kernel
theorem dX4_foretold_17 : decode cX4_foretold 17 = .ok (.if_icmp .ge 32, 3) := by decide +kernel
theorem dX4_foretold_20 : decode cX4_foretold 20 = .ok (.iload 4, 2) := by decide +kernel
theorem dX4_foretold_22 : decode cX4_foretold 22 = .ok (.aload_n 0, 1) := by decide +kernel
theorem dX4_foretold_23 : decode cX4_foretold 23 = .ok (.getfield 19, 3) := by decide +kernel
theorem dX4_foretold_26 : decode cX4_foretold 26 = .ok (.arraylength, 1) := by decide +kernel
theorem dX4_foretold_27 : decode cX4_foretold 27 = .ok (.if_icmp .ge 22, 3) := by decide +kernel
theorem dX4_foretold_30 : decode cX4_foretold 30 = .ok (.aload_n 1, 1) := by decide +kernel
theorem dX4_foretold_31 : decode cX4_foretold 31 = .ok (.iload_n 2, 1) := by decide +kernel
theorem dX4_foretold_32 : decode cX4_foretold 32 = .ok (.aload_n 0, 1) := by decide +kernel
theorem dX4_foretold_33 : decode cX4_foretold 33 = .ok (.getfield 19, 3) := by decide +kernel
theorem dX4_foretold_36 : decode cX4_foretold 36 = .ok (.iload 4, 2) := by decide +kernel
theorem dX4_foretold_38 : decode cX4_foretold 38 = .ok (.iaload, 1) := by decide +kernel
theorem dX4_foretold_39 : decode cX4_foretold 39 = .ok (.invokevirtual 52, 3) := by decide +kernel
theorem dX4_foretold_42 : decode cX4_foretold 42 = .ok (.istore_n 2, 1) := by decide +kernel
theorem dX4_foretold_43 : decode cX4_foretold 43 = .ok (.iinc 4 1, 3) := by decide +kernel
theorem dX4_foretold_46 : decode cX4_foretold 46 = .ok (.goto (-32), 3) := by decide +kernel
theorem dX4_foretold_49 : decode cX4_foretold 49 = .ok (.aload_n 0, 1) := by decide +kernel
theorem dX4_foretold_50 : decode cX4_foretold 50 = .ok (.aload_n 1, 1) := by decide +kernel
theorem dX4_foretold_51 : decode cX4_foretold 51 = .ok (.invokevirtual 56, 3) := by decide +kernel
theorem dX4_foretold_54 : decode cX4_foretold 54 = .ok (.ifCond .eq 17, 3) := by decide +kernel
theorem dX4_foretold_57 : decode cX4_foretold 57 = .ok (.iload_n 2, 1) := by decide +kernel
theorem dX4_foretold_58 : decode cX4_foretold 58 = .ok (.aload_n 0, 1) := by decide +kernel
theorem dX4_foretold_59 : decode cX4_foretold 59 = .ok (.getfield 36, 3) := by decide +kernel
theorem dX4_foretold_62 : decode cX4_foretold 62 = .ok (.invokevirtual 60, 3) := by decide +kernel
theorem dX4_foretold_65 : decode cX4_foretold 65 = .ok (.invokestatic 63, 3) := by decide +kernel
theorem dX4_foretold_68 : decode cX4_foretold 68 = .ok (.goto 4, 3) := by decide +kernel
theorem dX4_foretold_71 : decode cX4_foretold 71 = .ok (.iconst 0, 1) := by decide +kernel
theorem dX4_foretold_72 : decode cX4_foretold 72 = .ok (.istore 4, 2) := by decide +kernel
theorem dX4_foretold_74 : decode cX4_foretold 74 = .ok (.iconst 1, 1) := by decide +kernel
theorem dX4_foretold_75 : decode cX4_foretold 75 = .ok (.iload_n 2, 1) := by decide +kernel
theorem dX4_foretold_76 : decode cX4_foretold 76 = .ok (.aload_n 0, 1) := by decide +kernel
theorem dX4_foretold_77 : decode cX4_foretold 77 = .ok (.invokevirtual 68, 3) := by decide +kernel
theorem dX4_foretold_80 : decode cX4_foretold 80 = .ok (.invokestatic 71, 3) := by decide +kernel
theorem dX4_foretold_83 : decode cX4_foretold 83 = .ok (.iadd, 1) := by decide +kernel
theorem dX4_foretold_84 : decode cX4_foretold 84 = .ok (.iload 4, 2) := by decide +kernel
theorem dX4_foretold_86 : decode cX4_foretold 86 = .ok (.iadd, 1) := by decide +kernel
theorem dX4_foretold_87 : decode cX4_foretold 87 = .ok (.ireturn, 1) := by decide +kernel
theorem dX4_fetched_0 : decode cX4_fetched 0 = .ok (.aload_n 0, 1) := by decide +kernel
theorem dX4_fetched_1 : decode cX4_fetched 1 = .ok (.aload_n 1, 1) := by decide +kernel
theorem dX4_fetched_2 : decode cX4_fetched 2 = .ok (.invokevirtual 32, 3) := by decide +kernel
theorem dX4_fetched_5 : decode cX4_fetched 5 = .ok (.istore_n 2, 1) := by decide +kernel
theorem dX4_fetched_6 : decode cX4_fetched 6 = .ok (.iconst 0, 1) := by decide +kernel
theorem dX4_fetched_7 : decode cX4_fetched 7 = .ok (.istore_n 3, 1) := by decide +kernel
theorem dX4_fetched_8 : decode cX4_fetched 8 = .ok (.iconst 0, 1) := by decide +kernel
theorem dX4_fetched_9 : decode cX4_fetched 9 = .ok (.istore 4, 2) := by decide +kernel
theorem dX4_fetched_11 : decode cX4_fetched 11 = .ok (.iconst (-1), 1) := by decide +kernel
theorem dX4_fetched_12 : decode cX4_fetched 12 = .ok (.istore 5, 2) := by decide +kernel
theorem dX4_fetched_14 : decode cX4_fetched 14 = .ok (.iconst 0, 1) := by decide +kernel
theorem dX4_fetched_15 : decode cX4_fetched 15 = .ok (.istore 6, 2) := by decide +kernel
theorem dX4_fetched_17 : decode cX4_fetched 17 = .ok (.iload 6, 2) := by decide +kernel
theorem dX4_fetched_19 : decode cX4_fetched 19 = .ok (.aload_n 0, 1) := by decide +kernel
theorem dX4_fetched_20 : decode cX4_fetched 20 = .ok (.getfield 36, 3) := by decide +kernel
theorem dX4_fetched_23 : decode cX4_fetched 23 = .ok (.getfield 74, 3) := by decide +kernel
theorem dX4_fetched_26 : decode cX4_fetched 26 = .ok (.if_icmp .ge 67, 3) := by decide +kernel
theorem dX4_fetched_29 : decode cX4_fetched 29 = .ok (.aload_n 0, 1) := by decide +kernel
theorem dX4_fetched_30 : decode cX4_fetched 30 = .ok (.iload 6, 2) := by decide +kernel
theorem dX4_fetched_32 : decode cX4_fetched 32 = .ok (.invokevirtual 77, 3) := by decide +kernel
theorem dX4_fetched_35 : decode cX4_fetched 35 = .ok (.ifCond .eq 52, 3) := by decide +kernel
theorem dX4_fetched_38 : decode cX4_fetched 38 = .ok (.aload_n 0, 1) := by decide +kernel
theorem dX4_fetched_39 : decode cX4_fetched 39 = .ok (.aload_n 1, 1) := by decide +kernel
theorem dX4_fetched_40 : decode cX4_fetched 40 = .ok (.iload_n 2, 1) := by decide +kernel
theorem dX4_fetched_41 : decode cX4_fetched 41 = .ok (.iload 6, 2) := by decide +kernel
theorem dX4_fetched_43 : decode cX4_fetched 43 = .ok (.invokevirtual 80, 3) := by decide +kernel
theorem dX4_fetched_46 : decode cX4_fetched 46 = .ok (.ifCond .eq 41, 3) := by decide +kernel
theorem dX4_fetched_49 : decode cX4_fetched 49 = .ok (.iinc 3 1, 3) := by decide +kernel
theorem dX4_fetched_52 : decode cX4_fetched 52 = .ok (.iload 4, 2) := by decide +kernel
theorem dX4_fetched_54 : decode cX4_fetched 54 = .ok (.aload_n 0, 1) := by decide +kernel
theorem dX4_fetched_55 : decode cX4_fetched 55 = .ok (.getfield 36, 3) := by decide +kernel
theorem dX4_fetched_58 : decode cX4_fetched 58 = .ok (.iload 6, 2) := by decide +kernel
theorem dX4_fetched_60 : decode cX4_fetched 60 = .ok (.invokevirtual 84, 3) := by decide +kernel
theorem dX4_fetched_63 : decode cX4_fetched 63 = .ok (.iload 5, 2) := by decide +kernel
theorem dX4_fetched_65 : decode cX4_fetched 65 = .ok (.if_icmp .ne 7, 3) := by decide +kernel
theorem dX4_fetched_68 : decode cX4_fetched 68 = .ok (.iconst 0, 1) := by decide +kernel
theorem dX4_fetched_69 : decode cX4_fetched 69 = .ok (.goto 4, 3) := by decide +kernel
theorem dX4_fetched_72 : decode cX4_fetched 72 = .ok (.iconst 1, 1) := by decide +kernel
theorem dX4_fetched_73 : decode cX4_fetched 73 = .ok (.iadd, 1) := by decide +kernel
theorem dX4_fetched_74 : decode cX4_fetched 74 = .ok (.istore 4, 2) := by decide +kernel
theorem dX4_fetched_76 : decode cX4_fetched 76 = .ok (.aload_n 0, 1) := by decide +kernel
theorem dX4_fetched_77 : decode cX4_fetched 77 = .ok (.getfield 36, 3) := by decide +kernel
theorem dX4_fetched_80 : decode cX4_fetched 80 = .ok (.iload 6, 2) := by decide +kernel
theorem dX4_fetched_82 : decode cX4_fetched 82 = .ok (.invokevirtual 84, 3) := by decide +kernel
theorem dX4_fetched_85 : decode cX4_fetched 85 = .ok (.istore 5, 2) := by decide +kernel
theorem dX4_fetched_87 : decode cX4_fetched 87 = .ok (.iinc 6 1, 3) := by decide +kernel
theorem dX4_fetched_90 : decode cX4_fetched 90 = .ok (.goto (-73), 3) := by decide +kernel
theorem dX4_fetched_93 : decode cX4_fetched 93 = .ok (.iconst 1, 1) := by decide +kernel
theorem dX4_fetched_94 : decode cX4_fetched 94 = .ok (.iload_n 3, 1) := by decide +kernel
theorem dX4_fetched_95 : decode cX4_fetched 95 = .ok (.aload_n 0, 1) := by decide +kernel
theorem dX4_fetched_96 : decode cX4_fetched 96 = .ok (.invokevirtual 68, 3) := by decide +kernel
theorem dX4_fetched_99 : decode cX4_fetched 99 = .ok (.invokestatic 71, 3) := by decide +kernel
theorem dX4_fetched_102 : decode cX4_fetched 102 = .ok (.iadd, 1) := by decide +kernel
theorem dX4_fetched_103 : decode cX4_fetched 103 = .ok (.aload_n 0, 1) := by decide +kernel
theorem dX4_fetched_104 : decode cX4_fetched 104 = .ok (.aload_n 1, 1) := by decide +kernel
theorem dX4_fetched_105 : decode cX4_fetched 105 = .ok (.invokevirtual 56, 3) := by decide +kernel
theorem dX4_fetched_108 : decode cX4_fetched 108 = .ok (.ifCond .eq 8, 3) := by decide +kernel
theorem dX4_fetched_111 : decode cX4_fetched 111 = .ok (.iload 4, 2) := by decide +kernel
theorem dX4_fetched_113 : decode cX4_fetched 113 = .ok (.goto 4, 3) := by decide +kernel
theorem dX4_fetched_116 : decode cX4_fetched 116 = .ok (.iconst 0, 1) := by decide +kernel
theorem dX4_fetched_117 : decode cX4_fetched 117 = .ok (.iadd, 1) := by decide +kernel
theorem dX4_fetched_118 : decode cX4_fetched 118 = .ok (.ireturn, 1) := by decide +kernel
theorem dX4_finds_0 : decode cX4_finds 0 = .ok (.iconst 0, 1) := by decide +kernel
theorem dX4_finds_1 : decode cX4_finds 1 = .ok (.istore 4, 2) := by decide +kernel
theorem dX4_finds_3 : decode cX4_finds 3 = .ok (.iload 4, 2) := by decide +kernel
theorem dX4_finds_5 : decode cX4_finds 5 = .ok (.iload_n 2, 1) := by decide +kernel
theorem dX4_finds_6 : decode cX4_finds 6 = .ok (.if_icmp .ge 36, 3) := by decide +kernel
theorem dX4_finds_9 : decode cX4_finds 9 = .ok (.iload 4, 2) := by decide +kernel
theorem dX4_finds_11 : decode cX4_finds 11 = .ok (.aload_n 0, 1) := by decide +kernel
theorem dX4_finds_12 : decode cX4_finds 12 = .ok (.getfield 19, 3) := by decide +kernel
theorem dX4_finds_15 : decode cX4_finds 15 = .ok (.arraylength, 1) := by decide +kernel
theorem dX4_finds_16 : decode cX4_finds 16 = .ok (.if_icmp .ge 26, 3) := by decide +kernel
theorem dX4_finds_19 : decode cX4_finds 19 = .ok (.aload_n 1, 1) := by decide +kernel
theorem dX4_finds_20 : decode cX4_finds 20 = .ok (.iload_n 3, 1) := by decide +kernel
theorem dX4_finds_21 : decode cX4_finds 21 = .ok (.aload_n 0, 1) := by decide +kernel
theorem dX4_finds_22 : decode cX4_finds 22 = .ok (.getfield 19, 3) := by decide +kernel
theorem dX4_finds_25 : decode cX4_finds 25 = .ok (.iload 4, 2) := by decide +kernel
theorem dX4_finds_27 : decode cX4_finds 27 = .ok (.iaload, 1) := by decide +kernel
theorem dX4_finds_28 : decode cX4_finds 28 = .ok (.invokevirtual 87, 3) := by decide +kernel
theorem dX4_finds_31 : decode cX4_finds 31 = .ok (.ifCond .ne 5, 3) := by decide +kernel
theorem dX4_finds_34 : decode cX4_finds 34 = .ok (.iconst 0, 1) := by decide +kernel
theorem dX4_finds_35 : decode cX4_finds 35 = .ok (.ireturn, 1) := by decide +kernel
theorem dX4_finds_36 : decode cX4_finds 36 = .ok (.iinc 4 1, 3) := by decide +kernel
theorem dX4_finds_39 : decode cX4_finds 39 = .ok (.goto (-36), 3) := by decide +kernel
theorem dX4_finds_42 : decode cX4_finds 42 = .ok (.iconst 1, 1) := by decide +kernel
theorem dX4_finds_43 : decode cX4_finds 43 = .ok (.ireturn, 1) := by decide +kernel
theorem dX4_space_0 : decode cX4_space 0 = .ok (.aload_n 0, 1) := by decide +kernel
theorem dX4_space_1 : decode cX4_space 1 = .ok (.invokevirtual 48, 3) := by decide +kernel
theorem dX4_space_4 : decode cX4_space 4 = .ok (.iconst 2, 1) := by decide +kernel
theorem dX4_space_5 : decode cX4_space 5 = .ok (.aload_n 0, 1) := by decide +kernel
theorem dX4_space_6 : decode cX4_space 6 = .ok (.getfield 36, 3) := by decide +kernel
theorem dX4_space_9 : decode cX4_space 9 = .ok (.getfield 45, 3) := by decide +kernel
theorem dX4_space_12 : decode cX4_space 12 = .ok (.imul, 1) := by decide +kernel
theorem dX4_space_13 : decode cX4_space 13 = .ok (.invokestatic 71, 3) := by decide +kernel
theorem dX4_space_16 : decode cX4_space 16 = .ok (.ireturn, 1) := by decide +kernel
theorem dX5_init_0 : decode cX5_init 0 = .ok (.aload_n 0, 1) := by decide +kernel
theorem dX5_init_1 : decode cX5_init 1 = .ok (.iconst 2, 1) := by decide +kernel
theorem dX5_init_2 : decode cX5_init 2 = .ok (.aload_n 1, 1) := by decide +kernel
theorem dX5_init_3 : decode cX5_init 3 = .ok (.iload_n 2, 1) := by decide +kernel
theorem dX5_init_4 : decode cX5_init 4 = .ok (.iload_n 3, 1) := by decide +kernel
theorem dX5_init_5 : decode cX5_init 5 = .ok (.iconst (-1), 1) := by decide +kernel
theorem dX5_init_6 : decode cX5_init 6 = .ok (.invokespecial 3, 3) := by decide +kernel
theorem dX5_init_9 : decode cX5_init 9 = .ok (.aload_n 0, 1) := by decide +kernel
theorem dX5_init_10 : decode cX5_init 10 = .ok (.iload 4, 2) := by decide +kernel
theorem dX5_init_12 : decode cX5_init 12 = .ok (.putfield 9, 3) := by decide +kernel
theorem dX5_init_15 : decode cX5_init 15 = .ok (.aload_n 0, 1) := by decide +kernel
theorem dX5_init_16 : decode cX5_init 16 = .ok (.iload 5, 2) := by decide +kernel
theorem dX5_init_18 : decode cX5_init 18 = .ok (.putfield 15, 3) := by decide +kernel
theorem dX5_init_21 : decode cX5_init 21 = .ok (.aload_n 0, 1) := by decide +kernel
theorem dX5_init_22 : decode cX5_init 22 = .ok (.iload 6, 2) := by decide +kernel
theorem dX5_init_24 : decode cX5_init 24 = .ok (.putfield 18, 3) := by decide +kernel
theorem dX5_init_27 : decode cX5_init 27 = .ok (.return_, 1) := by decide +kernel
theorem dX5_helps_0 : decode cX5_helps 0 = .ok (.aload_n 1, 1) := by decide +kernel
theorem dX5_helps_1 : decode cX5_helps 1 = .ok (.aload_n 0, 1) := by decide +kernel
theorem dX5_helps_2 : decode cX5_helps 2 = .ok (.getfield 9, 3) := by decide +kernel
theorem dX5_helps_5 : decode cX5_helps 5 = .ok (.aload_n 0, 1) := by decide +kernel
theorem dX5_helps_6 : decode cX5_helps 6 = .ok (.getfield 15, 3) := by decide +kernel
theorem dX5_helps_9 : decode cX5_helps 9 = .ok (.aload_n 0, 1) := by decide +kernel
theorem dX5_helps_10 : decode cX5_helps 10 = .ok (.getfield 18, 3) := by decide +kernel
theorem dX5_helps_13 : decode cX5_helps 13 = .ok (.invokevirtual 21, 3) := by decide +kernel
theorem dX5_helps_16 : decode cX5_helps 16 = .ok (.ireturn, 1) := by decide +kernel
theorem dX5_foretoldRows_0 : decode cX5_foretoldRows 0 = .ok (.aload_n 0, 1) := by decide +kernel
theorem dX5_foretoldRows_1 : decode cX5_foretoldRows 1 = .ok (.getfield 27, 3) := by decide +kernel
theorem dX5_foretoldRows_4 : decode cX5_foretoldRows 4 = .ok (.aload_n 0, 1) := by decide +kernel
theorem dX5_foretoldRows_5 : decode cX5_foretoldRows 5 = .ok (.getfield 27, 3) := by decide +kernel
theorem dX5_foretoldRows_8 : decode cX5_foretoldRows 8 = .ok (.getfield 31, 3) := by decide +kernel
theorem dX5_foretoldRows_11 : decode cX5_foretoldRows 11 = .ok (.aload_n 0, 1) := by decide +kernel
theorem dX5_foretoldRows_12 : decode cX5_foretoldRows 12 = .ok (.getfield 9, 3) := by decide +kernel
theorem dX5_foretoldRows_15 : decode cX5_foretoldRows 15 = .ok (.aload_n 0, 1) := by decide +kernel
theorem dX5_foretoldRows_16 : decode cX5_foretoldRows 16 = .ok (.getfield 15, 3) := by decide +kernel
theorem dX5_foretoldRows_19 : decode cX5_foretoldRows 19 = .ok (.aload_n 0, 1) := by decide +kernel
theorem dX5_foretoldRows_20 : decode cX5_foretoldRows 20 = .ok (.getfield 18, 3) := by decide +kernel
theorem dX5_foretoldRows_23 : decode cX5_foretoldRows 23 = .ok (.invokevirtual 36, 3) := by decide +kernel
theorem dX5_foretoldRows_26 : decode cX5_foretoldRows 26 = .ok (.ireturn, 1) := by decide +kernel
theorem dX5_holds_0 : decode cX5_holds 0 = .ok (.aload_n 0, 1) := by decide +kernel
theorem dX5_holds_1 : decode cX5_holds 1 = .ok (.getfield 27, 3) := by decide +kernel
theorem dX5_holds_4 : decode cX5_holds 4 = .ok (.iload_n 1, 1) := by decide +kernel
theorem dX5_holds_5 : decode cX5_holds 5 = .ok (.aload_n 0, 1) := by decide +kernel
theorem dX5_holds_6 : decode cX5_holds 6 = .ok (.getfield 9, 3) := by decide +kernel
theorem dX5_holds_9 : decode cX5_holds 9 = .ok (.invokevirtual 40, 3) := by decide +kernel
theorem dX5_holds_12 : decode cX5_holds 12 = .ok (.aload_n 0, 1) := by decide +kernel
theorem dX5_holds_13 : decode cX5_holds 13 = .ok (.getfield 15, 3) := by decide +kernel
theorem dX5_holds_16 : decode cX5_holds 16 = .ok (.aload_n 0, 1) := by decide +kernel
theorem dX5_holds_17 : decode cX5_holds 17 = .ok (.getfield 18, 3) := by decide +kernel
theorem dX5_holds_20 : decode cX5_holds 20 = .ok (.invokestatic 44, 3) := by decide +kernel
theorem dX5_holds_23 : decode cX5_holds 23 = .ok (.ireturn, 1) := by decide +kernel
theorem dX5_keeping_0 : decode cX5_keeping 0 = .ok (.iconst 1, 1) := by decide +kernel
theorem dX5_keeping_1 : decode cX5_keeping 1 = .ok (.ireturn, 1) := by decide +kernel
theorem dX6_init_0 : decode cX6_init 0 = .ok (.aload_n 0, 1) := by decide +kernel
theorem dX6_init_1 : decode cX6_init 1 = .ok (.invokespecial 3, 3) := by decide +kernel
theorem dX6_init_4 : decode cX6_init 4 = .ok (.aload_n 0, 1) := by decide +kernel
theorem dX6_init_5 : decode cX6_init 5 = .ok (.iconst 4, 1) := by decide +kernel
theorem dX6_init_6 : decode cX6_init 6 = .ok (.newarray .int, 2) := by decide +kernel
theorem dX6_init_8 : decode cX6_init 8 = .ok (.putfield 9, 3) := by decide +kernel
theorem dX6_init_11 : decode cX6_init 11 = .ok (.aload_n 0, 1) := by decide +kernel
theorem dX6_init_12 : decode cX6_init 12 = .ok (.iconst 4, 1) := by decide +kernel
theorem dX6_init_13 : decode cX6_init 13 = .ok (.newarray .int, 2) := by decide +kernel
theorem dX6_init_15 : decode cX6_init 15 = .ok (.putfield 15, 3) := by decide +kernel
theorem dX6_init_18 : decode cX6_init 18 = .ok (.aload_n 0, 1) := by decide +kernel
theorem dX6_init_19 : decode cX6_init 19 = .ok (.aload_n 1, 1) := by decide +kernel
theorem dX6_init_20 : decode cX6_init 20 = .ok (.putfield 18, 3) := by decide +kernel
theorem dX6_init_23 : decode cX6_init 23 = .ok (.aload_n 0, 1) := by decide +kernel
theorem dX6_init_24 : decode cX6_init 24 = .ok (.iload_n 2, 1) := by decide +kernel
theorem dX6_init_25 : decode cX6_init 25 = .ok (.putfield 22, 3) := by decide +kernel
theorem dX6_init_28 : decode cX6_init 28 = .ok (.aload_n 0, 1) := by decide +kernel
theorem dX6_init_29 : decode cX6_init 29 = .ok (.iload_n 3, 1) := by decide +kernel
theorem dX6_init_30 : decode cX6_init 30 = .ok (.putfield 26, 3) := by decide +kernel
theorem dX6_init_33 : decode cX6_init 33 = .ok (.aload_n 0, 1) := by decide +kernel
theorem dX6_init_34 : decode cX6_init 34 = .ok (.iload 4, 2) := by decide +kernel
theorem dX6_init_36 : decode cX6_init 36 = .ok (.putfield 29, 3) := by decide +kernel
theorem dX6_init_39 : decode cX6_init 39 = .ok (.return_, 1) := by decide +kernel
theorem dX6_limit_0 : decode cX6_limit 0 = .ok (.iload_n 1, 1) := by decide +kernel
theorem dX6_limit_1 : decode cX6_limit 1 = .ok (.iconst 0, 1) := by decide +kernel
theorem dX6_limit_2 : decode cX6_limit 2 = .ok (.iconst 3, 1) := by decide +kernel
theorem dX6_limit_3 : decode cX6_limit 3 = .ok (.invokestatic 32, 3) := by decide +kernel
theorem dX6_limit_6 : decode cX6_limit 6 = .ok (.ifCond .eq 30, 3) := by decide +kernel
theorem dX6_limit_9 : decode cX6_limit 9 = .ok (.aload_n 0, 1) := by decide +kernel
theorem dX6_limit_10 : decode cX6_limit 10 = .ok (.dup, 1) := by decide +kernel
theorem dX6_limit_11 : decode cX6_limit 11 = .ok (.getfield 36, 3) := by decide +kernel
theorem dX6_limit_14 : decode cX6_limit 14 = .ok (.iload_n 1, 1) := by decide +kernel
theorem dX6_limit_15 : decode cX6_limit 15 = .ok (.invokestatic 39, 3) := by decide +kernel
theorem dX6_limit_18 : decode cX6_limit 18 = .ok (.ior, 1) := by decide +kernel
theorem dX6_limit_19 : decode cX6_limit 19 = .ok (.putfield 36, 3) := by decide +kernel
theorem dX6_limit_22 : decode cX6_limit 22 = .ok (.aload_n 0, 1) := by decide +kernel
theorem dX6_limit_23 : decode cX6_limit 23 = .ok (.getfield 9, 3) := by decide +kernel
theorem dX6_limit_26 : decode cX6_limit 26 = .ok (.iload_n 1, 1) := by decide +kernel
theorem dX6_limit_27 : decode cX6_limit 27 = .ok (.iload_n 2, 1) := by decide +kernel
theorem dX6_limit_28 : decode cX6_limit 28 = .ok (.iastore, 1) := by decide +kernel
theorem dX6_limit_29 : decode cX6_limit 29 = .ok (.aload_n 0, 1) := by decide +kernel
theorem dX6_limit_30 : decode cX6_limit 30 = .ok (.getfield 15, 3) := by decide +kernel
theorem dX6_limit_33 : decode cX6_limit 33 = .ok (.iload_n 1, 1) := by decide +kernel
theorem dX6_limit_34 : decode cX6_limit 34 = .ok (.iload_n 3, 1) := by decide +kernel
theorem dX6_limit_35 : decode cX6_limit 35 = .ok (.iastore, 1) := by decide +kernel
theorem dX6_limit_36 : decode cX6_limit 36 = .ok (.return_, 1) := by decide +kernel
theorem dX6_tests_0 : decode cX6_tests 0 = .ok (.iload_n 1, 1) := by decide +kernel
theorem dX6_tests_1 : decode cX6_tests 1 = .ok (.ifCond .lt 23, 3) := by decide +kernel
theorem dX6_tests_4 : decode cX6_tests 4 = .ok (.iload_n 1, 1) := by decide +kernel
theorem dX6_tests_5 : decode cX6_tests 5 = .ok (.iconst 4, 1) := by decide +kernel
theorem dX6_tests_6 : decode cX6_tests 6 = .ok (.if_icmp .ge 18, 3) := by decide +kernel
theorem dX6_tests_9 : decode cX6_tests 9 = .ok (.aload_n 0, 1) := by decide +kernel
theorem dX6_tests_10 : decode cX6_tests 10 = .ok (.getfield 36, 3) := by decide +kernel
theorem dX6_tests_13 : decode cX6_tests 13 = .ok (.iconst 1, 1) := by decide +kernel
theorem dX6_tests_14 : decode cX6_tests 14 = .ok (.iload_n 1, 1) := by decide +kernel
theorem dX6_tests_15 : decode cX6_tests 15 = .ok (.ishl, 1) := by decide +kernel
theorem dX6_tests_16 : decode cX6_tests 16 = .ok (.iand, 1) := by decide +kernel
theorem dX6_tests_17 : decode cX6_tests 17 = .ok (.ifCond .eq 7, 3) := by decide +kernel
theorem dX6_tests_20 : decode cX6_tests 20 = .ok (.iconst 1, 1) := by decide +kernel
theorem dX6_tests_21 : decode cX6_tests 21 = .ok (.goto 4, 3) := by decide +kernel
theorem dX6_tests_24 : decode cX6_tests 24 = .ok (.iconst 0, 1) := by decide +kernel
theorem dX6_tests_25 : decode cX6_tests 25 = .ok (.ireturn, 1) := by decide +kernel
theorem dX6_testsAlike_0 : decode cX6_testsAlike 0 = .ok (.aload_n 0, 1) := by decide +kernel
theorem dX6_testsAlike_1 : decode cX6_testsAlike 1 = .ok (.iload_n 1, 1) := by decide +kernel
theorem dX6_testsAlike_2 : decode cX6_testsAlike 2 = .ok (.invokevirtual 43, 3) := by decide +kernel
theorem dX6_testsAlike_5 : decode cX6_testsAlike 5 = .ok (.ifCond .eq 22, 3) := by decide +kernel
theorem dX6_testsAlike_8 : decode cX6_testsAlike 8 = .ok (.aload_n 0, 1) := by decide +kernel
theorem dX6_testsAlike_9 : decode cX6_testsAlike 9 = .ok (.getfield 9, 3) := by decide +kernel
theorem dX6_testsAlike_12 : decode cX6_testsAlike 12 = .ok (.iload_n 1, 1) := by decide +kernel
theorem dX6_testsAlike_13 : decode cX6_testsAlike 13 = .ok (.iaload, 1) := by decide +kernel
theorem dX6_testsAlike_14 : decode cX6_testsAlike 14 = .ok (.aload_n 0, 1) := by decide +kernel
theorem dX6_testsAlike_15 : decode cX6_testsAlike 15 = .ok (.getfield 15, 3) := by decide +kernel
theorem dX6_testsAlike_18 : decode cX6_testsAlike 18 = .ok (.iload_n 1, 1) := by decide +kernel
theorem dX6_testsAlike_19 : decode cX6_testsAlike 19 = .ok (.iaload, 1) := by decide +kernel
theorem dX6_testsAlike_20 : decode cX6_testsAlike 20 = .ok (.if_icmp .ne 7, 3) := by decide +kernel
theorem dX6_testsAlike_23 : decode cX6_testsAlike 23 = .ok (.iconst 1, 1) := by decide +kernel
theorem dX6_testsAlike_24 : decode cX6_testsAlike 24 = .ok (.goto 4, 3) := by decide +kernel
theorem dX6_testsAlike_27 : decode cX6_testsAlike 27 = .ok (.iconst 0, 1) := by decide +kernel
theorem dX6_testsAlike_28 : decode cX6_testsAlike 28 = .ok (.ireturn, 1) := by decide +kernel
theorem dX6_testsWithin_0 : decode cX6_testsWithin 0 = .ok (.aload_n 0, 1) := by decide +kernel
theorem dX6_testsWithin_1 : decode cX6_testsWithin 1 = .ok (.iload_n 1, 1) := by decide +kernel
theorem dX6_testsWithin_2 : decode cX6_testsWithin 2 = .ok (.invokevirtual 43, 3) := by decide +kernel
theorem dX6_testsWithin_5 : decode cX6_testsWithin 5 = .ok (.ifCond .eq 27, 3) := by decide +kernel
theorem dX6_testsWithin_8 : decode cX6_testsWithin 8 = .ok (.aload_n 0, 1) := by decide +kernel
theorem dX6_testsWithin_9 : decode cX6_testsWithin 9 = .ok (.getfield 9, 3) := by decide +kernel
theorem dX6_testsWithin_12 : decode cX6_testsWithin 12 = .ok (.iload_n 1, 1) := by decide +kernel
theorem dX6_testsWithin_13 : decode cX6_testsWithin 13 = .ok (.iaload, 1) := by decide +kernel
theorem dX6_testsWithin_14 : decode cX6_testsWithin 14 = .ok (.iload_n 2, 1) := by decide +kernel
theorem dX6_testsWithin_15 : decode cX6_testsWithin 15 = .ok (.if_icmp .lt 17, 3) := by decide +kernel
theorem dX6_testsWithin_18 : decode cX6_testsWithin 18 = .ok (.aload_n 0, 1) := by decide +kernel
theorem dX6_testsWithin_19 : decode cX6_testsWithin 19 = .ok (.getfield 15, 3) := by decide +kernel
theorem dX6_testsWithin_22 : decode cX6_testsWithin 22 = .ok (.iload_n 1, 1) := by decide +kernel
theorem dX6_testsWithin_23 : decode cX6_testsWithin 23 = .ok (.iaload, 1) := by decide +kernel
theorem dX6_testsWithin_24 : decode cX6_testsWithin 24 = .ok (.iload_n 3, 1) := by decide +kernel
theorem dX6_testsWithin_25 : decode cX6_testsWithin 25 = .ok (.if_icmp .gt 7, 3) := by decide +kernel
theorem dX6_testsWithin_28 : decode cX6_testsWithin 28 = .ok (.iconst 1, 1) := by decide +kernel
theorem dX6_testsWithin_29 : decode cX6_testsWithin 29 = .ok (.goto 4, 3) := by decide +kernel
theorem dX6_testsWithin_32 : decode cX6_testsWithin 32 = .ok (.iconst 0, 1) := by decide +kernel
theorem dX6_testsWithin_33 : decode cX6_testsWithin 33 = .ok (.ireturn, 1) := by decide +kernel
theorem dX6_foretoldPassing_0 : decode cX6_foretoldPassing 0 = .ok (.aload_n 0, 1) := by decide +kernel
theorem dX6_foretoldPassing_1 : decode cX6_foretoldPassing 1 = .ok (.iload_n 2, 1) := by decide +kernel
theorem dX6_foretoldPassing_2 : decode cX6_foretoldPassing 2 = .ok (.invokevirtual 43, 3) := by decide +kernel
theorem dX6_foretoldPassing_5 : decode cX6_foretoldPassing 5 = .ok (.ifCond .eq 27, 3) := by decide +kernel
theorem dX6_foretoldPassing_8 : decode cX6_foretoldPassing 8 = .ok (.aload_n 0, 1) := by decide +kernel
theorem dX6_foretoldPassing_9 : decode cX6_foretoldPassing 9 = .ok (.getfield 18, 3) := by decide +kernel
theorem dX6_foretoldPassing_12 : decode cX6_foretoldPassing 12 = .ok (.iload_n 1, 1) := by decide +kernel
theorem dX6_foretoldPassing_13 : decode cX6_foretoldPassing 13 = .ok (.iload_n 2, 1) := by decide +kernel
theorem dX6_foretoldPassing_14 : decode cX6_foretoldPassing 14 = .ok (.aload_n 0, 1) := by decide +kernel
theorem dX6_foretoldPassing_15 : decode cX6_foretoldPassing 15 = .ok (.getfield 9, 3) := by decide +kernel
theorem dX6_foretoldPassing_18 : decode cX6_foretoldPassing 18 = .ok (.iload_n 2, 1) := by decide +kernel
theorem dX6_foretoldPassing_19 : decode cX6_foretoldPassing 19 = .ok (.iaload, 1) := by decide +kernel
theorem dX6_foretoldPassing_20 : decode cX6_foretoldPassing 20 = .ok (.aload_n 0, 1) := by decide +kernel
theorem dX6_foretoldPassing_21 : decode cX6_foretoldPassing 21 = .ok (.getfield 15, 3) := by decide +kernel
theorem dX6_foretoldPassing_24 : decode cX6_foretoldPassing 24 = .ok (.iload_n 2, 1) := by decide +kernel
theorem dX6_foretoldPassing_25 : decode cX6_foretoldPassing 25 = .ok (.iaload, 1) := by decide +kernel
theorem dX6_foretoldPassing_26 : decode cX6_foretoldPassing 26 = .ok (.invokevirtual 47, 3) := by decide +kernel
theorem dX6_foretoldPassing_29 : decode cX6_foretoldPassing 29 = .ok (.goto 4, 3) := by decide +kernel
theorem dX6_foretoldPassing_32 : decode cX6_foretoldPassing 32 = .ok (.iload_n 1, 1) := by decide +kernel
theorem dX6_foretoldPassing_33 : decode cX6_foretoldPassing 33 = .ok (.ireturn, 1) := by decide +kernel
theorem dX6_passesAt_0 : decode cX6_passesAt 0 = .ok (.aload_n 0, 1) := by decide +kernel
theorem dX6_passesAt_1 : decode cX6_passesAt 1 = .ok (.iload_n 2, 1) := by decide +kernel
theorem dX6_passesAt_2 : decode cX6_passesAt 2 = .ok (.invokevirtual 43, 3) := by decide +kernel
theorem dX6_passesAt_5 : decode cX6_passesAt 5 = .ok (.ifCond .eq 30, 3) := by decide +kernel
theorem dX6_passesAt_8 : decode cX6_passesAt 8 = .ok (.aload_n 0, 1) := by decide +kernel
theorem dX6_passesAt_9 : decode cX6_passesAt 9 = .ok (.getfield 18, 3) := by decide +kernel
theorem dX6_passesAt_12 : decode cX6_passesAt 12 = .ok (.iload_n 1, 1) := by decide +kernel
theorem dX6_passesAt_13 : decode cX6_passesAt 13 = .ok (.iload_n 2, 1) := by decide +kernel
theorem dX6_passesAt_14 : decode cX6_passesAt 14 = .ok (.invokevirtual 53, 3) := by decide +kernel
theorem dX6_passesAt_17 : decode cX6_passesAt 17 = .ok (.aload_n 0, 1) := by decide +kernel
theorem dX6_passesAt_18 : decode cX6_passesAt 18 = .ok (.getfield 9, 3) := by decide +kernel
theorem dX6_passesAt_21 : decode cX6_passesAt 21 = .ok (.iload_n 2, 1) := by decide +kernel
theorem dX6_passesAt_22 : decode cX6_passesAt 22 = .ok (.iaload, 1) := by decide +kernel
theorem dX6_passesAt_23 : decode cX6_passesAt 23 = .ok (.aload_n 0, 1) := by decide +kernel
theorem dX6_passesAt_24 : decode cX6_passesAt 24 = .ok (.getfield 15, 3) := by decide +kernel
theorem dX6_passesAt_27 : decode cX6_passesAt 27 = .ok (.iload_n 2, 1) := by decide +kernel
theorem dX6_passesAt_28 : decode cX6_passesAt 28 = .ok (.iaload, 1) := by decide +kernel
theorem dX6_passesAt_29 : decode cX6_passesAt 29 = .ok (.invokestatic 32, 3) := by decide +kernel
theorem dX6_passesAt_32 : decode cX6_passesAt 32 = .ok (.ifCond .eq 7, 3) := by decide +kernel
theorem dX6_passesAt_35 : decode cX6_passesAt 35 = .ok (.iconst 1, 1) := by decide +kernel
theorem dX6_passesAt_36 : decode cX6_passesAt 36 = .ok (.goto 4, 3) := by decide +kernel
theorem dX6_passesAt_39 : decode cX6_passesAt 39 = .ok (.iconst 0, 1) := by decide +kernel
theorem dX6_passesAt_40 : decode cX6_passesAt 40 = .ok (.ireturn, 1) := by decide +kernel
theorem dX6_passes_0 : decode cX6_passes 0 = .ok (.iconst 0, 1) := by decide +kernel
theorem dX6_passes_1 : decode cX6_passes 1 = .ok (.istore_n 2, 1) := by decide +kernel
theorem dX6_passes_2 : decode cX6_passes 2 = .ok (.iload_n 2, 1) := by decide +kernel
theorem dX6_passes_3 : decode cX6_passes 3 = .ok (.iconst 4, 1) := by decide +kernel
theorem dX6_passes_4 : decode cX6_passes 4 = .ok (.if_icmp .ge 20, 3) := by decide +kernel
theorem dX6_passes_7 : decode cX6_passes 7 = .ok (.aload_n 0, 1) := by decide +kernel
theorem dX6_passes_8 : decode cX6_passes 8 = .ok (.iload_n 1, 1) := by decide +kernel
theorem dX6_passes_9 : decode cX6_passes 9 = .ok (.iload_n 2, 1) := by decide +kernel
theorem dX6_passes_10 : decode cX6_passes 10 = .ok (.invokevirtual 57, 3) := by decide +kernel
theorem dX6_passes_13 : decode cX6_passes 13 = .ok (.ifCond .ne 5, 3) := by decide +kernel
theorem dX6_passes_16 : decode cX6_passes 16 = .ok (.iconst 0, 1) := by decide +kernel
theorem dX6_passes_17 : decode cX6_passes 17 = .ok (.ireturn, 1) := by decide +kernel
theorem dX6_passes_18 : decode cX6_passes 18 = .ok (.iinc 2 1, 3) := by decide +kernel
theorem dX6_passes_21 : decode cX6_passes 21 = .ok (.goto (-19), 3) := by decide +kernel
theorem dX6_passes_24 : decode cX6_passes 24 = .ok (.iconst 1, 1) := by decide +kernel
theorem dX6_passes_25 : decode cX6_passes 25 = .ok (.ireturn, 1) := by decide +kernel
theorem dX6_answering_0 : decode cX6_answering 0 = .ok (.iconst 0, 1) := by decide +kernel
theorem dX6_answering_1 : decode cX6_answering 1 = .ok (.istore_n 1, 1) := by decide +kernel
theorem dX6_answering_2 : decode cX6_answering 2 = .ok (.iconst 0, 1) := by decide +kernel
theorem dX6_answering_3 : decode cX6_answering 3 = .ok (.istore_n 2, 1) := by decide +kernel
theorem dX6_answering_4 : decode cX6_answering 4 = .ok (.iload_n 2, 1) := by decide +kernel
theorem dX6_answering_5 : decode cX6_answering 5 = .ok (.aload_n 0, 1) := by decide +kernel
theorem dX6_answering_6 : decode cX6_answering 6 = .ok (.getfield 18, 3) := by decide +kernel
theorem dX6_answering_9 : decode cX6_answering 9 = .ok (.getfield 61, 3) := by decide +kernel
theorem dX6_answering_12 : decode cX6_answering 12 = .ok (.if_icmp .ge 25, 3) := by decide +kernel
theorem dX6_answering_15 : decode cX6_answering 15 = .ok (.iload_n 1, 1) := by decide +kernel
theorem dX6_answering_16 : decode cX6_answering 16 = .ok (.aload_n 0, 1) := by decide +kernel
theorem dX6_answering_17 : decode cX6_answering 17 = .ok (.iload_n 2, 1) := by decide +kernel
theorem dX6_answering_18 : decode cX6_answering 18 = .ok (.invokevirtual 64, 3) := by decide +kernel
theorem dX6_answering_21 : decode cX6_answering 21 = .ok (.ifCond .eq 7, 3) := by decide +kernel
theorem dX6_answering_24 : decode cX6_answering 24 = .ok (.iconst 1, 1) := by decide +kernel
theorem dX6_answering_25 : decode cX6_answering 25 = .ok (.goto 4, 3) := by decide +kernel
theorem dX6_answering_28 : decode cX6_answering 28 = .ok (.iconst 0, 1) := by decide +kernel
theorem dX6_answering_29 : decode cX6_answering 29 = .ok (.iadd, 1) := by decide +kernel
theorem dX6_answering_30 : decode cX6_answering 30 = .ok (.istore_n 1, 1) := by decide +kernel
theorem dX6_answering_31 : decode cX6_answering 31 = .ok (.iinc 2 1, 3) := by decide +kernel
theorem dX6_answering_34 : decode cX6_answering 34 = .ok (.goto (-30), 3) := by decide +kernel
theorem dX6_answering_37 : decode cX6_answering 37 = .ok (.iload_n 1, 1) := by decide +kernel
theorem dX6_answering_38 : decode cX6_answering 38 = .ok (.ireturn, 1) := by decide +kernel
theorem dX6_addedUp_0 : decode cX6_addedUp 0 = .ok (.iconst 0, 1) := by decide +kernel
theorem dX6_addedUp_1 : decode cX6_addedUp 1 = .ok (.istore_n 1, 1) := by decide +kernel
theorem dX6_addedUp_2 : decode cX6_addedUp 2 = .ok (.iconst 0, 1) := by decide +kernel
theorem dX6_addedUp_3 : decode cX6_addedUp 3 = .ok (.istore_n 2, 1) := by decide +kernel
theorem dX6_addedUp_4 : decode cX6_addedUp 4 = .ok (.iload_n 2, 1) := by decide +kernel
theorem dX6_addedUp_5 : decode cX6_addedUp 5 = .ok (.aload_n 0, 1) := by decide +kernel
theorem dX6_addedUp_6 : decode cX6_addedUp 6 = .ok (.getfield 18, 3) := by decide +kernel
theorem dX6_addedUp_9 : decode cX6_addedUp 9 = .ok (.getfield 61, 3) := by decide +kernel
theorem dX6_addedUp_12 : decode cX6_addedUp 12 = .ok (.if_icmp .ge 50, 3) := by decide +kernel
theorem dX6_addedUp_15 : decode cX6_addedUp 15 = .ok (.iload_n 1, 1) := by decide +kernel
theorem dX6_addedUp_16 : decode cX6_addedUp 16 = .ok (.aload_n 0, 1) := by decide +kernel
theorem dX6_addedUp_17 : decode cX6_addedUp 17 = .ok (.getfield 18, 3) := by decide +kernel
theorem dX6_addedUp_20 : decode cX6_addedUp 20 = .ok (.aload_n 0, 1) := by decide +kernel
theorem dX6_addedUp_21 : decode cX6_addedUp 21 = .ok (.getfield 26, 3) := by decide +kernel
theorem dX6_addedUp_24 : decode cX6_addedUp 24 = .ok (.invokevirtual 67, 3) := by decide +kernel
theorem dX6_addedUp_27 : decode cX6_addedUp 27 = .ok (.ifCond .eq 26, 3) := by decide +kernel
theorem dX6_addedUp_30 : decode cX6_addedUp 30 = .ok (.aload_n 0, 1) := by decide +kernel
theorem dX6_addedUp_31 : decode cX6_addedUp 31 = .ok (.iload_n 2, 1) := by decide +kernel
theorem dX6_addedUp_32 : decode cX6_addedUp 32 = .ok (.invokevirtual 64, 3) := by decide +kernel
theorem dX6_addedUp_35 : decode cX6_addedUp 35 = .ok (.ifCond .eq 18, 3) := by decide +kernel
theorem dX6_addedUp_38 : decode cX6_addedUp 38 = .ok (.aload_n 0, 1) := by decide +kernel
theorem dX6_addedUp_39 : decode cX6_addedUp 39 = .ok (.getfield 18, 3) := by decide +kernel
theorem dX6_addedUp_42 : decode cX6_addedUp 42 = .ok (.iload_n 2, 1) := by decide +kernel
theorem dX6_addedUp_43 : decode cX6_addedUp 43 = .ok (.aload_n 0, 1) := by decide +kernel
theorem dX6_addedUp_44 : decode cX6_addedUp 44 = .ok (.getfield 26, 3) := by decide +kernel
theorem dX6_addedUp_47 : decode cX6_addedUp 47 = .ok (.invokevirtual 53, 3) := by decide +kernel
theorem dX6_addedUp_50 : decode cX6_addedUp 50 = .ok (.goto 4, 3) := by decide +kernel
theorem dX6_addedUp_53 : decode cX6_addedUp 53 = .ok (.iconst 0, 1) := by decide +kernel
theorem dX6_addedUp_54 : decode cX6_addedUp 54 = .ok (.iadd, 1) := by decide +kernel
theorem dX6_addedUp_55 : decode cX6_addedUp 55 = .ok (.istore_n 1, 1) := by decide +kernel
theorem dX6_addedUp_56 : decode cX6_addedUp 56 = .ok (.iinc 2 1, 3) := by decide +kernel
theorem dX6_addedUp_59 : decode cX6_addedUp 59 = .ok (.goto (-55), 3) := by decide +kernel
theorem dX6_addedUp_62 : decode cX6_addedUp 62 = .ok (.iload_n 1, 1) := by decide +kernel
theorem dX6_addedUp_63 : decode cX6_addedUp 63 = .ok (.ireturn, 1) := by decide +kernel
theorem dX6_touched_0 : decode cX6_touched 0 = .ok (.aload_n 0, 1) := by decide +kernel
theorem dX6_touched_1 : decode cX6_touched 1 = .ok (.getfield 22, 3) := by decide +kernel
theorem dX6_touched_4 : decode cX6_touched 4 = .ok (.aload_n 0, 1) := by decide +kernel
theorem dX6_touched_5 : decode cX6_touched 5 = .ok (.getfield 36, 3) := by decide +kernel
theorem dX6_touched_8 : decode cX6_touched 8 = .ok (.ior, 1) := by decide +kernel
theorem dX6_touched_9 : decode cX6_touched 9 = .ok (.aload_n 0, 1) := by decide +kernel
theorem dX6_touched_10 : decode cX6_touched 10 = .ok (.getfield 26, 3) := by decide +kernel
theorem dX6_touched_13 : decode cX6_touched 13 = .ok (.invokestatic 39, 3) := by decide +kernel
theorem dX6_touched_16 : decode cX6_touched 16 = .ok (.ior, 1) := by decide +kernel
theorem dX6_touched_17 : decode cX6_touched 17 = .ok (.ireturn, 1) := by decide +kernel
theorem dX7_init_0 : decode cX7_init 0 = .ok (.aload_n 0, 1) := by decide +kernel
theorem dX7_init_1 : decode cX7_init 1 = .ok (.invokespecial 3, 3) := by decide +kernel
theorem dX7_init_4 : decode cX7_init 4 = .ok (.aload_n 0, 1) := by decide +kernel
theorem dX7_init_5 : decode cX7_init 5 = .ok (.bipush 24, 2) := by decide +kernel
theorem dX7_init_7 : decode cX7_init 7 = .ok (.newarray .int, 2) := by decide +kernel
theorem dX7_init_9 : decode cX7_init 9 = .ok (.putfield 9, 3) := by decide +kernel
theorem dX7_init_12 : decode cX7_init 12 = .ok (.aload_n 0, 1) := by decide +kernel
theorem dX7_init_13 : decode cX7_init 13 = .ok (.bipush 12, 2) := by decide +kernel
theorem dX7_init_15 : decode cX7_init 15 = .ok (.bipush 24, 2) := by decide +kernel
theorem dX7_init_17 : decode cX7_init 17 = .ok (.multianewarray 15 2, 4) := by decide +kernel
theorem dX7_init_21 : decode cX7_init 21 = .ok (.putfield 17, 3) := by decide +kernel
theorem dX7_init_24 : decode cX7_init 24 = .ok (.aload_n 0, 1) := by decide +kernel
theorem dX7_init_25 : decode cX7_init 25 = .ok (.bipush 12, 2) := by decide +kernel
theorem dX7_init_27 : decode cX7_init 27 = .ok (.newarray .int, 2) := by decide +kernel
theorem dX7_init_29 : decode cX7_init 29 = .ok (.putfield 20, 3) := by decide +kernel
theorem dX7_init_32 : decode cX7_init 32 = .ok (.aload_n 0, 1) := by decide +kernel
theorem dX7_init_33 : decode cX7_init 33 = .ok (.bipush 12, 2) := by decide +kernel
theorem dX7_init_35 : decode cX7_init 35 = .ok (.newarray .int, 2) := by decide +kernel
theorem dX7_init_37 : decode cX7_init 37 = .ok (.putfield 23, 3) := by decide +kernel
theorem dX7_init_40 : decode cX7_init 40 = .ok (.aload_n 0, 1) := by decide +kernel
theorem dX7_init_41 : decode cX7_init 41 = .ok (.bipush 12, 2) := by decide +kernel
theorem dX7_init_43 : decode cX7_init 43 = .ok (.newarray .int, 2) := by decide +kernel
theorem dX7_init_45 : decode cX7_init 45 = .ok (.putfield 26, 3) := by decide +kernel
theorem dX7_init_48 : decode cX7_init 48 = .ok (.aload_n 0, 1) := by decide +kernel
theorem dX7_init_49 : decode cX7_init 49 = .ok (.bipush 13, 2) := by decide +kernel
theorem dX7_init_51 : decode cX7_init 51 = .ok (.bipush 24, 2) := by decide +kernel
theorem dX7_init_53 : decode cX7_init 53 = .ok (.multianewarray 15 2, 4) := by decide +kernel
theorem dX7_init_57 : decode cX7_init 57 = .ok (.putfield 29, 3) := by decide +kernel
theorem dX7_init_60 : decode cX7_init 60 = .ok (.return_, 1) := by decide +kernel
theorem dX7_load_0 : decode cX7_load 0 = .ok (.aload_n 0, 1) := by decide +kernel
theorem dX7_load_1 : decode cX7_load 1 = .ok (.aload_n 1, 1) := by decide +kernel
theorem dX7_load_2 : decode cX7_load 2 = .ok (.invokevirtual 32, 3) := by decide +kernel
theorem dX7_load_5 : decode cX7_load 5 = .ok (.bipush 24, 2) := by decide +kernel
theorem dX7_load_7 : decode cX7_load 7 = .ok (.invokestatic 38, 3) := by decide +kernel
theorem dX7_load_10 : decode cX7_load 10 = .ok (.putfield 44, 3) := by decide +kernel
theorem dX7_load_13 : decode cX7_load 13 = .ok (.aload_n 0, 1) := by decide +kernel
theorem dX7_load_14 : decode cX7_load 14 = .ok (.aload_n 2, 1) := by decide +kernel
theorem dX7_load_15 : decode cX7_load 15 = .ok (.invokevirtual 32, 3) := by decide +kernel
theorem dX7_load_18 : decode cX7_load 18 = .ok (.bipush 12, 2) := by decide +kernel
theorem dX7_load_20 : decode cX7_load 20 = .ok (.invokestatic 38, 3) := by decide +kernel
theorem dX7_load_23 : decode cX7_load 23 = .ok (.putfield 48, 3) := by decide +kernel
theorem dX7_load_26 : decode cX7_load 26 = .ok (.iconst 0, 1) := by decide +kernel
theorem dX7_load_27 : decode cX7_load 27 = .ok (.istore_n 3, 1) := by decide +kernel
theorem dX7_load_28 : decode cX7_load 28 = .ok (.iload_n 3, 1) := by decide +kernel
theorem dX7_load_29 : decode cX7_load 29 = .ok (.aload_n 0, 1) := by decide +kernel
theorem dX7_load_30 : decode cX7_load 30 = .ok (.getfield 44, 3) := by decide +kernel
theorem dX7_load_33 : decode cX7_load 33 = .ok (.if_icmp .ge 48, 3) := by decide +kernel
theorem dX7_load_36 : decode cX7_load 36 = .ok (.aload_n 0, 1) := by decide +kernel
theorem dX7_load_37 : decode cX7_load 37 = .ok (.getfield 9, 3) := by decide +kernel
theorem dX7_load_40 : decode cX7_load 40 = .ok (.iload_n 3, 1) := by decide +kernel
theorem dX7_load_41 : decode cX7_load 41 = .ok (.aload_n 1, 1) := by decide +kernel
theorem dX7_load_42 : decode cX7_load 42 = .ok (.iload_n 3, 1) := by decide +kernel
theorem dX7_load_43 : decode cX7_load 43 = .ok (.invokevirtual 51, 3) := by decide +kernel
theorem dX7_load_46 : decode cX7_load 46 = .ok (.checkcast 55, 3) := by decide +kernel
theorem dX7_load_49 : decode cX7_load 49 = .ok (.getfield 57, 3) := by decide +kernel
theorem dX7_load_52 : decode cX7_load 52 = .ok (.iastore, 1) := by decide +kernel
theorem dX7_load_53 : decode cX7_load 53 = .ok (.aload_n 0, 1) := by decide +kernel
theorem dX7_load_54 : decode cX7_load 54 = .ok (.getfield 29, 3) := by decide +kernel
theorem dX7_load_57 : decode cX7_load 57 = .ok (.iconst 0, 1) := by decide +kernel
theorem dX7_load_58 : decode cX7_load 58 = .ok (.aaload, 1) := by decide +kernel
theorem dX7_load_59 : decode cX7_load 59 = .ok (.iload_n 3, 1) := by decide +kernel
theorem dX7_load_60 : decode cX7_load 60 = .ok (.aload_n 1, 1) := by decide +kernel
theorem dX7_load_61 : decode cX7_load 61 = .ok (.iload_n 3, 1) := by decide +kernel
theorem dX7_load_62 : decode cX7_load 62 = .ok (.invokevirtual 51, 3) := by decide +kernel
theorem dX7_load_65 : decode cX7_load 65 = .ok (.checkcast 55, 3) := by decide +kernel
theorem dX7_load_68 : decode cX7_load 68 = .ok (.getfield 60, 3) := by decide +kernel
theorem dX7_load_71 : decode cX7_load 71 = .ok (.invokevirtual 64, 3) := by decide +kernel
theorem dX7_load_74 : decode cX7_load 74 = .ok (.iastore, 1) := by decide +kernel
theorem dX7_load_75 : decode cX7_load 75 = .ok (.iinc 3 1, 3) := by decide +kernel
theorem dX7_load_78 : decode cX7_load 78 = .ok (.goto (-50), 3) := by decide +kernel
theorem dX7_load_81 : decode cX7_load 81 = .ok (.iconst 0, 1) := by decide +kernel
theorem dX7_load_82 : decode cX7_load 82 = .ok (.istore_n 3, 1) := by decide +kernel
theorem dX7_load_83 : decode cX7_load 83 = .ok (.iload_n 3, 1) := by decide +kernel
theorem dX7_load_84 : decode cX7_load 84 = .ok (.aload_n 0, 1) := by decide +kernel
theorem dX7_load_85 : decode cX7_load 85 = .ok (.getfield 48, 3) := by decide +kernel
theorem dX7_load_88 : decode cX7_load 88 = .ok (.if_icmp .ge 153, 3) := by decide +kernel
theorem dX7_load_91 : decode cX7_load 91 = .ok (.aload_n 2, 1) := by decide +kernel
theorem dX7_load_92 : decode cX7_load 92 = .ok (.iload_n 3, 1) := by decide +kernel
theorem dX7_load_93 : decode cX7_load 93 = .ok (.invokevirtual 51, 3) := by decide +kernel
theorem dX7_load_96 : decode cX7_load 96 = .ok (.checkcast 69, 3) := by decide +kernel
theorem dX7_load_99 : decode cX7_load 99 = .ok (.astore 4, 2) := by decide +kernel
theorem dX7_load_101 : decode cX7_load 101 = .ok (.aload_n 0, 1) := by decide +kernel
theorem dX7_load_102 : decode cX7_load 102 = .ok (.getfield 20, 3) := by decide +kernel
theorem dX7_load_105 : decode cX7_load 105 = .ok (.iload_n 3, 1) := by decide +kernel
theorem dX7_load_106 : decode cX7_load 106 = .ok (.aload 4, 2) := by decide +kernel
theorem dX7_load_108 : decode cX7_load 108 = .ok (.invokevirtual 71, 3) := by decide +kernel
theorem dX7_load_111 : decode cX7_load 111 = .ok (.iastore, 1) := by decide +kernel
theorem dX7_load_112 : decode cX7_load 112 = .ok (.aload_n 0, 1) := by decide +kernel
theorem dX7_load_113 : decode cX7_load 113 = .ok (.getfield 23, 3) := by decide +kernel
theorem dX7_load_116 : decode cX7_load 116 = .ok (.iload_n 3, 1) := by decide +kernel
theorem dX7_load_117 : decode cX7_load 117 = .ok (.aload 4, 2) := by decide +kernel
theorem dX7_load_119 : decode cX7_load 119 = .ok (.invokevirtual 74, 3) := by decide +kernel
theorem dX7_load_122 : decode cX7_load 122 = .ok (.aload 4, 2) := by decide +kernel
theorem dX7_load_124 : decode cX7_load 124 = .ok (.getfield 77, 3) := by decide +kernel
theorem dX7_load_127 : decode cX7_load 127 = .ok (.getfield 78, 3) := by decide +kernel
theorem dX7_load_130 : decode cX7_load 130 = .ok (.imul, 1) := by decide +kernel
theorem dX7_load_131 : decode cX7_load 131 = .ok (.iastore, 1) := by decide +kernel
theorem dX7_load_132 : decode cX7_load 132 = .ok (.aload_n 0, 1) := by decide +kernel
theorem dX7_load_133 : decode cX7_load 133 = .ok (.getfield 26, 3) := by decide +kernel
theorem dX7_load_136 : decode cX7_load 136 = .ok (.iload_n 3, 1) := by decide +kernel
theorem dX7_load_137 : decode cX7_load 137 = .ok (.aload_n 2, 1) := by decide +kernel
theorem dX7_load_138 : decode cX7_load 138 = .ok (.iload_n 3, 1) := by decide +kernel
theorem dX7_load_139 : decode cX7_load 139 = .ok (.invokestatic 81, 3) := by decide +kernel
theorem dX7_load_142 : decode cX7_load 142 = .ok (.iastore, 1) := by decide +kernel
theorem dX7_load_143 : decode cX7_load 143 = .ok (.iconst 0, 1) := by decide +kernel
theorem dX7_load_144 : decode cX7_load 144 = .ok (.istore 5, 2) := by decide +kernel
theorem dX7_load_146 : decode cX7_load 146 = .ok (.iload 5, 2) := by decide +kernel
theorem dX7_load_148 : decode cX7_load 148 = .ok (.aload_n 0, 1) := by decide +kernel
theorem dX7_load_149 : decode cX7_load 149 = .ok (.getfield 44, 3) := by decide +kernel
theorem dX7_load_152 : decode cX7_load 152 = .ok (.if_icmp .ge 83, 3) := by decide +kernel
theorem dX7_load_155 : decode cX7_load 155 = .ok (.aload_n 1, 1) := by decide +kernel
theorem dX7_load_156 : decode cX7_load 156 = .ok (.iload 5, 2) := by decide +kernel
theorem dX7_load_158 : decode cX7_load 158 = .ok (.invokevirtual 51, 3) := by decide +kernel
theorem dX7_load_161 : decode cX7_load 161 = .ok (.checkcast 55, 3) := by decide +kernel
theorem dX7_load_164 : decode cX7_load 164 = .ok (.astore 6, 2) := by decide +kernel
theorem dX7_load_166 : decode cX7_load 166 = .ok (.aload 4, 2) := by decide +kernel
theorem dX7_load_168 : decode cX7_load 168 = .ok (.getfield 77, 3) := by decide +kernel
theorem dX7_load_171 : decode cX7_load 171 = .ok (.aload 6, 2) := by decide +kernel
theorem dX7_load_173 : decode cX7_load 173 = .ok (.getfield 60, 3) := by decide +kernel
theorem dX7_load_176 : decode cX7_load 176 = .ok (.if_acmp .ne 17, 3) := by decide +kernel
theorem dX7_load_179 : decode cX7_load 179 = .ok (.aload 4, 2) := by decide +kernel
theorem dX7_load_181 : decode cX7_load 181 = .ok (.aload 6, 2) := by decide +kernel
theorem dX7_load_183 : decode cX7_load 183 = .ok (.invokevirtual 85, 3) := by decide +kernel
theorem dX7_load_186 : decode cX7_load 186 = .ok (.ifCond .eq 7, 3) := by decide +kernel
theorem dX7_load_189 : decode cX7_load 189 = .ok (.iconst 1, 1) := by decide +kernel
theorem dX7_load_190 : decode cX7_load 190 = .ok (.goto 4, 3) := by decide +kernel
theorem dX7_load_193 : decode cX7_load 193 = .ok (.iconst 0, 1) := by decide +kernel
theorem dX7_load_194 : decode cX7_load 194 = .ok (.istore 7, 2) := by decide +kernel
theorem dX7_load_196 : decode cX7_load 196 = .ok (.aload_n 0, 1) := by decide +kernel
theorem dX7_load_197 : decode cX7_load 197 = .ok (.getfield 17, 3) := by decide +kernel
theorem dX7_load_200 : decode cX7_load 200 = .ok (.iload_n 3, 1) := by decide +kernel
theorem dX7_load_201 : decode cX7_load 201 = .ok (.aaload, 1) := by decide +kernel
theorem dX7_load_202 : decode cX7_load 202 = .ok (.iload 5, 2) := by decide +kernel
theorem dX7_load_204 : decode cX7_load 204 = .ok (.iload 7, 2) := by decide +kernel
theorem dX7_load_206 : decode cX7_load 206 = .ok (.ifCond .eq 13, 3) := by decide +kernel
theorem dX7_load_209 : decode cX7_load 209 = .ok (.aload 4, 2) := by decide +kernel
theorem dX7_load_211 : decode cX7_load 211 = .ok (.aload 6, 2) := by decide +kernel
theorem dX7_load_213 : decode cX7_load 213 = .ok (.invokevirtual 89, 3) := by decide +kernel
theorem dX7_load_216 : decode cX7_load 216 = .ok (.goto 12, 3) := by decide +kernel
theorem dX7_load_219 : decode cX7_load 219 = .ok (.aload_n 0, 1) := by decide +kernel
theorem dX7_load_220 : decode cX7_load 220 = .ok (.getfield 29, 3) := by decide +kernel
theorem dX7_load_223 : decode cX7_load 223 = .ok (.iconst 0, 1) := by decide +kernel
theorem dX7_load_224 : decode cX7_load 224 = .ok (.aaload, 1) := by decide +kernel
theorem dX7_load_225 : decode cX7_load 225 = .ok (.iload 5, 2) := by decide +kernel
theorem dX7_load_227 : decode cX7_load 227 = .ok (.iaload, 1) := by decide +kernel
theorem dX7_load_228 : decode cX7_load 228 = .ok (.iastore, 1) := by decide +kernel
theorem dX7_load_229 : decode cX7_load 229 = .ok (.iinc 5 1, 3) := by decide +kernel
theorem dX7_load_232 : decode cX7_load 232 = .ok (.goto (-86), 3) := by decide +kernel
theorem dX7_load_235 : decode cX7_load 235 = .ok (.iinc 3 1, 3) := by decide +kernel
theorem dX7_load_238 : decode cX7_load 238 = .ok (.goto (-155), 3) := by decide +kernel
theorem dX7_load_241 : decode cX7_load 241 = .ok (.return_, 1) := by decide +kernel
theorem dX7_weigh_0 : decode cX7_weigh 0 = .ok (.aload_n 0, 1) := by decide +kernel
theorem dX7_weigh_1 : decode cX7_weigh 1 = .ok (.invokevirtual 93, 3) := by decide +kernel
theorem dX7_weigh_4 : decode cX7_weigh 4 = .ok (.lstore_n 2, 1) := by decide +kernel
theorem dX7_weigh_5 : decode cX7_weigh 5 = .ok (.iconst 0, 1) := by decide +kernel
theorem dX7_weigh_6 : decode cX7_weigh 6 = .ok (.istore 4, 2) := by decide +kernel
theorem dX7_weigh_8 : decode cX7_weigh 8 = .ok (.iload 4, 2) := by decide +kernel
theorem dX7_weigh_10 : decode cX7_weigh 10 = .ok (.aload_n 0, 1) := by decide +kernel
theorem dX7_weigh_11 : decode cX7_weigh 11 = .ok (.getfield 48, 3) := by decide +kernel
theorem dX7_weigh_14 : decode cX7_weigh 14 = .ok (.if_icmp .ge 50, 3) := by decide +kernel
theorem dX7_weigh_17 : decode cX7_weigh 17 = .ok (.lload_n 2, 1) := by decide +kernel
theorem dX7_weigh_18 : decode cX7_weigh 18 = .ok (.iload 4, 2) := by decide +kernel
theorem dX7_weigh_20 : decode cX7_weigh 20 = .ok (.iload_n 1, 1) := by decide +kernel
theorem dX7_weigh_21 : decode cX7_weigh 21 = .ok (.invokestatic 97, 3) := by decide +kernel
theorem dX7_weigh_24 : decode cX7_weigh 24 = .ok (.ifCond .eq 19, 3) := by decide +kernel
theorem dX7_weigh_27 : decode cX7_weigh 27 = .ok (.aload_n 0, 1) := by decide +kernel
theorem dX7_weigh_28 : decode cX7_weigh 28 = .ok (.iload 4, 2) := by decide +kernel
theorem dX7_weigh_30 : decode cX7_weigh 30 = .ok (.aload_n 0, 1) := by decide +kernel
theorem dX7_weigh_31 : decode cX7_weigh 31 = .ok (.getfield 29, 3) := by decide +kernel
theorem dX7_weigh_34 : decode cX7_weigh 34 = .ok (.iload 4, 2) := by decide +kernel
theorem dX7_weigh_36 : decode cX7_weigh 36 = .ok (.aaload, 1) := by decide +kernel
theorem dX7_weigh_37 : decode cX7_weigh 37 = .ok (.invokevirtual 101, 3) := by decide +kernel
theorem dX7_weigh_40 : decode cX7_weigh 40 = .ok (.goto 4, 3) := by decide +kernel
theorem dX7_weigh_43 : decode cX7_weigh 43 = .ok (.lconst 0, 1) := by decide +kernel
theorem dX7_weigh_44 : decode cX7_weigh 44 = .ok (.lsub, 1) := by decide +kernel
theorem dX7_weigh_45 : decode cX7_weigh 45 = .ok (.lstore_n 2, 1) := by decide +kernel
theorem dX7_weigh_46 : decode cX7_weigh 46 = .ok (.aload_n 0, 1) := by decide +kernel
theorem dX7_weigh_47 : decode cX7_weigh 47 = .ok (.iload 4, 2) := by decide +kernel
theorem dX7_weigh_49 : decode cX7_weigh 49 = .ok (.iload 4, 2) := by decide +kernel
theorem dX7_weigh_51 : decode cX7_weigh 51 = .ok (.iload_n 1, 1) := by decide +kernel
theorem dX7_weigh_52 : decode cX7_weigh 52 = .ok (.invokestatic 97, 3) := by decide +kernel
theorem dX7_weigh_55 : decode cX7_weigh 55 = .ok (.invokevirtual 105, 3) := by decide +kernel
theorem dX7_weigh_58 : decode cX7_weigh 58 = .ok (.iinc 4 1, 3) := by decide +kernel
theorem dX7_weigh_61 : decode cX7_weigh 61 = .ok (.goto (-53), 3) := by decide +kernel
theorem dX7_weigh_64 : decode cX7_weigh 64 = .ok (.lload_n 2, 1) := by decide +kernel
theorem dX7_weigh_65 : decode cX7_weigh 65 = .ok (.lreturn, 1) := by decide +kernel
theorem dX7_weighNothing_0 : decode cX7_weighNothing 0 = .ok (.lconst 0, 1) := by decide +kernel
theorem dX7_weighNothing_1 : decode cX7_weighNothing 1 = .ok (.lstore_n 1, 1) := by decide +kernel
theorem dX7_weighNothing_2 : decode cX7_weighNothing 2 = .ok (.iconst 0, 1) := by decide +kernel
theorem dX7_weighNothing_3 : decode cX7_weighNothing 3 = .ok (.istore_n 3, 1) := by decide +kernel
theorem dX7_weighNothing_4 : decode cX7_weighNothing 4 = .ok (.iload_n 3, 1) := by decide +kernel
theorem dX7_weighNothing_5 : decode cX7_weighNothing 5 = .ok (.aload_n 0, 1) := by decide +kernel
theorem dX7_weighNothing_6 : decode cX7_weighNothing 6 = .ok (.getfield 44, 3) := by decide +kernel
theorem dX7_weighNothing_9 : decode cX7_weighNothing 9 = .ok (.if_icmp .ge 29, 3) := by decide +kernel
theorem dX7_weighNothing_12 : decode cX7_weighNothing 12 = .ok (.lload_n 1, 1) := by decide +kernel
theorem dX7_weighNothing_13 : decode cX7_weighNothing 13 = .ok (.aload_n 0, 1) := by decide +kernel
theorem dX7_weighNothing_14 : decode cX7_weighNothing 14 = .ok (.getfield 9, 3) := by decide +kernel
theorem dX7_weighNothing_17 : decode cX7_weighNothing 17 = .ok (.iload_n 3, 1) := by decide +kernel
theorem dX7_weighNothing_18 : decode cX7_weighNothing 18 = .ok (.iaload, 1) := by decide +kernel
theorem dX7_weighNothing_19 : decode cX7_weighNothing 19 = .ok (.i2l, 1) := by decide +kernel
theorem dX7_weighNothing_20 : decode cX7_weighNothing 20 = .ok (.aload_n 0, 1) := by decide +kernel
theorem dX7_weighNothing_21 : decode cX7_weighNothing 21 = .ok (.getfield 29, 3) := by decide +kernel
theorem dX7_weighNothing_24 : decode cX7_weighNothing 24 = .ok (.iconst 0, 1) := by decide +kernel
theorem dX7_weighNothing_25 : decode cX7_weighNothing 25 = .ok (.aaload, 1) := by decide +kernel
theorem dX7_weighNothing_26 : decode cX7_weighNothing 26 = .ok (.iload_n 3, 1) := by decide +kernel
theorem dX7_weighNothing_27 : decode cX7_weighNothing 27 = .ok (.iaload, 1) := by decide +kernel
theorem dX7_weighNothing_28 : decode cX7_weighNothing 28 = .ok (.i2l, 1) := by decide +kernel
theorem dX7_weighNothing_29 : decode cX7_weighNothing 29 = .ok (.lmul, 1) := by decide +kernel
theorem dX7_weighNothing_30 : decode cX7_weighNothing 30 = .ok (.ladd, 1) := by decide +kernel
theorem dX7_weighNothing_31 : decode cX7_weighNothing 31 = .ok (.lstore_n 1, 1) := by decide +kernel
theorem dX7_weighNothing_32 : decode cX7_weighNothing 32 = .ok (.iinc 3 1, 3) := by decide +kernel
theorem dX7_weighNothing_35 : decode cX7_weighNothing 35 = .ok (.goto (-31), 3) := by decide +kernel
theorem dX7_weighNothing_38 : decode cX7_weighNothing 38 = .ok (.lload_n 1, 1) := by decide +kernel
theorem dX7_weighNothing_39 : decode cX7_weighNothing 39 = .ok (.lreturn, 1) := by decide +kernel
theorem dX7_savedBy_0 : decode cX7_savedBy 0 = .ok (.aload_n 0, 1) := by decide +kernel
theorem dX7_savedBy_1 : decode cX7_savedBy 1 = .ok (.getfield 23, 3) := by decide +kernel
theorem dX7_savedBy_4 : decode cX7_savedBy 4 = .ok (.iload_n 1, 1) := by decide +kernel
theorem dX7_savedBy_5 : decode cX7_savedBy 5 = .ok (.iaload, 1) := by decide +kernel
theorem dX7_savedBy_6 : decode cX7_savedBy 6 = .ok (.ineg, 1) := by decide +kernel
theorem dX7_savedBy_7 : decode cX7_savedBy 7 = .ok (.i2l, 1) := by decide +kernel
theorem dX7_savedBy_8 : decode cX7_savedBy 8 = .ok (.lstore_n 3, 1) := by decide +kernel
theorem dX7_savedBy_9 : decode cX7_savedBy 9 = .ok (.iconst 0, 1) := by decide +kernel
theorem dX7_savedBy_10 : decode cX7_savedBy 10 = .ok (.istore 5, 2) := by decide +kernel
theorem dX7_savedBy_12 : decode cX7_savedBy 12 = .ok (.iload 5, 2) := by decide +kernel
theorem dX7_savedBy_14 : decode cX7_savedBy 14 = .ok (.aload_n 0, 1) := by decide +kernel
theorem dX7_savedBy_15 : decode cX7_savedBy 15 = .ok (.getfield 44, 3) := by decide +kernel
theorem dX7_savedBy_18 : decode cX7_savedBy 18 = .ok (.if_icmp .ge 40, 3) := by decide +kernel
theorem dX7_savedBy_21 : decode cX7_savedBy 21 = .ok (.lload_n 3, 1) := by decide +kernel
theorem dX7_savedBy_22 : decode cX7_savedBy 22 = .ok (.aload_n 0, 1) := by decide +kernel
theorem dX7_savedBy_23 : decode cX7_savedBy 23 = .ok (.getfield 9, 3) := by decide +kernel
theorem dX7_savedBy_26 : decode cX7_savedBy 26 = .ok (.iload 5, 2) := by decide +kernel
theorem dX7_savedBy_28 : decode cX7_savedBy 28 = .ok (.iaload, 1) := by decide +kernel
theorem dX7_savedBy_29 : decode cX7_savedBy 29 = .ok (.i2l, 1) := by decide +kernel
theorem dX7_savedBy_30 : decode cX7_savedBy 30 = .ok (.iconst 0, 1) := by decide +kernel
theorem dX7_savedBy_31 : decode cX7_savedBy 31 = .ok (.aload_n 2, 1) := by decide +kernel
theorem dX7_savedBy_32 : decode cX7_savedBy 32 = .ok (.iload 5, 2) := by decide +kernel
theorem dX7_savedBy_34 : decode cX7_savedBy 34 = .ok (.iaload, 1) := by decide +kernel
theorem dX7_savedBy_35 : decode cX7_savedBy 35 = .ok (.aload_n 0, 1) := by decide +kernel
theorem dX7_savedBy_36 : decode cX7_savedBy 36 = .ok (.getfield 17, 3) := by decide +kernel
theorem dX7_savedBy_39 : decode cX7_savedBy 39 = .ok (.iload_n 1, 1) := by decide +kernel
theorem dX7_savedBy_40 : decode cX7_savedBy 40 = .ok (.aaload, 1) := by decide +kernel
theorem dX7_savedBy_41 : decode cX7_savedBy 41 = .ok (.iload 5, 2) := by decide +kernel
theorem dX7_savedBy_43 : decode cX7_savedBy 43 = .ok (.iaload, 1) := by decide +kernel
theorem dX7_savedBy_44 : decode cX7_savedBy 44 = .ok (.isub, 1) := by decide +kernel
theorem dX7_savedBy_45 : decode cX7_savedBy 45 = .ok (.invokestatic 109, 3) := by decide +kernel
theorem dX7_savedBy_48 : decode cX7_savedBy 48 = .ok (.i2l, 1) := by decide +kernel
theorem dX7_savedBy_49 : decode cX7_savedBy 49 = .ok (.lmul, 1) := by decide +kernel
theorem dX7_savedBy_50 : decode cX7_savedBy 50 = .ok (.ladd, 1) := by decide +kernel
theorem dX7_savedBy_51 : decode cX7_savedBy 51 = .ok (.lstore_n 3, 1) := by decide +kernel
theorem dX7_savedBy_52 : decode cX7_savedBy 52 = .ok (.iinc 5 1, 3) := by decide +kernel
theorem dX7_savedBy_55 : decode cX7_savedBy 55 = .ok (.goto (-43), 3) := by decide +kernel
theorem dX7_savedBy_58 : decode cX7_savedBy 58 = .ok (.lload_n 3, 1) := by decide +kernel
theorem dX7_savedBy_59 : decode cX7_savedBy 59 = .ok (.lreturn, 1) := by decide +kernel
theorem dX7_settle_0 : decode cX7_settle 0 = .ok (.iconst 0, 1) := by decide +kernel
theorem dX7_settle_1 : decode cX7_settle 1 = .ok (.istore_n 3, 1) := by decide +kernel
theorem dX7_settle_2 : decode cX7_settle 2 = .ok (.iload_n 3, 1) := by decide +kernel
theorem dX7_settle_3 : decode cX7_settle 3 = .ok (.aload_n 0, 1) := by decide +kernel
theorem dX7_settle_4 : decode cX7_settle 4 = .ok (.getfield 44, 3) := by decide +kernel
theorem dX7_settle_7 : decode cX7_settle 7 = .ok (.if_icmp .ge 53, 3) := by decide +kernel
theorem dX7_settle_10 : decode cX7_settle 10 = .ok (.aload_n 0, 1) := by decide +kernel
theorem dX7_settle_11 : decode cX7_settle 11 = .ok (.getfield 29, 3) := by decide +kernel
theorem dX7_settle_14 : decode cX7_settle 14 = .ok (.iload_n 1, 1) := by decide +kernel
theorem dX7_settle_15 : decode cX7_settle 15 = .ok (.iconst 1, 1) := by decide +kernel
theorem dX7_settle_16 : decode cX7_settle 16 = .ok (.iadd, 1) := by decide +kernel
theorem dX7_settle_17 : decode cX7_settle 17 = .ok (.aaload, 1) := by decide +kernel
theorem dX7_settle_18 : decode cX7_settle 18 = .ok (.iload_n 3, 1) := by decide +kernel
theorem dX7_settle_19 : decode cX7_settle 19 = .ok (.iload_n 2, 1) := by decide +kernel
theorem dX7_settle_20 : decode cX7_settle 20 = .ok (.ifCond .eq 25, 3) := by decide +kernel
theorem dX7_settle_23 : decode cX7_settle 23 = .ok (.aload_n 0, 1) := by decide +kernel
theorem dX7_settle_24 : decode cX7_settle 24 = .ok (.getfield 29, 3) := by decide +kernel
theorem dX7_settle_27 : decode cX7_settle 27 = .ok (.iload_n 1, 1) := by decide +kernel
theorem dX7_settle_28 : decode cX7_settle 28 = .ok (.aaload, 1) := by decide +kernel
theorem dX7_settle_29 : decode cX7_settle 29 = .ok (.iload_n 3, 1) := by decide +kernel
theorem dX7_settle_30 : decode cX7_settle 30 = .ok (.iaload, 1) := by decide +kernel
theorem dX7_settle_31 : decode cX7_settle 31 = .ok (.aload_n 0, 1) := by decide +kernel
theorem dX7_settle_32 : decode cX7_settle 32 = .ok (.getfield 17, 3) := by decide +kernel
theorem dX7_settle_35 : decode cX7_settle 35 = .ok (.iload_n 1, 1) := by decide +kernel
theorem dX7_settle_36 : decode cX7_settle 36 = .ok (.aaload, 1) := by decide +kernel
theorem dX7_settle_37 : decode cX7_settle 37 = .ok (.iload_n 3, 1) := by decide +kernel
theorem dX7_settle_38 : decode cX7_settle 38 = .ok (.iaload, 1) := by decide +kernel
theorem dX7_settle_39 : decode cX7_settle 39 = .ok (.invokestatic 38, 3) := by decide +kernel
theorem dX7_settle_42 : decode cX7_settle 42 = .ok (.goto 11, 3) := by decide +kernel
theorem dX7_settle_45 : decode cX7_settle 45 = .ok (.aload_n 0, 1) := by decide +kernel
theorem dX7_settle_46 : decode cX7_settle 46 = .ok (.getfield 29, 3) := by decide +kernel
theorem dX7_settle_49 : decode cX7_settle 49 = .ok (.iload_n 1, 1) := by decide +kernel
theorem dX7_settle_50 : decode cX7_settle 50 = .ok (.aaload, 1) := by decide +kernel
theorem dX7_settle_51 : decode cX7_settle 51 = .ok (.iload_n 3, 1) := by decide +kernel
theorem dX7_settle_52 : decode cX7_settle 52 = .ok (.iaload, 1) := by decide +kernel
theorem dX7_settle_53 : decode cX7_settle 53 = .ok (.iastore, 1) := by decide +kernel
theorem dX7_settle_54 : decode cX7_settle 54 = .ok (.iinc 3 1, 3) := by decide +kernel
theorem dX7_settle_57 : decode cX7_settle 57 = .ok (.goto (-55), 3) := by decide +kernel
theorem dX7_settle_60 : decode cX7_settle 60 = .ok (.return_, 1) := by decide +kernel
theorem dX7_fits_0 : decode cX7_fits 0 = .ok (.iload_n 1, 1) := by decide +kernel
theorem dX7_fits_1 : decode cX7_fits 1 = .ok (.iload_n 2, 1) := by decide +kernel
theorem dX7_fits_2 : decode cX7_fits 2 = .ok (.invokestatic 97, 3) := by decide +kernel
theorem dX7_fits_5 : decode cX7_fits 5 = .ok (.ifCond .ne 28, 3) := by decide +kernel
theorem dX7_fits_8 : decode cX7_fits 8 = .ok (.aload_n 0, 1) := by decide +kernel
theorem dX7_fits_9 : decode cX7_fits 9 = .ok (.getfield 20, 3) := by decide +kernel
theorem dX7_fits_12 : decode cX7_fits 12 = .ok (.iload_n 1, 1) := by decide +kernel
theorem dX7_fits_13 : decode cX7_fits 13 = .ok (.iaload, 1) := by decide +kernel
theorem dX7_fits_14 : decode cX7_fits 14 = .ok (.iload_n 3, 1) := by decide +kernel
theorem dX7_fits_15 : decode cX7_fits 15 = .ok (.if_icmp .gt 18, 3) := by decide +kernel
theorem dX7_fits_18 : decode cX7_fits 18 = .ok (.aload_n 0, 1) := by decide +kernel
theorem dX7_fits_19 : decode cX7_fits 19 = .ok (.getfield 26, 3) := by decide +kernel
theorem dX7_fits_22 : decode cX7_fits 22 = .ok (.iload_n 1, 1) := by decide +kernel
theorem dX7_fits_23 : decode cX7_fits 23 = .ok (.iaload, 1) := by decide +kernel
theorem dX7_fits_24 : decode cX7_fits 24 = .ok (.iload_n 2, 1) := by decide +kernel
theorem dX7_fits_25 : decode cX7_fits 25 = .ok (.iand, 1) := by decide +kernel
theorem dX7_fits_26 : decode cX7_fits 26 = .ok (.ifCond .ne 7, 3) := by decide +kernel
theorem dX7_fits_29 : decode cX7_fits 29 = .ok (.iconst 1, 1) := by decide +kernel
theorem dX7_fits_30 : decode cX7_fits 30 = .ok (.goto 4, 3) := by decide +kernel
theorem dX7_fits_33 : decode cX7_fits 33 = .ok (.iconst 0, 1) := by decide +kernel
theorem dX7_fits_34 : decode cX7_fits 34 = .ok (.ireturn, 1) := by decide +kernel
theorem dX7_cheapest_0 : decode cX7_cheapest 0 = .ok (.aload_n 0, 1) := by decide +kernel
theorem dX7_cheapest_1 : decode cX7_cheapest 1 = .ok (.iconst 0, 1) := by decide +kernel
theorem dX7_cheapest_2 : decode cX7_cheapest 2 = .ok (.putfield 112, 3) := by decide +kernel
theorem dX7_cheapest_5 : decode cX7_cheapest 5 = .ok (.aload_n 0, 1) := by decide +kernel
theorem dX7_cheapest_6 : decode cX7_cheapest 6 = .ok (.aload_n 0, 1) := by decide +kernel
theorem dX7_cheapest_7 : decode cX7_cheapest 7 = .ok (.invokevirtual 93, 3) := by decide +kernel
theorem dX7_cheapest_10 : decode cX7_cheapest 10 = .ok (.putfield 115, 3) := by decide +kernel
theorem dX7_cheapest_13 : decode cX7_cheapest 13 = .ok (.aload_n 0, 1) := by decide +kernel
theorem dX7_cheapest_14 : decode cX7_cheapest 14 = .ok (.iconst 0, 1) := by decide +kernel
theorem dX7_cheapest_15 : decode cX7_cheapest 15 = .ok (.iconst 0, 1) := by decide +kernel
theorem dX7_cheapest_16 : decode cX7_cheapest 16 = .ok (.aload_n 0, 1) := by decide +kernel
theorem dX7_cheapest_17 : decode cX7_cheapest 17 = .ok (.getfield 115, 3) := by decide +kernel
theorem dX7_cheapest_20 : decode cX7_cheapest 20 = .ok (.iload_n 1, 1) := by decide +kernel
theorem dX7_cheapest_21 : decode cX7_cheapest 21 = .ok (.invokevirtual 119, 3) := by decide +kernel
theorem dX7_cheapest_24 : decode cX7_cheapest 24 = .ok (.aload_n 0, 1) := by decide +kernel
theorem dX7_cheapest_25 : decode cX7_cheapest 25 = .ok (.getfield 112, 3) := by decide +kernel
theorem dX7_cheapest_28 : decode cX7_cheapest 28 = .ok (.ireturn, 1) := by decide +kernel
theorem dX7_explore_0 : decode cX7_explore 0 = .ok (.iload_n 1, 1) := by decide +kernel
theorem dX7_explore_1 : decode cX7_explore 1 = .ok (.aload_n 0, 1) := by decide +kernel
theorem dX7_explore_2 : decode cX7_explore 2 = .ok (.getfield 48, 3) := by decide +kernel
theorem dX7_explore_5 : decode cX7_explore 5 = .ok (.if_icmp .lt 10, 3) := by decide +kernel
theorem dX7_explore_8 : decode cX7_explore 8 = .ok (.aload_n 0, 1) := by decide +kernel
theorem dX7_explore_9 : decode cX7_explore 9 = .ok (.iload_n 2, 1) := by decide +kernel
theorem dX7_explore_10 : decode cX7_explore 10 = .ok (.lload_n 3, 1) := by decide +kernel
theorem dX7_explore_11 : decode cX7_explore 11 = .ok (.invokevirtual 123, 3) := by decide +kernel
theorem dX7_explore_14 : decode cX7_explore 14 = .ok (.return_, 1) := by decide +kernel
theorem dX7_explore_15 : decode cX7_explore 15 = .ok (.aload_n 0, 1) := by decide +kernel
theorem dX7_explore_16 : decode cX7_explore 16 = .ok (.iload_n 1, 1) := by decide +kernel
theorem dX7_explore_17 : decode cX7_explore 17 = .ok (.iload_n 2, 1) := by decide +kernel
theorem dX7_explore_18 : decode cX7_explore 18 = .ok (.iload 5, 2) := by decide +kernel
theorem dX7_explore_20 : decode cX7_explore 20 = .ok (.invokevirtual 127, 3) := by decide +kernel
theorem dX7_explore_23 : decode cX7_explore 23 = .ok (.ifCond .eq 17, 3) := by decide +kernel
theorem dX7_explore_26 : decode cX7_explore 26 = .ok (.aload_n 0, 1) := by decide +kernel
theorem dX7_explore_27 : decode cX7_explore 27 = .ok (.iload_n 1, 1) := by decide +kernel
theorem dX7_explore_28 : decode cX7_explore 28 = .ok (.aload_n 0, 1) := by decide +kernel
theorem dX7_explore_29 : decode cX7_explore 29 = .ok (.getfield 29, 3) := by decide +kernel
theorem dX7_explore_32 : decode cX7_explore 32 = .ok (.iload_n 1, 1) := by decide +kernel
theorem dX7_explore_33 : decode cX7_explore 33 = .ok (.aaload, 1) := by decide +kernel
theorem dX7_explore_34 : decode cX7_explore 34 = .ok (.invokevirtual 101, 3) := by decide +kernel
theorem dX7_explore_37 : decode cX7_explore 37 = .ok (.goto 4, 3) := by decide +kernel
theorem dX7_explore_40 : decode cX7_explore 40 = .ok (.lconst 0, 1) := by decide +kernel
theorem dX7_explore_41 : decode cX7_explore 41 = .ok (.lstore 6, 2) := by decide +kernel
theorem dX7_explore_43 : decode cX7_explore 43 = .ok (.lload 6, 2) := by decide +kernel
theorem dX7_explore_45 : decode cX7_explore 45 = .ok (.lconst 0, 1) := by decide +kernel
theorem dX7_explore_46 : decode cX7_explore 46 = .ok (.lcmp, 1) := by decide +kernel
theorem dX7_explore_47 : decode cX7_explore 47 = .ok (.ifCond .le 35, 3) := by decide +kernel
theorem dX7_explore_50 : decode cX7_explore 50 = .ok (.aload_n 0, 1) := by decide +kernel
theorem dX7_explore_51 : decode cX7_explore 51 = .ok (.iload_n 1, 1) := by decide +kernel
theorem dX7_explore_52 : decode cX7_explore 52 = .ok (.iconst 1, 1) := by decide +kernel
theorem dX7_explore_53 : decode cX7_explore 53 = .ok (.invokevirtual 105, 3) := by decide +kernel
theorem dX7_explore_56 : decode cX7_explore 56 = .ok (.aload_n 0, 1) := by decide +kernel
theorem dX7_explore_57 : decode cX7_explore 57 = .ok (.iload_n 1, 1) := by decide +kernel
theorem dX7_explore_58 : decode cX7_explore 58 = .ok (.iconst 1, 1) := by decide +kernel
theorem dX7_explore_59 : decode cX7_explore 59 = .ok (.iadd, 1) := by decide +kernel
theorem dX7_explore_60 : decode cX7_explore 60 = .ok (.iload_n 2, 1) := by decide +kernel
theorem dX7_explore_61 : decode cX7_explore 61 = .ok (.iload_n 1, 1) := by decide +kernel
theorem dX7_explore_62 : decode cX7_explore 62 = .ok (.invokestatic 131, 3) := by decide +kernel
theorem dX7_explore_65 : decode cX7_explore 65 = .ok (.ior, 1) := by decide +kernel
theorem dX7_explore_66 : decode cX7_explore 66 = .ok (.lload_n 3, 1) := by decide +kernel
theorem dX7_explore_67 : decode cX7_explore 67 = .ok (.lload 6, 2) := by decide +kernel
theorem dX7_explore_69 : decode cX7_explore 69 = .ok (.lsub, 1) := by decide +kernel
theorem dX7_explore_70 : decode cX7_explore 70 = .ok (.iload 5, 2) := by decide +kernel
theorem dX7_explore_72 : decode cX7_explore 72 = .ok (.aload_n 0, 1) := by decide +kernel
theorem dX7_explore_73 : decode cX7_explore 73 = .ok (.getfield 20, 3) := by decide +kernel
theorem dX7_explore_76 : decode cX7_explore 76 = .ok (.iload_n 1, 1) := by decide +kernel
theorem dX7_explore_77 : decode cX7_explore 77 = .ok (.iaload, 1) := by decide +kernel
theorem dX7_explore_78 : decode cX7_explore 78 = .ok (.isub, 1) := by decide +kernel
theorem dX7_explore_79 : decode cX7_explore 79 = .ok (.invokevirtual 119, 3) := by decide +kernel
theorem dX7_explore_82 : decode cX7_explore 82 = .ok (.aload_n 0, 1) := by decide +kernel
theorem dX7_explore_83 : decode cX7_explore 83 = .ok (.iload_n 1, 1) := by decide +kernel
theorem dX7_explore_84 : decode cX7_explore 84 = .ok (.iconst 0, 1) := by decide +kernel
theorem dX7_explore_85 : decode cX7_explore 85 = .ok (.invokevirtual 105, 3) := by decide +kernel
theorem dX7_explore_88 : decode cX7_explore 88 = .ok (.aload_n 0, 1) := by decide +kernel
theorem dX7_explore_89 : decode cX7_explore 89 = .ok (.iload_n 1, 1) := by decide +kernel
theorem dX7_explore_90 : decode cX7_explore 90 = .ok (.iconst 1, 1) := by decide +kernel
theorem dX7_explore_91 : decode cX7_explore 91 = .ok (.iadd, 1) := by decide +kernel
theorem dX7_explore_92 : decode cX7_explore 92 = .ok (.iload_n 2, 1) := by decide +kernel
theorem dX7_explore_93 : decode cX7_explore 93 = .ok (.lload_n 3, 1) := by decide +kernel
theorem dX7_explore_94 : decode cX7_explore 94 = .ok (.iload 5, 2) := by decide +kernel
theorem dX7_explore_96 : decode cX7_explore 96 = .ok (.invokevirtual 119, 3) := by decide +kernel
theorem dX7_explore_99 : decode cX7_explore 99 = .ok (.return_, 1) := by decide +kernel
theorem dX7_keepIfBetter_0 : decode cX7_keepIfBetter 0 = .ok (.iload_n 1, 1) := by decide +kernel
theorem dX7_keepIfBetter_1 : decode cX7_keepIfBetter 1 = .ok (.invokestatic 135, 3) := by decide +kernel
theorem dX7_keepIfBetter_4 : decode cX7_keepIfBetter 4 = .ok (.aload_n 0, 1) := by decide +kernel
theorem dX7_keepIfBetter_5 : decode cX7_keepIfBetter 5 = .ok (.getfield 112, 3) := by decide +kernel
theorem dX7_keepIfBetter_8 : decode cX7_keepIfBetter 8 = .ok (.invokestatic 135, 3) := by decide +kernel
theorem dX7_keepIfBetter_11 : decode cX7_keepIfBetter 11 = .ok (.if_icmp .ge 7, 3) := by decide +kernel
theorem dX7_keepIfBetter_14 : decode cX7_keepIfBetter 14 = .ok (.iconst 1, 1) := by decide +kernel
theorem dX7_keepIfBetter_15 : decode cX7_keepIfBetter 15 = .ok (.goto 4, 3) := by decide +kernel
theorem dX7_keepIfBetter_18 : decode cX7_keepIfBetter 18 = .ok (.iconst 0, 1) := by decide +kernel
theorem dX7_keepIfBetter_19 : decode cX7_keepIfBetter 19 = .ok (.istore 4, 2) := by decide +kernel
theorem dX7_keepIfBetter_21 : decode cX7_keepIfBetter 21 = .ok (.lload_n 2, 1) := by decide +kernel
theorem dX7_keepIfBetter_22 : decode cX7_keepIfBetter 22 = .ok (.aload_n 0, 1) := by decide +kernel
theorem dX7_keepIfBetter_23 : decode cX7_keepIfBetter 23 = .ok (.getfield 115, 3) := by decide +kernel
theorem dX7_keepIfBetter_26 : decode cX7_keepIfBetter 26 = .ok (.lcmp, 1) := by decide +kernel
theorem dX7_keepIfBetter_27 : decode cX7_keepIfBetter 27 = .ok (.ifCond .lt 17, 3) := by decide +kernel
theorem dX7_keepIfBetter_30 : decode cX7_keepIfBetter 30 = .ok (.lload_n 2, 1) := by decide +kernel
theorem dX7_keepIfBetter_31 : decode cX7_keepIfBetter 31 = .ok (.aload_n 0, 1) := by decide +kernel
theorem dX7_keepIfBetter_32 : decode cX7_keepIfBetter 32 = .ok (.getfield 115, 3) := by decide +kernel
theorem dX7_keepIfBetter_35 : decode cX7_keepIfBetter 35 = .ok (.lcmp, 1) := by decide +kernel
theorem dX7_keepIfBetter_36 : decode cX7_keepIfBetter 36 = .ok (.ifCond .ne 18, 3) := by decide +kernel
theorem dX7_keepIfBetter_39 : decode cX7_keepIfBetter 39 = .ok (.iload 4, 2) := by decide +kernel
theorem dX7_keepIfBetter_41 : decode cX7_keepIfBetter 41 = .ok (.ifCond .eq 13, 3) := by decide +kernel
theorem dX7_keepIfBetter_44 : decode cX7_keepIfBetter 44 = .ok (.aload_n 0, 1) := by decide +kernel
theorem dX7_keepIfBetter_45 : decode cX7_keepIfBetter 45 = .ok (.iload_n 1, 1) := by decide +kernel
theorem dX7_keepIfBetter_46 : decode cX7_keepIfBetter 46 = .ok (.putfield 112, 3) := by decide +kernel
theorem dX7_keepIfBetter_49 : decode cX7_keepIfBetter 49 = .ok (.aload_n 0, 1) := by decide +kernel
theorem dX7_keepIfBetter_50 : decode cX7_keepIfBetter 50 = .ok (.lload_n 2, 1) := by decide +kernel
theorem dX7_keepIfBetter_51 : decode cX7_keepIfBetter 51 = .ok (.putfield 115, 3) := by decide +kernel
theorem dX7_keepIfBetter_54 : decode cX7_keepIfBetter 54 = .ok (.return_, 1) := by decide +kernel
theorem dX7_gathered_0 : decode cX7_gathered 0 = .ok (.iconst 0, 1) := by decide +kernel
theorem dX7_gathered_1 : decode cX7_gathered 1 = .ok (.istore_n 2, 1) := by decide +kernel
theorem dX7_gathered_2 : decode cX7_gathered 2 = .ok (.iload_n 1, 1) := by decide +kernel
theorem dX7_gathered_3 : decode cX7_gathered 3 = .ok (.istore_n 3, 1) := by decide +kernel
theorem dX7_gathered_4 : decode cX7_gathered 4 = .ok (.iconst 0, 1) := by decide +kernel
theorem dX7_gathered_5 : decode cX7_gathered 5 = .ok (.istore 4, 2) := by decide +kernel
theorem dX7_gathered_7 : decode cX7_gathered 7 = .ok (.iload 4, 2) := by decide +kernel
theorem dX7_gathered_9 : decode cX7_gathered 9 = .ok (.aload_n 0, 1) := by decide +kernel
theorem dX7_gathered_10 : decode cX7_gathered 10 = .ok (.getfield 48, 3) := by decide +kernel
theorem dX7_gathered_13 : decode cX7_gathered 13 = .ok (.if_icmp .ge 50, 3) := by decide +kernel
theorem dX7_gathered_16 : decode cX7_gathered 16 = .ok (.aload_n 0, 1) := by decide +kernel
theorem dX7_gathered_17 : decode cX7_gathered 17 = .ok (.iload_n 2, 1) := by decide +kernel
theorem dX7_gathered_18 : decode cX7_gathered 18 = .ok (.iload_n 3, 1) := by decide +kernel
theorem dX7_gathered_19 : decode cX7_gathered 19 = .ok (.invokevirtual 140, 3) := by decide +kernel
theorem dX7_gathered_22 : decode cX7_gathered 22 = .ok (.istore 5, 2) := by decide +kernel
theorem dX7_gathered_24 : decode cX7_gathered 24 = .ok (.iload 5, 2) := by decide +kernel
theorem dX7_gathered_26 : decode cX7_gathered 26 = .ok (.iconst (-1), 1) := by decide +kernel
theorem dX7_gathered_27 : decode cX7_gathered 27 = .ok (.if_icmp .ne 6, 3) := by decide +kernel
theorem dX7_gathered_30 : decode cX7_gathered 30 = .ok (.goto 33, 3) := by decide +kernel
theorem dX7_gathered_33 : decode cX7_gathered 33 = .ok (.iload_n 2, 1) := by decide +kernel
theorem dX7_gathered_34 : decode cX7_gathered 34 = .ok (.iload 5, 2) := by decide +kernel
theorem dX7_gathered_36 : decode cX7_gathered 36 = .ok (.invokestatic 131, 3) := by decide +kernel
theorem dX7_gathered_39 : decode cX7_gathered 39 = .ok (.ior, 1) := by decide +kernel
theorem dX7_gathered_40 : decode cX7_gathered 40 = .ok (.istore_n 2, 1) := by decide +kernel
theorem dX7_gathered_41 : decode cX7_gathered 41 = .ok (.iload_n 3, 1) := by decide +kernel
theorem dX7_gathered_42 : decode cX7_gathered 42 = .ok (.aload_n 0, 1) := by decide +kernel
theorem dX7_gathered_43 : decode cX7_gathered 43 = .ok (.getfield 20, 3) := by decide +kernel
theorem dX7_gathered_46 : decode cX7_gathered 46 = .ok (.iload 5, 2) := by decide +kernel
theorem dX7_gathered_48 : decode cX7_gathered 48 = .ok (.iaload, 1) := by decide +kernel
theorem dX7_gathered_49 : decode cX7_gathered 49 = .ok (.isub, 1) := by decide +kernel
theorem dX7_gathered_50 : decode cX7_gathered 50 = .ok (.istore_n 3, 1) := by decide +kernel
theorem dX7_gathered_51 : decode cX7_gathered 51 = .ok (.aload_n 0, 1) := by decide +kernel
theorem dX7_gathered_52 : decode cX7_gathered 52 = .ok (.iload 5, 2) := by decide +kernel
theorem dX7_gathered_54 : decode cX7_gathered 54 = .ok (.invokevirtual 143, 3) := by decide +kernel
theorem dX7_gathered_57 : decode cX7_gathered 57 = .ok (.iinc 4 1, 3) := by decide +kernel
theorem dX7_gathered_60 : decode cX7_gathered 60 = .ok (.goto (-53), 3) := by decide +kernel
theorem dX7_gathered_63 : decode cX7_gathered 63 = .ok (.iload_n 2, 1) := by decide +kernel
theorem dX7_gathered_64 : decode cX7_gathered 64 = .ok (.ireturn, 1) := by decide +kernel
theorem dX7_mostSaving_0 : decode cX7_mostSaving 0 = .ok (.iconst (-1), 1) := by decide +kernel
theorem dX7_mostSaving_1 : decode cX7_mostSaving 1 = .ok (.istore_n 3, 1) := by decide +kernel
theorem dX7_mostSaving_2 : decode cX7_mostSaving 2 = .ok (.lconst 0, 1) := by decide +kernel
theorem dX7_mostSaving_3 : decode cX7_mostSaving 3 = .ok (.lstore 4, 2) := by decide +kernel
theorem dX7_mostSaving_5 : decode cX7_mostSaving 5 = .ok (.iconst 0, 1) := by decide +kernel
theorem dX7_mostSaving_6 : decode cX7_mostSaving 6 = .ok (.istore 6, 2) := by decide +kernel
theorem dX7_mostSaving_8 : decode cX7_mostSaving 8 = .ok (.iload 6, 2) := by decide +kernel
theorem dX7_mostSaving_10 : decode cX7_mostSaving 10 = .ok (.aload_n 0, 1) := by decide +kernel
theorem dX7_mostSaving_11 : decode cX7_mostSaving 11 = .ok (.getfield 48, 3) := by decide +kernel
theorem dX7_mostSaving_14 : decode cX7_mostSaving 14 = .ok (.if_icmp .ge 94, 3) := by decide +kernel
theorem dX7_mostSaving_17 : decode cX7_mostSaving 17 = .ok (.aload_n 0, 1) := by decide +kernel
theorem dX7_mostSaving_18 : decode cX7_mostSaving 18 = .ok (.iload 6, 2) := by decide +kernel
theorem dX7_mostSaving_20 : decode cX7_mostSaving 20 = .ok (.iload_n 1, 1) := by decide +kernel
theorem dX7_mostSaving_21 : decode cX7_mostSaving 21 = .ok (.iload_n 2, 1) := by decide +kernel
theorem dX7_mostSaving_22 : decode cX7_mostSaving 22 = .ok (.invokevirtual 127, 3) := by decide +kernel
theorem dX7_mostSaving_25 : decode cX7_mostSaving 25 = .ok (.ifCond .eq 18, 3) := by decide +kernel
theorem dX7_mostSaving_28 : decode cX7_mostSaving 28 = .ok (.aload_n 0, 1) := by decide +kernel
theorem dX7_mostSaving_29 : decode cX7_mostSaving 29 = .ok (.iload 6, 2) := by decide +kernel
theorem dX7_mostSaving_31 : decode cX7_mostSaving 31 = .ok (.aload_n 0, 1) := by decide +kernel
theorem dX7_mostSaving_32 : decode cX7_mostSaving 32 = .ok (.getfield 29, 3) := by decide +kernel
theorem dX7_mostSaving_35 : decode cX7_mostSaving 35 = .ok (.iconst 0, 1) := by decide +kernel
theorem dX7_mostSaving_36 : decode cX7_mostSaving 36 = .ok (.aaload, 1) := by decide +kernel
theorem dX7_mostSaving_37 : decode cX7_mostSaving 37 = .ok (.invokevirtual 101, 3) := by decide +kernel
theorem dX7_mostSaving_40 : decode cX7_mostSaving 40 = .ok (.goto 4, 3) := by decide +kernel
theorem dX7_mostSaving_43 : decode cX7_mostSaving 43 = .ok (.lconst 0, 1) := by decide +kernel
theorem dX7_mostSaving_44 : decode cX7_mostSaving 44 = .ok (.lstore 7, 2) := by decide +kernel
theorem dX7_mostSaving_46 : decode cX7_mostSaving 46 = .ok (.iload_n 3, 1) := by decide +kernel
theorem dX7_mostSaving_47 : decode cX7_mostSaving 47 = .ok (.iconst (-1), 1) := by decide +kernel
theorem dX7_mostSaving_48 : decode cX7_mostSaving 48 = .ok (.if_icmp .eq 31, 3) := by decide +kernel
theorem dX7_mostSaving_51 : decode cX7_mostSaving 51 = .ok (.lload 7, 2) := by decide +kernel
theorem dX7_mostSaving_53 : decode cX7_mostSaving 53 = .ok (.lload 4, 2) := by decide +kernel
theorem dX7_mostSaving_55 : decode cX7_mostSaving 55 = .ok (.lcmp, 1) := by decide +kernel
theorem dX7_mostSaving_56 : decode cX7_mostSaving 56 = .ok (.ifCond .ne 23, 3) := by decide +kernel
theorem dX7_mostSaving_59 : decode cX7_mostSaving 59 = .ok (.aload_n 0, 1) := by decide +kernel
theorem dX7_mostSaving_60 : decode cX7_mostSaving 60 = .ok (.getfield 20, 3) := by decide +kernel
theorem dX7_mostSaving_63 : decode cX7_mostSaving 63 = .ok (.iload 6, 2) := by decide +kernel
theorem dX7_mostSaving_65 : decode cX7_mostSaving 65 = .ok (.iaload, 1) := by decide +kernel
theorem dX7_mostSaving_66 : decode cX7_mostSaving 66 = .ok (.aload_n 0, 1) := by decide +kernel
theorem dX7_mostSaving_67 : decode cX7_mostSaving 67 = .ok (.getfield 20, 3) := by decide +kernel
theorem dX7_mostSaving_70 : decode cX7_mostSaving 70 = .ok (.iload_n 3, 1) := by decide +kernel
theorem dX7_mostSaving_71 : decode cX7_mostSaving 71 = .ok (.iaload, 1) := by decide +kernel
theorem dX7_mostSaving_72 : decode cX7_mostSaving 72 = .ok (.if_icmp .ge 7, 3) := by decide +kernel
theorem dX7_mostSaving_75 : decode cX7_mostSaving 75 = .ok (.iconst 1, 1) := by decide +kernel
theorem dX7_mostSaving_76 : decode cX7_mostSaving 76 = .ok (.goto 4, 3) := by decide +kernel
theorem dX7_mostSaving_79 : decode cX7_mostSaving 79 = .ok (.iconst 0, 1) := by decide +kernel
theorem dX7_mostSaving_80 : decode cX7_mostSaving 80 = .ok (.istore 9, 2) := by decide +kernel
theorem dX7_mostSaving_82 : decode cX7_mostSaving 82 = .ok (.lload 7, 2) := by decide +kernel
theorem dX7_mostSaving_84 : decode cX7_mostSaving 84 = .ok (.lload 4, 2) := by decide +kernel
theorem dX7_mostSaving_86 : decode cX7_mostSaving 86 = .ok (.lcmp, 1) := by decide +kernel
theorem dX7_mostSaving_87 : decode cX7_mostSaving 87 = .ok (.ifCond .gt 8, 3) := by decide +kernel
theorem dX7_mostSaving_90 : decode cX7_mostSaving 90 = .ok (.iload 9, 2) := by decide +kernel
theorem dX7_mostSaving_92 : decode cX7_mostSaving 92 = .ok (.ifCond .eq 10, 3) := by decide +kernel
theorem dX7_mostSaving_95 : decode cX7_mostSaving 95 = .ok (.iload 6, 2) := by decide +kernel
theorem dX7_mostSaving_97 : decode cX7_mostSaving 97 = .ok (.istore_n 3, 1) := by decide +kernel
theorem dX7_mostSaving_98 : decode cX7_mostSaving 98 = .ok (.lload 7, 2) := by decide +kernel
theorem dX7_mostSaving_100 : decode cX7_mostSaving 100 = .ok (.lstore 4, 2) := by decide +kernel
theorem dX7_mostSaving_102 : decode cX7_mostSaving 102 = .ok (.iinc 6 1, 3) := by decide +kernel
theorem dX7_mostSaving_105 : decode cX7_mostSaving 105 = .ok (.goto (-97), 3) := by decide +kernel
theorem dX7_mostSaving_108 : decode cX7_mostSaving 108 = .ok (.iload_n 3, 1) := by decide +kernel
theorem dX7_mostSaving_109 : decode cX7_mostSaving 109 = .ok (.ireturn, 1) := by decide +kernel
theorem dX7_lower_0 : decode cX7_lower 0 = .ok (.iconst 0, 1) := by decide +kernel
theorem dX7_lower_1 : decode cX7_lower 1 = .ok (.istore_n 2, 1) := by decide +kernel
theorem dX7_lower_2 : decode cX7_lower 2 = .ok (.iload_n 2, 1) := by decide +kernel
theorem dX7_lower_3 : decode cX7_lower 3 = .ok (.aload_n 0, 1) := by decide +kernel
theorem dX7_lower_4 : decode cX7_lower 4 = .ok (.getfield 44, 3) := by decide +kernel
theorem dX7_lower_7 : decode cX7_lower 7 = .ok (.if_icmp .ge 36, 3) := by decide +kernel
theorem dX7_lower_10 : decode cX7_lower 10 = .ok (.aload_n 0, 1) := by decide +kernel
theorem dX7_lower_11 : decode cX7_lower 11 = .ok (.getfield 29, 3) := by decide +kernel
theorem dX7_lower_14 : decode cX7_lower 14 = .ok (.iconst 0, 1) := by decide +kernel
theorem dX7_lower_15 : decode cX7_lower 15 = .ok (.aaload, 1) := by decide +kernel
theorem dX7_lower_16 : decode cX7_lower 16 = .ok (.iload_n 2, 1) := by decide +kernel
theorem dX7_lower_17 : decode cX7_lower 17 = .ok (.aload_n 0, 1) := by decide +kernel
theorem dX7_lower_18 : decode cX7_lower 18 = .ok (.getfield 29, 3) := by decide +kernel
theorem dX7_lower_21 : decode cX7_lower 21 = .ok (.iconst 0, 1) := by decide +kernel
theorem dX7_lower_22 : decode cX7_lower 22 = .ok (.aaload, 1) := by decide +kernel
theorem dX7_lower_23 : decode cX7_lower 23 = .ok (.iload_n 2, 1) := by decide +kernel
theorem dX7_lower_24 : decode cX7_lower 24 = .ok (.iaload, 1) := by decide +kernel
theorem dX7_lower_25 : decode cX7_lower 25 = .ok (.aload_n 0, 1) := by decide +kernel
theorem dX7_lower_26 : decode cX7_lower 26 = .ok (.getfield 17, 3) := by decide +kernel
theorem dX7_lower_29 : decode cX7_lower 29 = .ok (.iload_n 1, 1) := by decide +kernel
theorem dX7_lower_30 : decode cX7_lower 30 = .ok (.aaload, 1) := by decide +kernel
theorem dX7_lower_31 : decode cX7_lower 31 = .ok (.iload_n 2, 1) := by decide +kernel
theorem dX7_lower_32 : decode cX7_lower 32 = .ok (.iaload, 1) := by decide +kernel
theorem dX7_lower_33 : decode cX7_lower 33 = .ok (.invokestatic 38, 3) := by decide +kernel
theorem dX7_lower_36 : decode cX7_lower 36 = .ok (.iastore, 1) := by decide +kernel
theorem dX7_lower_37 : decode cX7_lower 37 = .ok (.iinc 2 1, 3) := by decide +kernel
theorem dX7_lower_40 : decode cX7_lower 40 = .ok (.goto (-38), 3) := by decide +kernel
theorem dX7_lower_43 : decode cX7_lower 43 = .ok (.return_, 1) := by decide +kernel
theorem dX8_init_0 : decode cX8_init 0 = .ok (.aload_n 0, 1) := by decide +kernel
theorem dX8_init_1 : decode cX8_init 1 = .ok (.iconst 3, 1) := by decide +kernel
theorem dX8_init_2 : decode cX8_init 2 = .ok (.aload_n 1, 1) := by decide +kernel
theorem dX8_init_3 : decode cX8_init 3 = .ok (.invokespecial 3, 3) := by decide +kernel
theorem dX8_init_6 : decode cX8_init 6 = .ok (.aload_n 0, 1) := by decide +kernel
theorem dX8_init_7 : decode cX8_init 7 = .ok (.iload_n 2, 1) := by decide +kernel
theorem dX8_init_8 : decode cX8_init 8 = .ok (.putfield 9, 3) := by decide +kernel
theorem dX8_init_11 : decode cX8_init 11 = .ok (.aload_n 0, 1) := by decide +kernel
theorem dX8_init_12 : decode cX8_init 12 = .ok (.iload_n 3, 1) := by decide +kernel
theorem dX8_init_13 : decode cX8_init 13 = .ok (.putfield 15, 3) := by decide +kernel
theorem dX8_init_16 : decode cX8_init 16 = .ok (.return_, 1) := by decide +kernel
theorem dX8_helps_0 : decode cX8_helps 0 = .ok (.aload_n 1, 1) := by decide +kernel
theorem dX8_helps_1 : decode cX8_helps 1 = .ok (.getfield 18, 3) := by decide +kernel
theorem dX8_helps_4 : decode cX8_helps 4 = .ok (.ifCond .ne 32, 3) := by decide +kernel
theorem dX8_helps_7 : decode cX8_helps 7 = .ok (.aload_n 1, 1) := by decide +kernel
theorem dX8_helps_8 : decode cX8_helps 8 = .ok (.getfield 23, 3) := by decide +kernel
theorem dX8_helps_11 : decode cX8_helps 11 = .ok (.aload_n 0, 1) := by decide +kernel
theorem dX8_helps_12 : decode cX8_helps 12 = .ok (.getfield 15, 3) := by decide +kernel
theorem dX8_helps_15 : decode cX8_helps 15 = .ok (.if_icmp .ne 21, 3) := by decide +kernel
theorem dX8_helps_18 : decode cX8_helps 18 = .ok (.aload_n 1, 1) := by decide +kernel
theorem dX8_helps_19 : decode cX8_helps 19 = .ok (.getfield 26, 3) := by decide +kernel
theorem dX8_helps_22 : decode cX8_helps 22 = .ok (.aload_n 0, 1) := by decide +kernel
theorem dX8_helps_23 : decode cX8_helps 23 = .ok (.getfield 9, 3) := by decide +kernel
theorem dX8_helps_26 : decode cX8_helps 26 = .ok (.iconst (-1), 1) := by decide +kernel
theorem dX8_helps_27 : decode cX8_helps 27 = .ok (.ixor, 1) := by decide +kernel
theorem dX8_helps_28 : decode cX8_helps 28 = .ok (.iand, 1) := by decide +kernel
theorem dX8_helps_29 : decode cX8_helps 29 = .ok (.ifCond .ne 7, 3) := by decide +kernel
theorem dX8_helps_32 : decode cX8_helps 32 = .ok (.iconst 1, 1) := by decide +kernel
theorem dX8_helps_33 : decode cX8_helps 33 = .ok (.goto 4, 3) := by decide +kernel
theorem dX8_helps_36 : decode cX8_helps 36 = .ok (.iconst 0, 1) := by decide +kernel
theorem dX8_helps_37 : decode cX8_helps 37 = .ok (.ireturn, 1) := by decide +kernel
theorem dX8_foretold_0 : decode cX8_foretold 0 = .ok (.iconst 1, 1) := by decide +kernel
theorem dX8_foretold_1 : decode cX8_foretold 1 = .ok (.aload_n 0, 1) := by decide +kernel
theorem dX8_foretold_2 : decode cX8_foretold 2 = .ok (.invokevirtual 29, 3) := by decide +kernel
theorem dX8_foretold_5 : decode cX8_foretold 5 = .ok (.iadd, 1) := by decide +kernel
theorem dX8_foretold_6 : decode cX8_foretold 6 = .ok (.ireturn, 1) := by decide +kernel
theorem dX8_fetched_0 : decode cX8_fetched 0 = .ok (.iconst 1, 1) := by decide +kernel
theorem dX8_fetched_1 : decode cX8_fetched 1 = .ok (.aload_n 0, 1) := by decide +kernel
theorem dX8_fetched_2 : decode cX8_fetched 2 = .ok (.getfield 33, 3) := by decide +kernel
theorem dX8_fetched_5 : decode cX8_fetched 5 = .ok (.aload_n 0, 1) := by decide +kernel
theorem dX8_fetched_6 : decode cX8_fetched 6 = .ok (.getfield 9, 3) := by decide +kernel
theorem dX8_fetched_9 : decode cX8_fetched 9 = .ok (.invokevirtual 37, 3) := by decide +kernel
theorem dX8_fetched_12 : decode cX8_fetched 12 = .ok (.iconst 2, 1) := by decide +kernel
theorem dX8_fetched_13 : decode cX8_fetched 13 = .ok (.aload_n 0, 1) := by decide +kernel
theorem dX8_fetched_14 : decode cX8_fetched 14 = .ok (.getfield 33, 3) := by decide +kernel
theorem dX8_fetched_17 : decode cX8_fetched 17 = .ok (.getfield 43, 3) := by decide +kernel
theorem dX8_fetched_20 : decode cX8_fetched 20 = .ok (.imul, 1) := by decide +kernel
theorem dX8_fetched_21 : decode cX8_fetched 21 = .ok (.invokestatic 46, 3) := by decide +kernel
theorem dX8_fetched_24 : decode cX8_fetched 24 = .ok (.iadd, 1) := by decide +kernel
theorem dX8_fetched_25 : decode cX8_fetched 25 = .ok (.ireturn, 1) := by decide +kernel
theorem dX8_space_0 : decode cX8_space 0 = .ok (.aload_n 0, 1) := by decide +kernel
theorem dX8_space_1 : decode cX8_space 1 = .ok (.getfield 33, 3) := by decide +kernel
theorem dX8_space_4 : decode cX8_space 4 = .ok (.aload_n 0, 1) := by decide +kernel
theorem dX8_space_5 : decode cX8_space 5 = .ok (.getfield 9, 3) := by decide +kernel
theorem dX8_space_8 : decode cX8_space 8 = .ok (.invokevirtual 50, 3) := by decide +kernel
theorem dX8_space_11 : decode cX8_space 11 = .ok (.iconst 2, 1) := by decide +kernel
theorem dX8_space_12 : decode cX8_space 12 = .ok (.aload_n 0, 1) := by decide +kernel
theorem dX8_space_13 : decode cX8_space 13 = .ok (.getfield 33, 3) := by decide +kernel
theorem dX8_space_16 : decode cX8_space 16 = .ok (.getfield 43, 3) := by decide +kernel
theorem dX8_space_19 : decode cX8_space 19 = .ok (.imul, 1) := by decide +kernel
theorem dX8_space_20 : decode cX8_space 20 = .ok (.invokestatic 46, 3) := by decide +kernel
theorem dX8_space_23 : decode cX8_space 23 = .ok (.ireturn, 1) := by decide +kernel
theorem dX8_keeping_0 : decode cX8_keeping 0 = .ok (.iconst 2, 1) := by decide +kernel
theorem dX8_keeping_1 : decode cX8_keeping 1 = .ok (.ireturn, 1) := by decide +kernel
theorem dX9_init_0 : decode cX9_init 0 = .ok (.aload_n 0, 1) := by decide +kernel
theorem dX9_init_1 : decode cX9_init 1 = .ok (.invokespecial 3, 3) := by decide +kernel
theorem dX9_init_4 : decode cX9_init 4 = .ok (.aload_n 0, 1) := by decide +kernel
theorem dX9_init_5 : decode cX9_init 5 = .ok (.sipush 240, 3) := by decide +kernel
theorem dX9_init_8 : decode cX9_init 8 = .ok (.newarray .int, 2) := by decide +kernel
theorem dX9_init_10 : decode cX9_init 10 = .ok (.putfield 9, 3) := by decide +kernel
theorem dX9_init_13 : decode cX9_init 13 = .ok (.aload_n 0, 1) := by decide +kernel
theorem dX9_init_14 : decode cX9_init 14 = .ok (.iconst 4, 1) := by decide +kernel
theorem dX9_init_15 : decode cX9_init 15 = .ok (.newarray .int, 2) := by decide +kernel
theorem dX9_init_17 : decode cX9_init 17 = .ok (.putfield 15, 3) := by decide +kernel
theorem dX9_init_20 : decode cX9_init 20 = .ok (.aload_n 0, 1) := by decide +kernel
theorem dX9_init_21 : decode cX9_init 21 = .ok (.iconst 4, 1) := by decide +kernel
theorem dX9_init_22 : decode cX9_init 22 = .ok (.newarray .int, 2) := by decide +kernel
theorem dX9_init_24 : decode cX9_init 24 = .ok (.putfield 18, 3) := by decide +kernel
theorem dX9_init_27 : decode cX9_init 27 = .ok (.aload_n 0, 1) := by decide +kernel
theorem dX9_init_28 : decode cX9_init 28 = .ok (.iconst 4, 1) := by decide +kernel
theorem dX9_init_29 : decode cX9_init 29 = .ok (.newarray .int, 2) := by decide +kernel
theorem dX9_init_31 : decode cX9_init 31 = .ok (.putfield 21, 3) := by decide +kernel
theorem dX9_init_34 : decode cX9_init 34 = .ok (.aload_n 0, 1) := by decide +kernel
theorem dX9_init_35 : decode cX9_init 35 = .ok (.iload_n 1, 1) := by decide +kernel
theorem dX9_init_36 : decode cX9_init 36 = .ok (.putfield 24, 3) := by decide +kernel
theorem dX9_init_39 : decode cX9_init 39 = .ok (.aload_n 0, 1) := by decide +kernel
theorem dX9_init_40 : decode cX9_init 40 = .ok (.iload_n 2, 1) := by decide +kernel
theorem dX9_init_41 : decode cX9_init 41 = .ok (.putfield 28, 3) := by decide +kernel
theorem dX9_init_44 : decode cX9_init 44 = .ok (.aload_n 0, 1) := by decide +kernel
theorem dX9_init_45 : decode cX9_init 45 = .ok (.iload_n 3, 1) := by decide +kernel
theorem dX9_init_46 : decode cX9_init 46 = .ok (.putfield 31, 3) := by decide +kernel
theorem dX9_init_49 : decode cX9_init 49 = .ok (.return_, 1) := by decide +kernel
theorem dX9_has_0 : decode cX9_has 0 = .ok (.iload_n 1, 1) := by decide +kernel
theorem dX9_has_1 : decode cX9_has 1 = .ok (.ifCond .lt 15, 3) := by decide +kernel
theorem dX9_has_4 : decode cX9_has 4 = .ok (.iload_n 1, 1) := by decide +kernel
theorem dX9_has_5 : decode cX9_has 5 = .ok (.aload_n 0, 1) := by decide +kernel
theorem dX9_has_6 : decode cX9_has 6 = .ok (.getfield 28, 3) := by decide +kernel
theorem dX9_has_9 : decode cX9_has 9 = .ok (.if_icmp .ge 7, 3) := by decide +kernel
theorem dX9_has_12 : decode cX9_has 12 = .ok (.iconst 1, 1) := by decide +kernel
theorem dX9_has_13 : decode cX9_has 13 = .ok (.goto 4, 3) := by decide +kernel
theorem dX9_has_16 : decode cX9_has 16 = .ok (.iconst 0, 1) := by decide +kernel
theorem dX9_has_17 : decode cX9_has 17 = .ok (.ireturn, 1) := by decide +kernel
theorem dX9_hasOrNone_0 : decode cX9_hasOrNone 0 = .ok (.iload_n 1, 1) := by decide +kernel
theorem dX9_hasOrNone_1 : decode cX9_hasOrNone 1 = .ok (.iconst (-1), 1) := by decide +kernel
theorem dX9_hasOrNone_2 : decode cX9_hasOrNone 2 = .ok (.if_icmp .eq 11, 3) := by decide +kernel
theorem dX9_hasOrNone_5 : decode cX9_hasOrNone 5 = .ok (.aload_n 0, 1) := by decide +kernel
theorem dX9_hasOrNone_6 : decode cX9_hasOrNone 6 = .ok (.iload_n 1, 1) := by decide +kernel
theorem dX9_hasOrNone_7 : decode cX9_hasOrNone 7 = .ok (.invokevirtual 34, 3) := by decide +kernel
theorem dX9_hasOrNone_10 : decode cX9_hasOrNone 10 = .ok (.ifCond .eq 7, 3) := by decide +kernel
theorem dX9_hasOrNone_13 : decode cX9_hasOrNone 13 = .ok (.iconst 1, 1) := by decide +kernel
theorem dX9_hasOrNone_14 : decode cX9_hasOrNone 14 = .ok (.goto 4, 3) := by decide +kernel
theorem dX9_hasOrNone_17 : decode cX9_hasOrNone 17 = .ok (.iconst 0, 1) := by decide +kernel
theorem dX9_hasOrNone_18 : decode cX9_hasOrNone 18 = .ok (.ireturn, 1) := by decide +kernel
theorem dX9_hasAll_0 : decode cX9_hasAll 0 = .ok (.iload_n 1, 1) := by decide +kernel
theorem dX9_hasAll_1 : decode cX9_hasAll 1 = .ok (.aload_n 0, 1) := by decide +kernel
theorem dX9_hasAll_2 : decode cX9_hasAll 2 = .ok (.getfield 28, 3) := by decide +kernel
theorem dX9_hasAll_5 : decode cX9_hasAll 5 = .ok (.iushr, 1) := by decide +kernel
theorem dX9_hasAll_6 : decode cX9_hasAll 6 = .ok (.ifCond .ne 7, 3) := by decide +kernel
theorem dX9_hasAll_9 : decode cX9_hasAll 9 = .ok (.iconst 1, 1) := by decide +kernel
theorem dX9_hasAll_10 : decode cX9_hasAll 10 = .ok (.goto 4, 3) := by decide +kernel
theorem dX9_hasAll_13 : decode cX9_hasAll 13 = .ok (.iconst 0, 1) := by decide +kernel
theorem dX9_hasAll_14 : decode cX9_hasAll 14 = .ok (.ireturn, 1) := by decide +kernel
theorem dX9_allows_0 : decode cX9_allows 0 = .ok (.aload_n 0, 1) := by decide +kernel
theorem dX9_allows_1 : decode cX9_allows 1 = .ok (.iconst 0, 1) := by decide +kernel
theorem dX9_allows_2 : decode cX9_allows 2 = .ok (.iload_n 1, 1) := by decide +kernel
theorem dX9_allows_3 : decode cX9_allows 3 = .ok (.invokevirtual 38, 3) := by decide +kernel
theorem dX9_allows_6 : decode cX9_allows 6 = .ok (.ifCond .eq 35, 3) := by decide +kernel
theorem dX9_allows_9 : decode cX9_allows 9 = .ok (.aload_n 0, 1) := by decide +kernel
theorem dX9_allows_10 : decode cX9_allows 10 = .ok (.iconst 1, 1) := by decide +kernel
theorem dX9_allows_11 : decode cX9_allows 11 = .ok (.iload_n 2, 1) := by decide +kernel
theorem dX9_allows_12 : decode cX9_allows 12 = .ok (.invokevirtual 38, 3) := by decide +kernel
theorem dX9_allows_15 : decode cX9_allows 15 = .ok (.ifCond .eq 26, 3) := by decide +kernel
theorem dX9_allows_18 : decode cX9_allows 18 = .ok (.aload_n 0, 1) := by decide +kernel
theorem dX9_allows_19 : decode cX9_allows 19 = .ok (.iconst 2, 1) := by decide +kernel
theorem dX9_allows_20 : decode cX9_allows 20 = .ok (.iload_n 3, 1) := by decide +kernel
theorem dX9_allows_21 : decode cX9_allows 21 = .ok (.invokevirtual 38, 3) := by decide +kernel
theorem dX9_allows_24 : decode cX9_allows 24 = .ok (.ifCond .eq 17, 3) := by decide +kernel
theorem dX9_allows_27 : decode cX9_allows 27 = .ok (.aload_n 0, 1) := by decide +kernel
theorem dX9_allows_28 : decode cX9_allows 28 = .ok (.iconst 3, 1) := by decide +kernel
theorem dX9_allows_29 : decode cX9_allows 29 = .ok (.iload 4, 2) := by decide +kernel
theorem dX9_allows_31 : decode cX9_allows 31 = .ok (.invokevirtual 38, 3) := by decide +kernel
theorem dX9_allows_34 : decode cX9_allows 34 = .ok (.ifCond .eq 7, 3) := by decide +kernel
theorem dX9_allows_37 : decode cX9_allows 37 = .ok (.iconst 1, 1) := by decide +kernel
theorem dX9_allows_38 : decode cX9_allows 38 = .ok (.goto 4, 3) := by decide +kernel
theorem dX9_allows_41 : decode cX9_allows 41 = .ok (.iconst 0, 1) := by decide +kernel
theorem dX9_allows_42 : decode cX9_allows 42 = .ok (.ireturn, 1) := by decide +kernel
theorem dX9_allowsAt_0 : decode cX9_allowsAt 0 = .ok (.aload_n 0, 1) := by decide +kernel
theorem dX9_allowsAt_1 : decode cX9_allowsAt 1 = .ok (.iload_n 1, 1) := by decide +kernel
theorem dX9_allowsAt_2 : decode cX9_allowsAt 2 = .ok (.invokevirtual 34, 3) := by decide +kernel
theorem dX9_allowsAt_5 : decode cX9_allowsAt 5 = .ok (.ifCond .eq 14, 3) := by decide +kernel
theorem dX9_allowsAt_8 : decode cX9_allowsAt 8 = .ok (.iload_n 2, 1) := by decide +kernel
theorem dX9_allowsAt_9 : decode cX9_allowsAt 9 = .ok (.iconst 0, 1) := by decide +kernel
theorem dX9_allowsAt_10 : decode cX9_allowsAt 10 = .ok (.sipush 999, 3) := by decide +kernel
theorem dX9_allowsAt_13 : decode cX9_allowsAt 13 = .ok (.invokestatic 42, 3) := by decide +kernel
theorem dX9_allowsAt_16 : decode cX9_allowsAt 16 = .ok (.ifCond .eq 7, 3) := by decide +kernel
theorem dX9_allowsAt_19 : decode cX9_allowsAt 19 = .ok (.iconst 1, 1) := by decide +kernel
theorem dX9_allowsAt_20 : decode cX9_allowsAt 20 = .ok (.goto 4, 3) := by decide +kernel
theorem dX9_allowsAt_23 : decode cX9_allowsAt 23 = .ok (.iconst 0, 1) := by decide +kernel
theorem dX9_allowsAt_24 : decode cX9_allowsAt 24 = .ok (.ireturn, 1) := by decide +kernel
theorem dX9_append_0 : decode cX9_append 0 = .ok (.aload_n 0, 1) := by decide +kernel
theorem dX9_append_1 : decode cX9_append 1 = .ok (.getfield 46, 3) := by decide +kernel
theorem dX9_append_4 : decode cX9_append 4 = .ok (.istore 5, 2) := by decide +kernel
theorem dX9_append_6 : decode cX9_append 6 = .ok (.aload_n 0, 1) := by decide +kernel
theorem dX9_append_7 : decode cX9_append 7 = .ok (.dup, 1) := by decide +kernel
theorem dX9_append_8 : decode cX9_append 8 = .ok (.getfield 46, 3) := by decide +kernel
theorem dX9_append_11 : decode cX9_append 11 = .ok (.iconst 1, 1) := by decide +kernel
theorem dX9_append_12 : decode cX9_append 12 = .ok (.iadd, 1) := by decide +kernel
theorem dX9_append_13 : decode cX9_append 13 = .ok (.putfield 46, 3) := by decide +kernel
theorem dX9_append_16 : decode cX9_append 16 = .ok (.aload_n 0, 1) := by decide +kernel
theorem dX9_append_17 : decode cX9_append 17 = .ok (.iload 5, 2) := by decide +kernel
theorem dX9_append_19 : decode cX9_append 19 = .ok (.iconst 0, 1) := by decide +kernel
theorem dX9_append_20 : decode cX9_append 20 = .ok (.iload_n 1, 1) := by decide +kernel
theorem dX9_append_21 : decode cX9_append 21 = .ok (.invokevirtual 49, 3) := by decide +kernel
theorem dX9_append_24 : decode cX9_append 24 = .ok (.aload_n 0, 1) := by decide +kernel
theorem dX9_append_25 : decode cX9_append 25 = .ok (.iload 5, 2) := by decide +kernel
theorem dX9_append_27 : decode cX9_append 27 = .ok (.iconst 1, 1) := by decide +kernel
theorem dX9_append_28 : decode cX9_append 28 = .ok (.iload_n 2, 1) := by decide +kernel
theorem dX9_append_29 : decode cX9_append 29 = .ok (.invokevirtual 49, 3) := by decide +kernel
theorem dX9_append_32 : decode cX9_append 32 = .ok (.aload_n 0, 1) := by decide +kernel
theorem dX9_append_33 : decode cX9_append 33 = .ok (.iload 5, 2) := by decide +kernel
theorem dX9_append_35 : decode cX9_append 35 = .ok (.iconst 2, 1) := by decide +kernel
theorem dX9_append_36 : decode cX9_append 36 = .ok (.iload_n 3, 1) := by decide +kernel
theorem dX9_append_37 : decode cX9_append 37 = .ok (.invokevirtual 49, 3) := by decide +kernel
theorem dX9_append_40 : decode cX9_append 40 = .ok (.aload_n 0, 1) := by decide +kernel
theorem dX9_append_41 : decode cX9_append 41 = .ok (.iload 5, 2) := by decide +kernel
theorem dX9_append_43 : decode cX9_append 43 = .ok (.iconst 3, 1) := by decide +kernel
theorem dX9_append_44 : decode cX9_append 44 = .ok (.iload 4, 2) := by decide +kernel
theorem dX9_append_46 : decode cX9_append 46 = .ok (.invokevirtual 49, 3) := by decide +kernel
theorem dX9_append_49 : decode cX9_append 49 = .ok (.iload 5, 2) := by decide +kernel
theorem dX9_append_51 : decode cX9_append 51 = .ok (.ireturn, 1) := by decide +kernel
theorem dX9_write_0 : decode cX9_write 0 = .ok (.aload_n 0, 1) := by decide +kernel
theorem dX9_write_1 : decode cX9_write 1 = .ok (.iload_n 1, 1) := by decide +kernel
theorem dX9_write_2 : decode cX9_write 2 = .ok (.iload_n 2, 1) := by decide +kernel
theorem dX9_write_3 : decode cX9_write 3 = .ok (.invokevirtual 53, 3) := by decide +kernel
theorem dX9_write_6 : decode cX9_write 6 = .ok (.ifCond .eq 14, 3) := by decide +kernel
theorem dX9_write_9 : decode cX9_write 9 = .ok (.aload_n 0, 1) := by decide +kernel
theorem dX9_write_10 : decode cX9_write 10 = .ok (.getfield 9, 3) := by decide +kernel
theorem dX9_write_13 : decode cX9_write 13 = .ok (.iload_n 1, 1) := by decide +kernel
theorem dX9_write_14 : decode cX9_write 14 = .ok (.iconst 4, 1) := by decide +kernel
theorem dX9_write_15 : decode cX9_write 15 = .ok (.imul, 1) := by decide +kernel
theorem dX9_write_16 : decode cX9_write 16 = .ok (.iload_n 2, 1) := by decide +kernel
theorem dX9_write_17 : decode cX9_write 17 = .ok (.iadd, 1) := by decide +kernel
theorem dX9_write_18 : decode cX9_write 18 = .ok (.iload_n 3, 1) := by decide +kernel
theorem dX9_write_19 : decode cX9_write 19 = .ok (.iastore, 1) := by decide +kernel
theorem dX9_write_20 : decode cX9_write 20 = .ok (.return_, 1) := by decide +kernel
theorem dX9_isCell_0 : decode cX9_isCell 0 = .ok (.iload_n 1, 1) := by decide +kernel
theorem dX9_isCell_1 : decode cX9_isCell 1 = .ok (.ifCond .lt 27, 3) := by decide +kernel
theorem dX9_isCell_4 : decode cX9_isCell 4 = .ok (.iload_n 1, 1) := by decide +kernel
theorem dX9_isCell_5 : decode cX9_isCell 5 = .ok (.aload_n 0, 1) := by decide +kernel
theorem dX9_isCell_6 : decode cX9_isCell 6 = .ok (.getfield 46, 3) := by decide +kernel
theorem dX9_isCell_9 : decode cX9_isCell 9 = .ok (.if_icmp .ge 19, 3) := by decide +kernel
theorem dX9_isCell_12 : decode cX9_isCell 12 = .ok (.iload_n 2, 1) := by decide +kernel
theorem dX9_isCell_13 : decode cX9_isCell 13 = .ok (.ifCond .lt 15, 3) := by decide +kernel
theorem dX9_isCell_16 : decode cX9_isCell 16 = .ok (.iload_n 2, 1) := by decide +kernel
theorem dX9_isCell_17 : decode cX9_isCell 17 = .ok (.aload_n 0, 1) := by decide +kernel
theorem dX9_isCell_18 : decode cX9_isCell 18 = .ok (.getfield 28, 3) := by decide +kernel
theorem dX9_isCell_21 : decode cX9_isCell 21 = .ok (.if_icmp .ge 7, 3) := by decide +kernel
theorem dX9_isCell_24 : decode cX9_isCell 24 = .ok (.iconst 1, 1) := by decide +kernel
theorem dX9_isCell_25 : decode cX9_isCell 25 = .ok (.goto 4, 3) := by decide +kernel
theorem dX9_isCell_28 : decode cX9_isCell 28 = .ok (.iconst 0, 1) := by decide +kernel
theorem dX9_isCell_29 : decode cX9_isCell 29 = .ok (.ireturn, 1) := by decide +kernel
theorem dX9_value_0 : decode cX9_value 0 = .ok (.aload_n 0, 1) := by decide +kernel
theorem dX9_value_1 : decode cX9_value 1 = .ok (.iload_n 1, 1) := by decide +kernel
theorem dX9_value_2 : decode cX9_value 2 = .ok (.iload_n 2, 1) := by decide +kernel
theorem dX9_value_3 : decode cX9_value 3 = .ok (.invokevirtual 53, 3) := by decide +kernel
theorem dX9_value_6 : decode cX9_value 6 = .ok (.ifCond .eq 16, 3) := by decide +kernel
theorem dX9_value_9 : decode cX9_value 9 = .ok (.aload_n 0, 1) := by decide +kernel
theorem dX9_value_10 : decode cX9_value 10 = .ok (.getfield 9, 3) := by decide +kernel
theorem dX9_value_13 : decode cX9_value 13 = .ok (.iload_n 1, 1) := by decide +kernel
theorem dX9_value_14 : decode cX9_value 14 = .ok (.iconst 4, 1) := by decide +kernel
theorem dX9_value_15 : decode cX9_value 15 = .ok (.imul, 1) := by decide +kernel
theorem dX9_value_16 : decode cX9_value 16 = .ok (.iload_n 2, 1) := by decide +kernel
theorem dX9_value_17 : decode cX9_value 17 = .ok (.iadd, 1) := by decide +kernel
theorem dX9_value_18 : decode cX9_value 18 = .ok (.iaload, 1) := by decide +kernel
theorem dX9_value_19 : decode cX9_value 19 = .ok (.goto 4, 3) := by decide +kernel
theorem dX9_value_22 : decode cX9_value 22 = .ok (.iconst 0, 1) := by decide +kernel
theorem dX9_value_23 : decode cX9_value 23 = .ok (.ireturn, 1) := by decide +kernel
theorem dX9_remove_0 : decode cX9_remove 0 = .ok (.iload_n 1, 1) := by decide +kernel
theorem dX9_remove_1 : decode cX9_remove 1 = .ok (.iconst 1, 1) := by decide +kernel
theorem dX9_remove_2 : decode cX9_remove 2 = .ok (.iadd, 1) := by decide +kernel
theorem dX9_remove_3 : decode cX9_remove 3 = .ok (.istore_n 2, 1) := by decide +kernel
theorem dX9_remove_4 : decode cX9_remove 4 = .ok (.iload_n 2, 1) := by decide +kernel
theorem dX9_remove_5 : decode cX9_remove 5 = .ok (.aload_n 0, 1) := by decide +kernel
theorem dX9_remove_6 : decode cX9_remove 6 = .ok (.getfield 46, 3) := by decide +kernel
theorem dX9_remove_9 : decode cX9_remove 9 = .ok (.if_icmp .ge 39, 3) := by decide +kernel
theorem dX9_remove_12 : decode cX9_remove 12 = .ok (.iconst 0, 1) := by decide +kernel
theorem dX9_remove_13 : decode cX9_remove 13 = .ok (.istore_n 3, 1) := by decide +kernel
theorem dX9_remove_14 : decode cX9_remove 14 = .ok (.iload_n 3, 1) := by decide +kernel
theorem dX9_remove_15 : decode cX9_remove 15 = .ok (.aload_n 0, 1) := by decide +kernel
theorem dX9_remove_16 : decode cX9_remove 16 = .ok (.getfield 28, 3) := by decide +kernel
theorem dX9_remove_19 : decode cX9_remove 19 = .ok (.if_icmp .ge 23, 3) := by decide +kernel
theorem dX9_remove_22 : decode cX9_remove 22 = .ok (.aload_n 0, 1) := by decide +kernel
theorem dX9_remove_23 : decode cX9_remove 23 = .ok (.iload_n 2, 1) := by decide +kernel
theorem dX9_remove_24 : decode cX9_remove 24 = .ok (.iconst 1, 1) := by decide +kernel
theorem dX9_remove_25 : decode cX9_remove 25 = .ok (.isub, 1) := by decide +kernel
theorem dX9_remove_26 : decode cX9_remove 26 = .ok (.iload_n 3, 1) := by decide +kernel
theorem dX9_remove_27 : decode cX9_remove 27 = .ok (.aload_n 0, 1) := by decide +kernel
theorem dX9_remove_28 : decode cX9_remove 28 = .ok (.iload_n 2, 1) := by decide +kernel
theorem dX9_remove_29 : decode cX9_remove 29 = .ok (.iload_n 3, 1) := by decide +kernel
theorem dX9_remove_30 : decode cX9_remove 30 = .ok (.invokevirtual 56, 3) := by decide +kernel
theorem dX9_remove_33 : decode cX9_remove 33 = .ok (.invokevirtual 49, 3) := by decide +kernel
theorem dX9_remove_36 : decode cX9_remove 36 = .ok (.iinc 3 1, 3) := by decide +kernel
theorem dX9_remove_39 : decode cX9_remove 39 = .ok (.goto (-25), 3) := by decide +kernel
theorem dX9_remove_42 : decode cX9_remove 42 = .ok (.iinc 2 1, 3) := by decide +kernel
theorem dX9_remove_45 : decode cX9_remove 45 = .ok (.goto (-41), 3) := by decide +kernel
theorem dX9_remove_48 : decode cX9_remove 48 = .ok (.aload_n 0, 1) := by decide +kernel
theorem dX9_remove_49 : decode cX9_remove 49 = .ok (.dup, 1) := by decide +kernel
theorem dX9_remove_50 : decode cX9_remove 50 = .ok (.getfield 46, 3) := by decide +kernel
theorem dX9_remove_53 : decode cX9_remove 53 = .ok (.iconst 1, 1) := by decide +kernel
theorem dX9_remove_54 : decode cX9_remove 54 = .ok (.isub, 1) := by decide +kernel
theorem dX9_remove_55 : decode cX9_remove 55 = .ok (.putfield 46, 3) := by decide +kernel
theorem dX9_remove_58 : decode cX9_remove 58 = .ok (.return_, 1) := by decide +kernel
theorem dX9_pages_0 : decode cX9_pages 0 = .ok (.aload_n 0, 1) := by decide +kernel
theorem dX9_pages_1 : decode cX9_pages 1 = .ok (.getfield 46, 3) := by decide +kernel
theorem dX9_pages_4 : decode cX9_pages 4 = .ok (.aload_n 0, 1) := by decide +kernel
theorem dX9_pages_5 : decode cX9_pages 5 = .ok (.getfield 31, 3) := by decide +kernel
theorem dX9_pages_8 : decode cX9_pages 8 = .ok (.invokestatic 60, 3) := by decide +kernel
theorem dX9_pages_11 : decode cX9_pages 11 = .ok (.ireturn, 1) := by decide +kernel
theorem dX9_countedPages_0 : decode cX9_countedPages 0 = .ok (.aload_n 0, 1) := by decide +kernel
theorem dX9_countedPages_1 : decode cX9_countedPages 1 = .ok (.getfield 63, 3) := by decide +kernel
theorem dX9_countedPages_4 : decode cX9_countedPages 4 = .ok (.aload_n 0, 1) := by decide +kernel
theorem dX9_countedPages_5 : decode cX9_countedPages 5 = .ok (.getfield 31, 3) := by decide +kernel
theorem dX9_countedPages_8 : decode cX9_countedPages 8 = .ok (.invokestatic 60, 3) := by decide +kernel
theorem dX9_countedPages_11 : decode cX9_countedPages 11 = .ok (.ireturn, 1) := by decide +kernel
theorem dX9_pageOf_0 : decode cX9_pageOf 0 = .ok (.aload_n 0, 1) := by decide +kernel
theorem dX9_pageOf_1 : decode cX9_pageOf 1 = .ok (.getfield 31, 3) := by decide +kernel
theorem dX9_pageOf_4 : decode cX9_pageOf 4 = .ok (.ifCond .gt 7, 3) := by decide +kernel
theorem dX9_pageOf_7 : decode cX9_pageOf 7 = .ok (.iconst 0, 1) := by decide +kernel
theorem dX9_pageOf_8 : decode cX9_pageOf 8 = .ok (.goto 9, 3) := by decide +kernel
theorem dX9_pageOf_11 : decode cX9_pageOf 11 = .ok (.iload_n 1, 1) := by decide +kernel
theorem dX9_pageOf_12 : decode cX9_pageOf 12 = .ok (.aload_n 0, 1) := by decide +kernel
theorem dX9_pageOf_13 : decode cX9_pageOf 13 = .ok (.getfield 31, 3) := by decide +kernel
theorem dX9_pageOf_16 : decode cX9_pageOf 16 = .ok (.idiv, 1) := by decide +kernel
theorem dX9_pageOf_17 : decode cX9_pageOf 17 = .ok (.ireturn, 1) := by decide +kernel
theorem dX9_takeCounts_0 : decode cX9_takeCounts 0 = .ok (.aload_n 0, 1) := by decide +kernel
theorem dX9_takeCounts_1 : decode cX9_takeCounts 1 = .ok (.aload_n 0, 1) := by decide +kernel
theorem dX9_takeCounts_2 : decode cX9_takeCounts 2 = .ok (.getfield 46, 3) := by decide +kernel
theorem dX9_takeCounts_5 : decode cX9_takeCounts 5 = .ok (.putfield 63, 3) := by decide +kernel
theorem dX9_takeCounts_8 : decode cX9_takeCounts 8 = .ok (.iconst 0, 1) := by decide +kernel
theorem dX9_takeCounts_9 : decode cX9_takeCounts 9 = .ok (.istore_n 1, 1) := by decide +kernel
theorem dX9_takeCounts_10 : decode cX9_takeCounts 10 = .ok (.iload_n 1, 1) := by decide +kernel
theorem dX9_takeCounts_11 : decode cX9_takeCounts 11 = .ok (.aload_n 0, 1) := by decide +kernel
theorem dX9_takeCounts_12 : decode cX9_takeCounts 12 = .ok (.getfield 28, 3) := by decide +kernel
theorem dX9_takeCounts_15 : decode cX9_takeCounts 15 = .ok (.if_icmp .ge 28, 3) := by decide +kernel
theorem dX9_takeCounts_18 : decode cX9_takeCounts 18 = .ok (.aload_n 0, 1) := by decide +kernel
theorem dX9_takeCounts_19 : decode cX9_takeCounts 19 = .ok (.getfield 15, 3) := by decide +kernel
theorem dX9_takeCounts_22 : decode cX9_takeCounts 22 = .ok (.iload_n 1, 1) := by decide +kernel
theorem dX9_takeCounts_23 : decode cX9_takeCounts 23 = .ok (.aload_n 0, 1) := by decide +kernel
theorem dX9_takeCounts_24 : decode cX9_takeCounts 24 = .ok (.iload_n 1, 1) := by decide +kernel
theorem dX9_takeCounts_25 : decode cX9_takeCounts 25 = .ok (.invokestatic 66, 3) := by decide +kernel
theorem dX9_takeCounts_28 : decode cX9_takeCounts 28 = .ok (.invokevirtual 70, 3) := by decide +kernel
theorem dX9_takeCounts_31 : decode cX9_takeCounts 31 = .ok (.iastore, 1) := by decide +kernel
theorem dX9_takeCounts_32 : decode cX9_takeCounts 32 = .ok (.aload_n 0, 1) := by decide +kernel
theorem dX9_takeCounts_33 : decode cX9_takeCounts 33 = .ok (.iload_n 1, 1) := by decide +kernel
theorem dX9_takeCounts_34 : decode cX9_takeCounts 34 = .ok (.invokevirtual 73, 3) := by decide +kernel
theorem dX9_takeCounts_37 : decode cX9_takeCounts 37 = .ok (.iinc 1 1, 3) := by decide +kernel
theorem dX9_takeCounts_40 : decode cX9_takeCounts 40 = .ok (.goto (-30), 3) := by decide +kernel
theorem dX9_takeCounts_43 : decode cX9_takeCounts 43 = .ok (.return_, 1) := by decide +kernel
theorem dX9_takeEnds_0 : decode cX9_takeEnds 0 = .ok (.aload_n 0, 1) := by decide +kernel
theorem dX9_takeEnds_1 : decode cX9_takeEnds 1 = .ok (.iconst 0, 1) := by decide +kernel
theorem dX9_takeEnds_2 : decode cX9_takeEnds 2 = .ok (.iload_n 1, 1) := by decide +kernel
theorem dX9_takeEnds_3 : decode cX9_takeEnds 3 = .ok (.invokevirtual 56, 3) := by decide +kernel
theorem dX9_takeEnds_6 : decode cX9_takeEnds 6 = .ok (.istore_n 2, 1) := by decide +kernel
theorem dX9_takeEnds_7 : decode cX9_takeEnds 7 = .ok (.iload_n 2, 1) := by decide +kernel
theorem dX9_takeEnds_8 : decode cX9_takeEnds 8 = .ok (.istore_n 3, 1) := by decide +kernel
theorem dX9_takeEnds_9 : decode cX9_takeEnds 9 = .ok (.iconst 1, 1) := by decide +kernel
theorem dX9_takeEnds_10 : decode cX9_takeEnds 10 = .ok (.istore 4, 2) := by decide +kernel
theorem dX9_takeEnds_12 : decode cX9_takeEnds 12 = .ok (.iload 4, 2) := by decide +kernel
theorem dX9_takeEnds_14 : decode cX9_takeEnds 14 = .ok (.aload_n 0, 1) := by decide +kernel
theorem dX9_takeEnds_15 : decode cX9_takeEnds 15 = .ok (.getfield 46, 3) := by decide +kernel
theorem dX9_takeEnds_18 : decode cX9_takeEnds 18 = .ok (.if_icmp .ge 33, 3) := by decide +kernel
theorem dX9_takeEnds_21 : decode cX9_takeEnds 21 = .ok (.iload_n 2, 1) := by decide +kernel
theorem dX9_takeEnds_22 : decode cX9_takeEnds 22 = .ok (.aload_n 0, 1) := by decide +kernel
theorem dX9_takeEnds_23 : decode cX9_takeEnds 23 = .ok (.iload 4, 2) := by decide +kernel
theorem dX9_takeEnds_25 : decode cX9_takeEnds 25 = .ok (.iload_n 1, 1) := by decide +kernel
theorem dX9_takeEnds_26 : decode cX9_takeEnds 26 = .ok (.invokevirtual 56, 3) := by decide +kernel
theorem dX9_takeEnds_29 : decode cX9_takeEnds 29 = .ok (.invokestatic 77, 3) := by decide +kernel
theorem dX9_takeEnds_32 : decode cX9_takeEnds 32 = .ok (.istore_n 2, 1) := by decide +kernel
theorem dX9_takeEnds_33 : decode cX9_takeEnds 33 = .ok (.iload_n 3, 1) := by decide +kernel
theorem dX9_takeEnds_34 : decode cX9_takeEnds 34 = .ok (.aload_n 0, 1) := by decide +kernel
theorem dX9_takeEnds_35 : decode cX9_takeEnds 35 = .ok (.iload 4, 2) := by decide +kernel
theorem dX9_takeEnds_37 : decode cX9_takeEnds 37 = .ok (.iload_n 1, 1) := by decide +kernel
theorem dX9_takeEnds_38 : decode cX9_takeEnds 38 = .ok (.invokevirtual 56, 3) := by decide +kernel
theorem dX9_takeEnds_41 : decode cX9_takeEnds 41 = .ok (.invokestatic 82, 3) := by decide +kernel
theorem dX9_takeEnds_44 : decode cX9_takeEnds 44 = .ok (.istore_n 3, 1) := by decide +kernel
theorem dX9_takeEnds_45 : decode cX9_takeEnds 45 = .ok (.iinc 4 1, 3) := by decide +kernel
theorem dX9_takeEnds_48 : decode cX9_takeEnds 48 = .ok (.goto (-36), 3) := by decide +kernel
theorem dX9_takeEnds_51 : decode cX9_takeEnds 51 = .ok (.aload_n 0, 1) := by decide +kernel
theorem dX9_takeEnds_52 : decode cX9_takeEnds 52 = .ok (.getfield 18, 3) := by decide +kernel
theorem dX9_takeEnds_55 : decode cX9_takeEnds 55 = .ok (.iload_n 1, 1) := by decide +kernel
theorem dX9_takeEnds_56 : decode cX9_takeEnds 56 = .ok (.iload_n 2, 1) := by decide +kernel
theorem dX9_takeEnds_57 : decode cX9_takeEnds 57 = .ok (.iastore, 1) := by decide +kernel
theorem dX9_takeEnds_58 : decode cX9_takeEnds 58 = .ok (.aload_n 0, 1) := by decide +kernel
theorem dX9_takeEnds_59 : decode cX9_takeEnds 59 = .ok (.getfield 21, 3) := by decide +kernel
theorem dX9_takeEnds_62 : decode cX9_takeEnds 62 = .ok (.iload_n 1, 1) := by decide +kernel
theorem dX9_takeEnds_63 : decode cX9_takeEnds 63 = .ok (.iload_n 3, 1) := by decide +kernel
theorem dX9_takeEnds_64 : decode cX9_takeEnds 64 = .ok (.iastore, 1) := by decide +kernel
theorem dX9_takeEnds_65 : decode cX9_takeEnds 65 = .ok (.return_, 1) := by decide +kernel
theorem dX9_countOfColumn_0 : decode cX9_countOfColumn 0 = .ok (.aload_n 0, 1) := by decide +kernel
theorem dX9_countOfColumn_1 : decode cX9_countOfColumn 1 = .ok (.iload_n 1, 1) := by decide +kernel
theorem dX9_countOfColumn_2 : decode cX9_countOfColumn 2 = .ok (.invokevirtual 34, 3) := by decide +kernel
theorem dX9_countOfColumn_5 : decode cX9_countOfColumn 5 = .ok (.ifCond .ne 5, 3) := by decide +kernel
theorem dX9_countOfColumn_8 : decode cX9_countOfColumn 8 = .ok (.iconst (-1), 1) := by decide +kernel
theorem dX9_countOfColumn_9 : decode cX9_countOfColumn 9 = .ok (.ireturn, 1) := by decide +kernel
theorem dX9_countOfColumn_10 : decode cX9_countOfColumn 10 = .ok (.iload_n 2, 1) := by decide +kernel
theorem dX9_countOfColumn_11 : decode cX9_countOfColumn 11 = .ok (.tableswitch 46 2 4 #[25, 32, 39], 25) := by decide +kernel
theorem dX9_countOfColumn_36 : decode cX9_countOfColumn 36 = .ok (.aload_n 0, 1) := by decide +kernel
theorem dX9_countOfColumn_37 : decode cX9_countOfColumn 37 = .ok (.getfield 15, 3) := by decide +kernel
theorem dX9_countOfColumn_40 : decode cX9_countOfColumn 40 = .ok (.iload_n 1, 1) := by decide +kernel
theorem dX9_countOfColumn_41 : decode cX9_countOfColumn 41 = .ok (.iaload, 1) := by decide +kernel
theorem dX9_countOfColumn_42 : decode cX9_countOfColumn 42 = .ok (.ireturn, 1) := by decide +kernel
theorem dX9_countOfColumn_43 : decode cX9_countOfColumn 43 = .ok (.aload_n 0, 1) := by decide +kernel
theorem dX9_countOfColumn_44 : decode cX9_countOfColumn 44 = .ok (.getfield 18, 3) := by decide +kernel
theorem dX9_countOfColumn_47 : decode cX9_countOfColumn 47 = .ok (.iload_n 1, 1) := by decide +kernel
theorem dX9_countOfColumn_48 : decode cX9_countOfColumn 48 = .ok (.iaload, 1) := by decide +kernel
theorem dX9_countOfColumn_49 : decode cX9_countOfColumn 49 = .ok (.ireturn, 1) := by decide +kernel
theorem dX9_countOfColumn_50 : decode cX9_countOfColumn 50 = .ok (.aload_n 0, 1) := by decide +kernel
theorem dX9_countOfColumn_51 : decode cX9_countOfColumn 51 = .ok (.getfield 21, 3) := by decide +kernel
theorem dX9_countOfColumn_54 : decode cX9_countOfColumn 54 = .ok (.iload_n 1, 1) := by decide +kernel
theorem dX9_countOfColumn_55 : decode cX9_countOfColumn 55 = .ok (.iaload, 1) := by decide +kernel
theorem dX9_countOfColumn_56 : decode cX9_countOfColumn 56 = .ok (.ireturn, 1) := by decide +kernel
theorem dX9_countOfColumn_57 : decode cX9_countOfColumn 57 = .ok (.iconst (-1), 1) := by decide +kernel
theorem dX9_countOfColumn_58 : decode cX9_countOfColumn 58 = .ok (.ireturn, 1) := by decide +kernel
theorem dX9_unlikeRows_0 : decode cX9_unlikeRows 0 = .ok (.iconst 0, 1) := by decide +kernel
theorem dX9_unlikeRows_1 : decode cX9_unlikeRows 1 = .ok (.istore_n 2, 1) := by decide +kernel
theorem dX9_unlikeRows_2 : decode cX9_unlikeRows 2 = .ok (.iconst 0, 1) := by decide +kernel
theorem dX9_unlikeRows_3 : decode cX9_unlikeRows 3 = .ok (.istore_n 3, 1) := by decide +kernel
theorem dX9_unlikeRows_4 : decode cX9_unlikeRows 4 = .ok (.iload_n 3, 1) := by decide +kernel
theorem dX9_unlikeRows_5 : decode cX9_unlikeRows 5 = .ok (.aload_n 0, 1) := by decide +kernel
theorem dX9_unlikeRows_6 : decode cX9_unlikeRows 6 = .ok (.getfield 46, 3) := by decide +kernel
theorem dX9_unlikeRows_9 : decode cX9_unlikeRows 9 = .ok (.if_icmp .ge 26, 3) := by decide +kernel
theorem dX9_unlikeRows_12 : decode cX9_unlikeRows 12 = .ok (.iload_n 2, 1) := by decide +kernel
theorem dX9_unlikeRows_13 : decode cX9_unlikeRows 13 = .ok (.aload_n 0, 1) := by decide +kernel
theorem dX9_unlikeRows_14 : decode cX9_unlikeRows 14 = .ok (.iload_n 3, 1) := by decide +kernel
theorem dX9_unlikeRows_15 : decode cX9_unlikeRows 15 = .ok (.iload_n 1, 1) := by decide +kernel
theorem dX9_unlikeRows_16 : decode cX9_unlikeRows 16 = .ok (.invokevirtual 85, 3) := by decide +kernel
theorem dX9_unlikeRows_19 : decode cX9_unlikeRows 19 = .ok (.ifCond .eq 7, 3) := by decide +kernel
theorem dX9_unlikeRows_22 : decode cX9_unlikeRows 22 = .ok (.iconst 1, 1) := by decide +kernel
theorem dX9_unlikeRows_23 : decode cX9_unlikeRows 23 = .ok (.goto 4, 3) := by decide +kernel
theorem dX9_unlikeRows_26 : decode cX9_unlikeRows 26 = .ok (.iconst 0, 1) := by decide +kernel
theorem dX9_unlikeRows_27 : decode cX9_unlikeRows 27 = .ok (.iadd, 1) := by decide +kernel
theorem dX9_unlikeRows_28 : decode cX9_unlikeRows 28 = .ok (.istore_n 2, 1) := by decide +kernel
theorem dX9_unlikeRows_29 : decode cX9_unlikeRows 29 = .ok (.iinc 3 1, 3) := by decide +kernel
theorem dX9_unlikeRows_32 : decode cX9_unlikeRows 32 = .ok (.goto (-28), 3) := by decide +kernel
theorem dX9_unlikeRows_35 : decode cX9_unlikeRows 35 = .ok (.iload_n 2, 1) := by decide +kernel
theorem dX9_unlikeRows_36 : decode cX9_unlikeRows 36 = .ok (.ireturn, 1) := by decide +kernel
theorem dX9_isFirstOfItsLike_0 : decode cX9_isFirstOfItsLike 0 = .ok (.iconst 0, 1) := by decide +kernel
theorem dX9_isFirstOfItsLike_1 : decode cX9_isFirstOfItsLike 1 = .ok (.istore_n 3, 1) := by decide +kernel
theorem dX9_isFirstOfItsLike_2 : decode cX9_isFirstOfItsLike 2 = .ok (.iload_n 3, 1) := by decide +kernel
theorem dX9_isFirstOfItsLike_3 : decode cX9_isFirstOfItsLike 3 = .ok (.iload_n 1, 1) := by decide +kernel
theorem dX9_isFirstOfItsLike_4 : decode cX9_isFirstOfItsLike 4 = .ok (.if_icmp .ge 21, 3) := by decide +kernel
theorem dX9_isFirstOfItsLike_7 : decode cX9_isFirstOfItsLike 7 = .ok (.aload_n 0, 1) := by decide +kernel
theorem dX9_isFirstOfItsLike_8 : decode cX9_isFirstOfItsLike 8 = .ok (.iload_n 3, 1) := by decide +kernel
theorem dX9_isFirstOfItsLike_9 : decode cX9_isFirstOfItsLike 9 = .ok (.iload_n 1, 1) := by decide +kernel
theorem dX9_isFirstOfItsLike_10 : decode cX9_isFirstOfItsLike 10 = .ok (.iload_n 2, 1) := by decide +kernel
theorem dX9_isFirstOfItsLike_11 : decode cX9_isFirstOfItsLike 11 = .ok (.invokevirtual 88, 3) := by decide +kernel
theorem dX9_isFirstOfItsLike_14 : decode cX9_isFirstOfItsLike 14 = .ok (.ifCond .eq 5, 3) := by decide +kernel
theorem dX9_isFirstOfItsLike_17 : decode cX9_isFirstOfItsLike 17 = .ok (.iconst 0, 1) := by decide +kernel
theorem dX9_isFirstOfItsLike_18 : decode cX9_isFirstOfItsLike 18 = .ok (.ireturn, 1) := by decide +kernel
theorem dX9_isFirstOfItsLike_19 : decode cX9_isFirstOfItsLike 19 = .ok (.iinc 3 1, 3) := by decide +kernel
theorem dX9_isFirstOfItsLike_22 : decode cX9_isFirstOfItsLike 22 = .ok (.goto (-20), 3) := by decide +kernel
theorem dX9_isFirstOfItsLike_25 : decode cX9_isFirstOfItsLike 25 = .ok (.iconst 1, 1) := by decide +kernel
theorem dX9_isFirstOfItsLike_26 : decode cX9_isFirstOfItsLike 26 = .ok (.ireturn, 1) := by decide +kernel
theorem dX9_areAlike_0 : decode cX9_areAlike 0 = .ok (.iconst 0, 1) := by decide +kernel
theorem dX9_areAlike_1 : decode cX9_areAlike 1 = .ok (.istore 4, 2) := by decide +kernel
theorem dX9_areAlike_3 : decode cX9_areAlike 3 = .ok (.iload 4, 2) := by decide +kernel
theorem dX9_areAlike_5 : decode cX9_areAlike 5 = .ok (.aload_n 0, 1) := by decide +kernel
theorem dX9_areAlike_6 : decode cX9_areAlike 6 = .ok (.getfield 28, 3) := by decide +kernel
theorem dX9_areAlike_9 : decode cX9_areAlike 9 = .ok (.if_icmp .ge 37, 3) := by decide +kernel
theorem dX9_areAlike_12 : decode cX9_areAlike 12 = .ok (.iload 4, 2) := by decide +kernel
theorem dX9_areAlike_14 : decode cX9_areAlike 14 = .ok (.iload_n 3, 1) := by decide +kernel
theorem dX9_areAlike_15 : decode cX9_areAlike 15 = .ok (.invokestatic 91, 3) := by decide +kernel
theorem dX9_areAlike_18 : decode cX9_areAlike 18 = .ok (.ifCond .eq 22, 3) := by decide +kernel
theorem dX9_areAlike_21 : decode cX9_areAlike 21 = .ok (.aload_n 0, 1) := by decide +kernel
theorem dX9_areAlike_22 : decode cX9_areAlike 22 = .ok (.iload_n 1, 1) := by decide +kernel
theorem dX9_areAlike_23 : decode cX9_areAlike 23 = .ok (.iload 4, 2) := by decide +kernel
theorem dX9_areAlike_25 : decode cX9_areAlike 25 = .ok (.invokevirtual 56, 3) := by decide +kernel
theorem dX9_areAlike_28 : decode cX9_areAlike 28 = .ok (.aload_n 0, 1) := by decide +kernel
theorem dX9_areAlike_29 : decode cX9_areAlike 29 = .ok (.iload_n 2, 1) := by decide +kernel
theorem dX9_areAlike_30 : decode cX9_areAlike 30 = .ok (.iload 4, 2) := by decide +kernel
theorem dX9_areAlike_32 : decode cX9_areAlike 32 = .ok (.invokevirtual 56, 3) := by decide +kernel
theorem dX9_areAlike_35 : decode cX9_areAlike 35 = .ok (.if_icmp .eq 5, 3) := by decide +kernel
theorem dX9_areAlike_38 : decode cX9_areAlike 38 = .ok (.iconst 0, 1) := by decide +kernel
theorem dX9_areAlike_39 : decode cX9_areAlike 39 = .ok (.ireturn, 1) := by decide +kernel
theorem dX9_areAlike_40 : decode cX9_areAlike 40 = .ok (.iinc 4 1, 3) := by decide +kernel
theorem dX9_areAlike_43 : decode cX9_areAlike 43 = .ok (.goto (-40), 3) := by decide +kernel
theorem dX9_areAlike_46 : decode cX9_areAlike 46 = .ok (.iconst 1, 1) := by decide +kernel
theorem dX9_areAlike_47 : decode cX9_areAlike 47 = .ok (.ireturn, 1) := by decide +kernel
theorem dX9_foretoldGroups_0 : decode cX9_foretoldGroups 0 = .ok (.iconst 1, 1) := by decide +kernel
theorem dX9_foretoldGroups_1 : decode cX9_foretoldGroups 1 = .ok (.istore_n 2, 1) := by decide +kernel
theorem dX9_foretoldGroups_2 : decode cX9_foretoldGroups 2 = .ok (.iconst 0, 1) := by decide +kernel
theorem dX9_foretoldGroups_3 : decode cX9_foretoldGroups 3 = .ok (.istore_n 3, 1) := by decide +kernel
theorem dX9_foretoldGroups_4 : decode cX9_foretoldGroups 4 = .ok (.iload_n 3, 1) := by decide +kernel
theorem dX9_foretoldGroups_5 : decode cX9_foretoldGroups 5 = .ok (.aload_n 0, 1) := by decide +kernel
theorem dX9_foretoldGroups_6 : decode cX9_foretoldGroups 6 = .ok (.getfield 28, 3) := by decide +kernel
theorem dX9_foretoldGroups_9 : decode cX9_foretoldGroups 9 = .ok (.if_icmp .ge 30, 3) := by decide +kernel
theorem dX9_foretoldGroups_12 : decode cX9_foretoldGroups 12 = .ok (.iload_n 2, 1) := by decide +kernel
theorem dX9_foretoldGroups_13 : decode cX9_foretoldGroups 13 = .ok (.iload_n 3, 1) := by decide +kernel
theorem dX9_foretoldGroups_14 : decode cX9_foretoldGroups 14 = .ok (.iload_n 1, 1) := by decide +kernel
theorem dX9_foretoldGroups_15 : decode cX9_foretoldGroups 15 = .ok (.invokestatic 91, 3) := by decide +kernel
theorem dX9_foretoldGroups_18 : decode cX9_foretoldGroups 18 = .ok (.ifCond .eq 12, 3) := by decide +kernel
theorem dX9_foretoldGroups_21 : decode cX9_foretoldGroups 21 = .ok (.aload_n 0, 1) := by decide +kernel
theorem dX9_foretoldGroups_22 : decode cX9_foretoldGroups 22 = .ok (.getfield 15, 3) := by decide +kernel
theorem dX9_foretoldGroups_25 : decode cX9_foretoldGroups 25 = .ok (.iload_n 3, 1) := by decide +kernel
theorem dX9_foretoldGroups_26 : decode cX9_foretoldGroups 26 = .ok (.iaload, 1) := by decide +kernel
theorem dX9_foretoldGroups_27 : decode cX9_foretoldGroups 27 = .ok (.goto 4, 3) := by decide +kernel
theorem dX9_foretoldGroups_30 : decode cX9_foretoldGroups 30 = .ok (.iconst 1, 1) := by decide +kernel
theorem dX9_foretoldGroups_31 : decode cX9_foretoldGroups 31 = .ok (.imul, 1) := by decide +kernel
theorem dX9_foretoldGroups_32 : decode cX9_foretoldGroups 32 = .ok (.istore_n 2, 1) := by decide +kernel
theorem dX9_foretoldGroups_33 : decode cX9_foretoldGroups 33 = .ok (.iinc 3 1, 3) := by decide +kernel
theorem dX9_foretoldGroups_36 : decode cX9_foretoldGroups 36 = .ok (.goto (-32), 3) := by decide +kernel
theorem dX9_foretoldGroups_39 : decode cX9_foretoldGroups 39 = .ok (.iload_n 2, 1) := by decide +kernel
theorem dX9_foretoldGroups_40 : decode cX9_foretoldGroups 40 = .ok (.aload_n 0, 1) := by decide +kernel
theorem dX9_foretoldGroups_41 : decode cX9_foretoldGroups 41 = .ok (.getfield 63, 3) := by decide +kernel
theorem dX9_foretoldGroups_44 : decode cX9_foretoldGroups 44 = .ok (.invokestatic 77, 3) := by decide +kernel
theorem dX9_foretoldGroups_47 : decode cX9_foretoldGroups 47 = .ok (.ireturn, 1) := by decide +kernel
theorem dX9_foretoldPassing_0 : decode cX9_foretoldPassing 0 = .ok (.aload_n 0, 1) := by decide +kernel
theorem dX9_foretoldPassing_1 : decode cX9_foretoldPassing 1 = .ok (.iload_n 2, 1) := by decide +kernel
theorem dX9_foretoldPassing_2 : decode cX9_foretoldPassing 2 = .ok (.invokevirtual 34, 3) := by decide +kernel
theorem dX9_foretoldPassing_5 : decode cX9_foretoldPassing 5 = .ok (.ifCond .ne 5, 3) := by decide +kernel
theorem dX9_foretoldPassing_8 : decode cX9_foretoldPassing 8 = .ok (.iconst 0, 1) := by decide +kernel
end
section
theorem dX9_foretoldPassing_9 : decode cX9_foretoldPassing 9 = .ok (.ireturn, 1) := by decide +kernel
theorem dX9_foretoldPassing_10 : decode cX9_foretoldPassing 10 = .ok (.iload 4, 2) := by decide +kernel
theorem dX9_foretoldPassing_12 : decode cX9_foretoldPassing 12 = .ok (.aload_n 0, 1) := by decide +kernel
theorem dX9_foretoldPassing_13 : decode cX9_foretoldPassing 13 = .ok (.getfield 21, 3) := by decide +kernel
theorem dX9_foretoldPassing_16 : decode cX9_foretoldPassing 16 = .ok (.iload_n 2, 1) := by decide +kernel
theorem dX9_foretoldPassing_17 : decode cX9_foretoldPassing 17 = .ok (.iaload, 1) := by decide +kernel
theorem dX9_foretoldPassing_18 : decode cX9_foretoldPassing 18 = .ok (.invokestatic 77, 3) := by decide +kernel
theorem dX9_foretoldPassing_21 : decode cX9_foretoldPassing 21 = .ok (.iload_n 3, 1) := by decide +kernel
theorem dX9_foretoldPassing_22 : decode cX9_foretoldPassing 22 = .ok (.aload_n 0, 1) := by decide +kernel
theorem dX9_foretoldPassing_23 : decode cX9_foretoldPassing 23 = .ok (.getfield 18, 3) := by decide +kernel
theorem dX9_foretoldPassing_26 : decode cX9_foretoldPassing 26 = .ok (.iload_n 2, 1) := by decide +kernel
theorem dX9_foretoldPassing_27 : decode cX9_foretoldPassing 27 = .ok (.iaload, 1) := by decide +kernel
theorem dX9_foretoldPassing_28 : decode cX9_foretoldPassing 28 = .ok (.invokestatic 82, 3) := by decide +kernel
theorem dX9_foretoldPassing_31 : decode cX9_foretoldPassing 31 = .ok (.isub, 1) := by decide +kernel
theorem dX9_foretoldPassing_32 : decode cX9_foretoldPassing 32 = .ok (.iconst 1, 1) := by decide +kernel
theorem dX9_foretoldPassing_33 : decode cX9_foretoldPassing 33 = .ok (.iadd, 1) := by decide +kernel
theorem dX9_foretoldPassing_34 : decode cX9_foretoldPassing 34 = .ok (.istore 5, 2) := by decide +kernel
theorem dX9_foretoldPassing_36 : decode cX9_foretoldPassing 36 = .ok (.iload_n 1, 1) := by decide +kernel
theorem dX9_foretoldPassing_37 : decode cX9_foretoldPassing 37 = .ok (.ifCond .le 8, 3) := by decide +kernel
theorem dX9_foretoldPassing_40 : decode cX9_foretoldPassing 40 = .ok (.iload 5, 2) := by decide +kernel
theorem dX9_foretoldPassing_42 : decode cX9_foretoldPassing 42 = .ok (.ifCond .gt 5, 3) := by decide +kernel
theorem dX9_foretoldPassing_45 : decode cX9_foretoldPassing 45 = .ok (.iconst 0, 1) := by decide +kernel
theorem dX9_foretoldPassing_46 : decode cX9_foretoldPassing 46 = .ok (.ireturn, 1) := by decide +kernel
theorem dX9_foretoldPassing_47 : decode cX9_foretoldPassing 47 = .ok (.iload_n 3, 1) := by decide +kernel
theorem dX9_foretoldPassing_48 : decode cX9_foretoldPassing 48 = .ok (.iload 4, 2) := by decide +kernel
theorem dX9_foretoldPassing_50 : decode cX9_foretoldPassing 50 = .ok (.if_icmp .ne 14, 3) := by decide +kernel
theorem dX9_foretoldPassing_53 : decode cX9_foretoldPassing 53 = .ok (.iload_n 1, 1) := by decide +kernel
theorem dX9_foretoldPassing_54 : decode cX9_foretoldPassing 54 = .ok (.aload_n 0, 1) := by decide +kernel
theorem dX9_foretoldPassing_55 : decode cX9_foretoldPassing 55 = .ok (.getfield 15, 3) := by decide +kernel
theorem dX9_foretoldPassing_58 : decode cX9_foretoldPassing 58 = .ok (.iload_n 2, 1) := by decide +kernel
theorem dX9_foretoldPassing_59 : decode cX9_foretoldPassing 59 = .ok (.iaload, 1) := by decide +kernel
theorem dX9_foretoldPassing_60 : decode cX9_foretoldPassing 60 = .ok (.invokestatic 60, 3) := by decide +kernel
theorem dX9_foretoldPassing_63 : decode cX9_foretoldPassing 63 = .ok (.ireturn, 1) := by decide +kernel
theorem dX9_foretoldPassing_64 : decode cX9_foretoldPassing 64 = .ok (.iload_n 1, 1) := by decide +kernel
theorem dX9_foretoldPassing_65 : decode cX9_foretoldPassing 65 = .ok (.iload 5, 2) := by decide +kernel
theorem dX9_foretoldPassing_67 : decode cX9_foretoldPassing 67 = .ok (.imul, 1) := by decide +kernel
theorem dX9_foretoldPassing_68 : decode cX9_foretoldPassing 68 = .ok (.aload_n 0, 1) := by decide +kernel
theorem dX9_foretoldPassing_69 : decode cX9_foretoldPassing 69 = .ok (.getfield 21, 3) := by decide +kernel
theorem dX9_foretoldPassing_72 : decode cX9_foretoldPassing 72 = .ok (.iload_n 2, 1) := by decide +kernel
theorem dX9_foretoldPassing_73 : decode cX9_foretoldPassing 73 = .ok (.iaload, 1) := by decide +kernel
theorem dX9_foretoldPassing_74 : decode cX9_foretoldPassing 74 = .ok (.aload_n 0, 1) := by decide +kernel
theorem dX9_foretoldPassing_75 : decode cX9_foretoldPassing 75 = .ok (.getfield 18, 3) := by decide +kernel
theorem dX9_foretoldPassing_78 : decode cX9_foretoldPassing 78 = .ok (.iload_n 2, 1) := by decide +kernel
theorem dX9_foretoldPassing_79 : decode cX9_foretoldPassing 79 = .ok (.iaload, 1) := by decide +kernel
theorem dX9_foretoldPassing_80 : decode cX9_foretoldPassing 80 = .ok (.isub, 1) := by decide +kernel
theorem dX9_foretoldPassing_81 : decode cX9_foretoldPassing 81 = .ok (.iconst 1, 1) := by decide +kernel
theorem dX9_foretoldPassing_82 : decode cX9_foretoldPassing 82 = .ok (.iadd, 1) := by decide +kernel
theorem dX9_foretoldPassing_83 : decode cX9_foretoldPassing 83 = .ok (.invokestatic 60, 3) := by decide +kernel
theorem dX9_foretoldPassing_86 : decode cX9_foretoldPassing 86 = .ok (.ireturn, 1) := by decide +kernel
theorem dX10_init_0 : decode cX10_init 0 = .ok (.aload_n 0, 1) := by decide +kernel
theorem dX10_init_1 : decode cX10_init 1 = .ok (.invokespecial 1, 3) := by decide +kernel
theorem dX10_init_4 : decode cX10_init 4 = .ok (.aload_n 0, 1) := by decide +kernel
theorem dX10_init_5 : decode cX10_init 5 = .ok (.iconst 4, 1) := by decide +kernel
theorem dX10_init_6 : decode cX10_init 6 = .ok (.anewarray 9, 3) := by decide +kernel
theorem dX10_init_9 : decode cX10_init 9 = .ok (.putfield 11, 3) := by decide +kernel
theorem dX10_init_12 : decode cX10_init 12 = .ok (.aload_n 0, 1) := by decide +kernel
theorem dX10_init_13 : decode cX10_init 13 = .ok (.new 15, 3) := by decide +kernel
theorem dX10_init_16 : decode cX10_init 16 = .ok (.dup, 1) := by decide +kernel
theorem dX10_init_17 : decode cX10_init 17 = .ok (.invokespecial 17, 3) := by decide +kernel
theorem dX10_init_20 : decode cX10_init 20 = .ok (.putfield 18, 3) := by decide +kernel
theorem dX10_init_23 : decode cX10_init 23 = .ok (.aload_n 0, 1) := by decide +kernel
theorem dX10_init_24 : decode cX10_init 24 = .ok (.new 15, 3) := by decide +kernel
theorem dX10_init_27 : decode cX10_init 27 = .ok (.dup, 1) := by decide +kernel
theorem dX10_init_28 : decode cX10_init 28 = .ok (.invokespecial 17, 3) := by decide +kernel
theorem dX10_init_31 : decode cX10_init 31 = .ok (.putfield 22, 3) := by decide +kernel
theorem dX10_init_34 : decode cX10_init 34 = .ok (.aload_n 0, 1) := by decide +kernel
theorem dX10_init_35 : decode cX10_init 35 = .ok (.new 25, 3) := by decide +kernel
theorem dX10_init_38 : decode cX10_init 38 = .ok (.dup, 1) := by decide +kernel
theorem dX10_init_39 : decode cX10_init 39 = .ok (.invokespecial 27, 3) := by decide +kernel
theorem dX10_init_42 : decode cX10_init 42 = .ok (.putfield 28, 3) := by decide +kernel
theorem dX10_init_45 : decode cX10_init 45 = .ok (.return_, 1) := by decide +kernel
theorem dX10_table_0 : decode cX10_table 0 = .ok (.iload_n 1, 1) := by decide +kernel
theorem dX10_table_1 : decode cX10_table 1 = .ok (.iconst 0, 1) := by decide +kernel
theorem dX10_table_2 : decode cX10_table 2 = .ok (.iconst 3, 1) := by decide +kernel
theorem dX10_table_3 : decode cX10_table 3 = .ok (.invokestatic 32, 3) := by decide +kernel
theorem dX10_table_6 : decode cX10_table 6 = .ok (.ifCond .eq 12, 3) := by decide +kernel
theorem dX10_table_9 : decode cX10_table 9 = .ok (.aload_n 0, 1) := by decide +kernel
theorem dX10_table_10 : decode cX10_table 10 = .ok (.getfield 11, 3) := by decide +kernel
theorem dX10_table_13 : decode cX10_table 13 = .ok (.iload_n 1, 1) := by decide +kernel
theorem dX10_table_14 : decode cX10_table 14 = .ok (.aaload, 1) := by decide +kernel
theorem dX10_table_15 : decode cX10_table 15 = .ok (.ifnull 5, 3) := by decide +kernel
theorem dX10_table_18 : decode cX10_table 18 = .ok (.iconst 0, 1) := by decide +kernel
theorem dX10_table_19 : decode cX10_table 19 = .ok (.ireturn, 1) := by decide +kernel
theorem dX10_table_20 : decode cX10_table 20 = .ok (.iload_n 2, 1) := by decide +kernel
theorem dX10_table_21 : decode cX10_table 21 = .ok (.iconst 1, 1) := by decide +kernel
theorem dX10_table_22 : decode cX10_table 22 = .ok (.iconst 4, 1) := by decide +kernel
theorem dX10_table_23 : decode cX10_table 23 = .ok (.invokestatic 32, 3) := by decide +kernel
theorem dX10_table_26 : decode cX10_table 26 = .ok (.ifCond .eq 13, 3) := by decide +kernel
theorem dX10_table_29 : decode cX10_table 29 = .ok (.iload_n 3, 1) := by decide +kernel
theorem dX10_table_30 : decode cX10_table 30 = .ok (.iconst 2, 1) := by decide +kernel
theorem dX10_table_31 : decode cX10_table 31 = .ok (.bipush 8, 2) := by decide +kernel
theorem dX10_table_33 : decode cX10_table 33 = .ok (.invokestatic 32, 3) := by decide +kernel
theorem dX10_table_36 : decode cX10_table 36 = .ok (.ifCond .ne 5, 3) := by decide +kernel
theorem dX10_table_39 : decode cX10_table 39 = .ok (.iconst 0, 1) := by decide +kernel
theorem dX10_table_40 : decode cX10_table 40 = .ok (.ireturn, 1) := by decide +kernel
theorem dX10_table_41 : decode cX10_table 41 = .ok (.aload_n 0, 1) := by decide +kernel
theorem dX10_table_42 : decode cX10_table 42 = .ok (.getfield 11, 3) := by decide +kernel
theorem dX10_table_45 : decode cX10_table 45 = .ok (.iload_n 1, 1) := by decide +kernel
theorem dX10_table_46 : decode cX10_table 46 = .ok (.new 9, 3) := by decide +kernel
theorem dX10_table_49 : decode cX10_table 49 = .ok (.dup, 1) := by decide +kernel
theorem dX10_table_50 : decode cX10_table 50 = .ok (.iload_n 1, 1) := by decide +kernel
theorem dX10_table_51 : decode cX10_table 51 = .ok (.iload_n 2, 1) := by decide +kernel
theorem dX10_table_52 : decode cX10_table 52 = .ok (.iload_n 3, 1) := by decide +kernel
theorem dX10_table_53 : decode cX10_table 53 = .ok (.invokespecial 36, 3) := by decide +kernel
theorem dX10_table_56 : decode cX10_table 56 = .ok (.aastore, 1) := by decide +kernel
theorem dX10_table_57 : decode cX10_table 57 = .ok (.iconst 1, 1) := by decide +kernel
theorem dX10_table_58 : decode cX10_table 58 = .ok (.ireturn, 1) := by decide +kernel
theorem dX10_put_0 : decode cX10_put 0 = .ok (.aload_n 0, 1) := by decide +kernel
theorem dX10_put_1 : decode cX10_put 1 = .ok (.iload_n 1, 1) := by decide +kernel
theorem dX10_put_2 : decode cX10_put 2 = .ok (.invokevirtual 39, 3) := by decide +kernel
theorem dX10_put_5 : decode cX10_put 5 = .ok (.astore 6, 2) := by decide +kernel
theorem dX10_put_7 : decode cX10_put 7 = .ok (.aload 6, 2) := by decide +kernel
theorem dX10_put_9 : decode cX10_put 9 = .ok (.ifnull 27, 3) := by decide +kernel
theorem dX10_put_12 : decode cX10_put 12 = .ok (.aload 6, 2) := by decide +kernel
theorem dX10_put_14 : decode cX10_put 14 = .ok (.getfield 43, 3) := by decide +kernel
theorem dX10_put_17 : decode cX10_put 17 = .ok (.bipush 60, 2) := by decide +kernel
theorem dX10_put_19 : decode cX10_put 19 = .ok (.if_icmp .ge 17, 3) := by decide +kernel
theorem dX10_put_22 : decode cX10_put 22 = .ok (.aload 6, 2) := by decide +kernel
theorem dX10_put_24 : decode cX10_put 24 = .ok (.iload_n 2, 1) := by decide +kernel
theorem dX10_put_25 : decode cX10_put 25 = .ok (.iload_n 3, 1) := by decide +kernel
theorem dX10_put_26 : decode cX10_put 26 = .ok (.iload 4, 2) := by decide +kernel
theorem dX10_put_28 : decode cX10_put 28 = .ok (.iload 5, 2) := by decide +kernel
theorem dX10_put_30 : decode cX10_put 30 = .ok (.invokevirtual 47, 3) := by decide +kernel
theorem dX10_put_33 : decode cX10_put 33 = .ok (.ifCond .ne 5, 3) := by decide +kernel
theorem dX10_put_36 : decode cX10_put 36 = .ok (.iconst (-1), 1) := by decide +kernel
theorem dX10_put_37 : decode cX10_put 37 = .ok (.ireturn, 1) := by decide +kernel
theorem dX10_put_38 : decode cX10_put 38 = .ok (.aload 6, 2) := by decide +kernel
theorem dX10_put_40 : decode cX10_put 40 = .ok (.iload_n 2, 1) := by decide +kernel
theorem dX10_put_41 : decode cX10_put 41 = .ok (.iload_n 3, 1) := by decide +kernel
theorem dX10_put_42 : decode cX10_put 42 = .ok (.iload 4, 2) := by decide +kernel
theorem dX10_put_44 : decode cX10_put 44 = .ok (.iload 5, 2) := by decide +kernel
theorem dX10_put_46 : decode cX10_put 46 = .ok (.invokevirtual 51, 3) := by decide +kernel
theorem dX10_put_49 : decode cX10_put 49 = .ok (.ireturn, 1) := by decide +kernel
theorem dX10_strike_0 : decode cX10_strike 0 = .ok (.aload_n 0, 1) := by decide +kernel
theorem dX10_strike_1 : decode cX10_strike 1 = .ok (.iload_n 1, 1) := by decide +kernel
theorem dX10_strike_2 : decode cX10_strike 2 = .ok (.invokevirtual 39, 3) := by decide +kernel
theorem dX10_strike_5 : decode cX10_strike 5 = .ok (.astore_n 3, 1) := by decide +kernel
theorem dX10_strike_6 : decode cX10_strike 6 = .ok (.aload_n 3, 1) := by decide +kernel
theorem dX10_strike_7 : decode cX10_strike 7 = .ok (.ifnull 17, 3) := by decide +kernel
theorem dX10_strike_10 : decode cX10_strike 10 = .ok (.iload_n 2, 1) := by decide +kernel
theorem dX10_strike_11 : decode cX10_strike 11 = .ok (.iconst 0, 1) := by decide +kernel
theorem dX10_strike_12 : decode cX10_strike 12 = .ok (.aload_n 3, 1) := by decide +kernel
theorem dX10_strike_13 : decode cX10_strike 13 = .ok (.getfield 43, 3) := by decide +kernel
theorem dX10_strike_16 : decode cX10_strike 16 = .ok (.iconst 1, 1) := by decide +kernel
theorem dX10_strike_17 : decode cX10_strike 17 = .ok (.isub, 1) := by decide +kernel
theorem dX10_strike_18 : decode cX10_strike 18 = .ok (.invokestatic 32, 3) := by decide +kernel
theorem dX10_strike_21 : decode cX10_strike 21 = .ok (.ifCond .ne 5, 3) := by decide +kernel
theorem dX10_strike_24 : decode cX10_strike 24 = .ok (.iconst 0, 1) := by decide +kernel
theorem dX10_strike_25 : decode cX10_strike 25 = .ok (.ireturn, 1) := by decide +kernel
theorem dX10_strike_26 : decode cX10_strike 26 = .ok (.aload_n 3, 1) := by decide +kernel
theorem dX10_strike_27 : decode cX10_strike 27 = .ok (.iload_n 2, 1) := by decide +kernel
theorem dX10_strike_28 : decode cX10_strike 28 = .ok (.invokevirtual 55, 3) := by decide +kernel
theorem dX10_strike_31 : decode cX10_strike 31 = .ok (.iconst 1, 1) := by decide +kernel
theorem dX10_strike_32 : decode cX10_strike 32 = .ok (.ireturn, 1) := by decide +kernel
theorem dX10_recount_0 : decode cX10_recount 0 = .ok (.aload_n 0, 1) := by decide +kernel
theorem dX10_recount_1 : decode cX10_recount 1 = .ok (.iload_n 1, 1) := by decide +kernel
theorem dX10_recount_2 : decode cX10_recount 2 = .ok (.invokevirtual 39, 3) := by decide +kernel
theorem dX10_recount_5 : decode cX10_recount 5 = .ok (.astore_n 2, 1) := by decide +kernel
theorem dX10_recount_6 : decode cX10_recount 6 = .ok (.aload_n 2, 1) := by decide +kernel
theorem dX10_recount_7 : decode cX10_recount 7 = .ok (.ifnonnull 5, 3) := by decide +kernel
theorem dX10_recount_10 : decode cX10_recount 10 = .ok (.iconst (-1), 1) := by decide +kernel
theorem dX10_recount_11 : decode cX10_recount 11 = .ok (.ireturn, 1) := by decide +kernel
theorem dX10_recount_12 : decode cX10_recount 12 = .ok (.aload_n 2, 1) := by decide +kernel
theorem dX10_recount_13 : decode cX10_recount 13 = .ok (.invokevirtual 59, 3) := by decide +kernel
theorem dX10_recount_16 : decode cX10_recount 16 = .ok (.aload_n 2, 1) := by decide +kernel
theorem dX10_recount_17 : decode cX10_recount 17 = .ok (.getfield 62, 3) := by decide +kernel
theorem dX10_recount_20 : decode cX10_recount 20 = .ok (.ireturn, 1) := by decide +kernel
theorem dX10_counts_0 : decode cX10_counts 0 = .ok (.aload_n 0, 1) := by decide +kernel
theorem dX10_counts_1 : decode cX10_counts 1 = .ok (.iload_n 1, 1) := by decide +kernel
theorem dX10_counts_2 : decode cX10_counts 2 = .ok (.invokevirtual 39, 3) := by decide +kernel
theorem dX10_counts_5 : decode cX10_counts 5 = .ok (.astore 4, 2) := by decide +kernel
theorem dX10_counts_7 : decode cX10_counts 7 = .ok (.aload 4, 2) := by decide +kernel
theorem dX10_counts_9 : decode cX10_counts 9 = .ok (.ifnonnull 5, 3) := by decide +kernel
theorem dX10_counts_12 : decode cX10_counts 12 = .ok (.iconst (-1), 1) := by decide +kernel
theorem dX10_counts_13 : decode cX10_counts 13 = .ok (.ireturn, 1) := by decide +kernel
theorem dX10_counts_14 : decode cX10_counts 14 = .ok (.iload_n 3, 1) := by decide +kernel
theorem dX10_counts_15 : decode cX10_counts 15 = .ok (.lookupswitch 51 #[(0, 33), (1, 39), (5, 45)], 33) := by decide +kernel
theorem dX10_counts_48 : decode cX10_counts 48 = .ok (.aload 4, 2) := by decide +kernel
theorem dX10_counts_50 : decode cX10_counts 50 = .ok (.getfield 62, 3) := by decide +kernel
theorem dX10_counts_53 : decode cX10_counts 53 = .ok (.ireturn, 1) := by decide +kernel
theorem dX10_counts_54 : decode cX10_counts 54 = .ok (.aload 4, 2) := by decide +kernel
theorem dX10_counts_56 : decode cX10_counts 56 = .ok (.invokevirtual 65, 3) := by decide +kernel
theorem dX10_counts_59 : decode cX10_counts 59 = .ok (.ireturn, 1) := by decide +kernel
theorem dX10_counts_60 : decode cX10_counts 60 = .ok (.aload 4, 2) := by decide +kernel
theorem dX10_counts_62 : decode cX10_counts 62 = .ok (.getfield 43, 3) := by decide +kernel
theorem dX10_counts_65 : decode cX10_counts 65 = .ok (.ireturn, 1) := by decide +kernel
theorem dX10_counts_66 : decode cX10_counts 66 = .ok (.aload 4, 2) := by decide +kernel
theorem dX10_counts_68 : decode cX10_counts 68 = .ok (.iload_n 2, 1) := by decide +kernel
theorem dX10_counts_69 : decode cX10_counts 69 = .ok (.iload_n 3, 1) := by decide +kernel
theorem dX10_counts_70 : decode cX10_counts 70 = .ok (.invokevirtual 69, 3) := by decide +kernel
theorem dX10_counts_73 : decode cX10_counts 73 = .ok (.ireturn, 1) := by decide +kernel
theorem dX10_changes_0 : decode cX10_changes 0 = .ok (.aload_n 0, 1) := by decide +kernel
theorem dX10_changes_1 : decode cX10_changes 1 = .ok (.iload_n 1, 1) := by decide +kernel
theorem dX10_changes_2 : decode cX10_changes 2 = .ok (.invokevirtual 39, 3) := by decide +kernel
theorem dX10_changes_5 : decode cX10_changes 5 = .ok (.astore_n 3, 1) := by decide +kernel
theorem dX10_changes_6 : decode cX10_changes 6 = .ok (.aload_n 3, 1) := by decide +kernel
theorem dX10_changes_7 : decode cX10_changes 7 = .ok (.ifnull 14, 3) := by decide +kernel
theorem dX10_changes_10 : decode cX10_changes 10 = .ok (.iload_n 2, 1) := by decide +kernel
theorem dX10_changes_11 : decode cX10_changes 11 = .ok (.iconst 0, 1) := by decide +kernel
theorem dX10_changes_12 : decode cX10_changes 12 = .ok (.sipush 1000, 3) := by decide +kernel
theorem dX10_changes_15 : decode cX10_changes 15 = .ok (.invokestatic 32, 3) := by decide +kernel
theorem dX10_changes_18 : decode cX10_changes 18 = .ok (.ifCond .ne 5, 3) := by decide +kernel
theorem dX10_changes_21 : decode cX10_changes 21 = .ok (.iconst 0, 1) := by decide +kernel
theorem dX10_changes_22 : decode cX10_changes 22 = .ok (.ireturn, 1) := by decide +kernel
theorem dX10_changes_23 : decode cX10_changes 23 = .ok (.aload_n 3, 1) := by decide +kernel
theorem dX10_changes_24 : decode cX10_changes 24 = .ok (.iload_n 2, 1) := by decide +kernel
theorem dX10_changes_25 : decode cX10_changes 25 = .ok (.putfield 73, 3) := by decide +kernel
theorem dX10_changes_28 : decode cX10_changes 28 = .ok (.iconst 1, 1) := by decide +kernel
theorem dX10_changes_29 : decode cX10_changes 29 = .ok (.ireturn, 1) := by decide +kernel
theorem dX10_question_0 : decode cX10_question 0 = .ok (.aload_n 0, 1) := by decide +kernel
theorem dX10_question_1 : decode cX10_question 1 = .ok (.iload_n 1, 1) := by decide +kernel
theorem dX10_question_2 : decode cX10_question 2 = .ok (.invokevirtual 39, 3) := by decide +kernel
theorem dX10_question_5 : decode cX10_question 5 = .ok (.astore 5, 2) := by decide +kernel
theorem dX10_question_7 : decode cX10_question 7 = .ok (.aload 5, 2) := by decide +kernel
theorem dX10_question_9 : decode cX10_question 9 = .ok (.ifnull 15, 3) := by decide +kernel
theorem dX10_question_12 : decode cX10_question 12 = .ok (.aload_n 0, 1) := by decide +kernel
theorem dX10_question_13 : decode cX10_question 13 = .ok (.getfield 18, 3) := by decide +kernel
theorem dX10_question_16 : decode cX10_question 16 = .ok (.invokevirtual 76, 3) := by decide +kernel
theorem dX10_question_19 : decode cX10_question 19 = .ok (.bipush 24, 2) := by decide +kernel
theorem dX10_question_21 : decode cX10_question 21 = .ok (.if_icmp .lt 5, 3) := by decide +kernel
theorem dX10_question_24 : decode cX10_question 24 = .ok (.iconst (-1), 1) := by decide +kernel
theorem dX10_question_25 : decode cX10_question 25 = .ok (.ireturn, 1) := by decide +kernel
theorem dX10_question_26 : decode cX10_question 26 = .ok (.aload 5, 2) := by decide +kernel
theorem dX10_question_28 : decode cX10_question 28 = .ok (.iload_n 2, 1) := by decide +kernel
theorem dX10_question_29 : decode cX10_question 29 = .ok (.invokevirtual 79, 3) := by decide +kernel
theorem dX10_question_32 : decode cX10_question 32 = .ok (.ifCond .eq 23, 3) := by decide +kernel
theorem dX10_question_35 : decode cX10_question 35 = .ok (.aload 5, 2) := by decide +kernel
theorem dX10_question_37 : decode cX10_question 37 = .ok (.iload_n 3, 1) := by decide +kernel
theorem dX10_question_38 : decode cX10_question 38 = .ok (.invokevirtual 83, 3) := by decide +kernel
theorem dX10_question_41 : decode cX10_question 41 = .ok (.ifCond .eq 14, 3) := by decide +kernel
theorem dX10_question_44 : decode cX10_question 44 = .ok (.iload 4, 2) := by decide +kernel
theorem dX10_question_46 : decode cX10_question 46 = .ok (.iconst 1, 1) := by decide +kernel
theorem dX10_question_47 : decode cX10_question 47 = .ok (.bipush 100, 2) := by decide +kernel
theorem dX10_question_49 : decode cX10_question 49 = .ok (.invokestatic 32, 3) := by decide +kernel
theorem dX10_question_52 : decode cX10_question 52 = .ok (.ifCond .ne 5, 3) := by decide +kernel
theorem dX10_question_55 : decode cX10_question 55 = .ok (.iconst (-1), 1) := by decide +kernel
theorem dX10_question_56 : decode cX10_question 56 = .ok (.ireturn, 1) := by decide +kernel
theorem dX10_question_57 : decode cX10_question 57 = .ok (.aload_n 0, 1) := by decide +kernel
theorem dX10_question_58 : decode cX10_question 58 = .ok (.getfield 18, 3) := by decide +kernel
theorem dX10_question_61 : decode cX10_question 61 = .ok (.new 86, 3) := by decide +kernel
theorem dX10_question_64 : decode cX10_question 64 = .ok (.dup, 1) := by decide +kernel
theorem dX10_question_65 : decode cX10_question 65 = .ok (.aload 5, 2) := by decide +kernel
theorem dX10_question_67 : decode cX10_question 67 = .ok (.iload_n 2, 1) := by decide +kernel
theorem dX10_question_68 : decode cX10_question 68 = .ok (.iload_n 3, 1) := by decide +kernel
theorem dX10_question_69 : decode cX10_question 69 = .ok (.iload 4, 2) := by decide +kernel
theorem dX10_question_71 : decode cX10_question 71 = .ok (.invokespecial 88, 3) := by decide +kernel
theorem dX10_question_74 : decode cX10_question 74 = .ok (.invokevirtual 91, 3) := by decide +kernel
theorem dX10_question_77 : decode cX10_question 77 = .ok (.pop, 1) := by decide +kernel
theorem dX10_question_78 : decode cX10_question 78 = .ok (.aload_n 0, 1) := by decide +kernel
theorem dX10_question_79 : decode cX10_question 79 = .ok (.getfield 18, 3) := by decide +kernel
theorem dX10_question_82 : decode cX10_question 82 = .ok (.invokevirtual 76, 3) := by decide +kernel
theorem dX10_question_85 : decode cX10_question 85 = .ok (.iconst 1, 1) := by decide +kernel
theorem dX10_question_86 : decode cX10_question 86 = .ok (.isub, 1) := by decide +kernel
theorem dX10_question_87 : decode cX10_question 87 = .ok (.ireturn, 1) := by decide +kernel
theorem dX10_test_0 : decode cX10_test 0 = .ok (.aload_n 0, 1) := by decide +kernel
theorem dX10_test_1 : decode cX10_test 1 = .ok (.iload_n 1, 1) := by decide +kernel
theorem dX10_test_2 : decode cX10_test 2 = .ok (.invokevirtual 95, 3) := by decide +kernel
theorem dX10_test_5 : decode cX10_test 5 = .ok (.astore 5, 2) := by decide +kernel
theorem dX10_test_7 : decode cX10_test 7 = .ok (.aload 5, 2) := by decide +kernel
theorem dX10_test_9 : decode cX10_test 9 = .ok (.ifnull 24, 3) := by decide +kernel
theorem dX10_test_12 : decode cX10_test 12 = .ok (.aload 5, 2) := by decide +kernel
theorem dX10_test_14 : decode cX10_test 14 = .ok (.getfield 99, 3) := by decide +kernel
theorem dX10_test_17 : decode cX10_test 17 = .ok (.iload_n 2, 1) := by decide +kernel
theorem dX10_test_18 : decode cX10_test 18 = .ok (.invokevirtual 103, 3) := by decide +kernel
theorem dX10_test_21 : decode cX10_test 21 = .ok (.ifCond .eq 12, 3) := by decide +kernel
theorem dX10_test_24 : decode cX10_test 24 = .ok (.iload_n 3, 1) := by decide +kernel
theorem dX10_test_25 : decode cX10_test 25 = .ok (.iload 4, 2) := by decide +kernel
theorem dX10_test_27 : decode cX10_test 27 = .ok (.invokestatic 106, 3) := by decide +kernel
theorem dX10_test_30 : decode cX10_test 30 = .ok (.ifCond .ne 5, 3) := by decide +kernel
theorem dX10_test_33 : decode cX10_test 33 = .ok (.iconst 0, 1) := by decide +kernel
theorem dX10_test_34 : decode cX10_test 34 = .ok (.ireturn, 1) := by decide +kernel
theorem dX10_test_35 : decode cX10_test 35 = .ok (.aload 5, 2) := by decide +kernel
theorem dX10_test_37 : decode cX10_test 37 = .ok (.iload_n 2, 1) := by decide +kernel
theorem dX10_test_38 : decode cX10_test 38 = .ok (.iload_n 3, 1) := by decide +kernel
theorem dX10_test_39 : decode cX10_test 39 = .ok (.iload 4, 2) := by decide +kernel
theorem dX10_test_41 : decode cX10_test 41 = .ok (.invokevirtual 110, 3) := by decide +kernel
theorem dX10_test_44 : decode cX10_test 44 = .ok (.iconst 1, 1) := by decide +kernel
theorem dX10_test_45 : decode cX10_test 45 = .ok (.ireturn, 1) := by decide +kernel
theorem dX10_order_0 : decode cX10_order 0 = .ok (.aload_n 0, 1) := by decide +kernel
theorem dX10_order_1 : decode cX10_order 1 = .ok (.iload_n 1, 1) := by decide +kernel
theorem dX10_order_2 : decode cX10_order 2 = .ok (.invokevirtual 113, 3) := by decide +kernel
theorem dX10_order_5 : decode cX10_order 5 = .ok (.astore 7, 2) := by decide +kernel
theorem dX10_order_7 : decode cX10_order 7 = .ok (.aload 7, 2) := by decide +kernel
theorem dX10_order_9 : decode cX10_order 9 = .ok (.ifnull 16, 3) := by decide +kernel
theorem dX10_order_12 : decode cX10_order 12 = .ok (.aload 7, 2) := by decide +kernel
theorem dX10_order_14 : decode cX10_order 14 = .ok (.iload_n 3, 1) := by decide +kernel
theorem dX10_order_15 : decode cX10_order 15 = .ok (.iload 4, 2) := by decide +kernel
theorem dX10_order_17 : decode cX10_order 17 = .ok (.iload 5, 2) := by decide +kernel
theorem dX10_order_19 : decode cX10_order 19 = .ok (.invokestatic 116, 3) := by decide +kernel
theorem dX10_order_22 : decode cX10_order 22 = .ok (.ifCond .ne 5, 3) := by decide +kernel
theorem dX10_order_25 : decode cX10_order 25 = .ok (.iconst (-1), 1) := by decide +kernel
theorem dX10_order_26 : decode cX10_order 26 = .ok (.ireturn, 1) := by decide +kernel
theorem dX10_order_27 : decode cX10_order 27 = .ok (.iload_n 3, 1) := by decide +kernel
theorem dX10_order_28 : decode cX10_order 28 = .ok (.invokestatic 120, 3) := by decide +kernel
theorem dX10_order_31 : decode cX10_order 31 = .ok (.iload 4, 2) := by decide +kernel
theorem dX10_order_33 : decode cX10_order 33 = .ok (.invokestatic 120, 3) := by decide +kernel
theorem dX10_order_36 : decode cX10_order 36 = .ok (.ior, 1) := by decide +kernel
theorem dX10_order_37 : decode cX10_order 37 = .ok (.iload 5, 2) := by decide +kernel
theorem dX10_order_39 : decode cX10_order 39 = .ok (.invokestatic 120, 3) := by decide +kernel
theorem dX10_order_42 : decode cX10_order 42 = .ok (.ior, 1) := by decide +kernel
theorem dX10_order_43 : decode cX10_order 43 = .ok (.istore 8, 2) := by decide +kernel
theorem dX10_order_45 : decode cX10_order 45 = .ok (.iload_n 2, 1) := by decide +kernel
theorem dX10_order_46 : decode cX10_order 46 = .ok (.ifCond .ne 22, 3) := by decide +kernel
theorem dX10_order_49 : decode cX10_order 49 = .ok (.aload_n 0, 1) := by decide +kernel
theorem dX10_order_50 : decode cX10_order 50 = .ok (.new 124, 3) := by decide +kernel
theorem dX10_order_53 : decode cX10_order 53 = .ok (.dup, 1) := by decide +kernel
theorem dX10_order_54 : decode cX10_order 54 = .ok (.aload 7, 2) := by decide +kernel
theorem dX10_order_56 : decode cX10_order 56 = .ok (.iload_n 3, 1) := by decide +kernel
theorem dX10_order_57 : decode cX10_order 57 = .ok (.iload 4, 2) := by decide +kernel
theorem dX10_order_59 : decode cX10_order 59 = .ok (.iload 5, 2) := by decide +kernel
theorem dX10_order_61 : decode cX10_order 61 = .ok (.invokespecial 126, 3) := by decide +kernel
theorem dX10_order_64 : decode cX10_order 64 = .ok (.invokevirtual 127, 3) := by decide +kernel
theorem dX10_order_67 : decode cX10_order 67 = .ok (.ireturn, 1) := by decide +kernel
theorem dX10_order_68 : decode cX10_order 68 = .ok (.iload_n 2, 1) := by decide +kernel
theorem dX10_order_69 : decode cX10_order 69 = .ok (.iconst 1, 1) := by decide +kernel
theorem dX10_order_70 : decode cX10_order 70 = .ok (.if_icmp .ne 44, 3) := by decide +kernel
theorem dX10_order_73 : decode cX10_order 73 = .ok (.aload 7, 2) := by decide +kernel
theorem dX10_order_75 : decode cX10_order 75 = .ok (.iload 6, 2) := by decide +kernel
theorem dX10_order_77 : decode cX10_order 77 = .ok (.invokevirtual 79, 3) := by decide +kernel
theorem dX10_order_80 : decode cX10_order 80 = .ok (.ifCond .eq 34, 3) := by decide +kernel
theorem dX10_order_83 : decode cX10_order 83 = .ok (.iload 6, 2) := by decide +kernel
theorem dX10_order_85 : decode cX10_order 85 = .ok (.iload 8, 2) := by decide +kernel
theorem dX10_order_87 : decode cX10_order 87 = .ok (.iconst (-1), 1) := by decide +kernel
theorem dX10_order_88 : decode cX10_order 88 = .ok (.ixor, 1) := by decide +kernel
theorem dX10_order_89 : decode cX10_order 89 = .ok (.iand, 1) := by decide +kernel
theorem dX10_order_90 : decode cX10_order 90 = .ok (.ifCond .eq 24, 3) := by decide +kernel
theorem dX10_order_93 : decode cX10_order 93 = .ok (.aload_n 0, 1) := by decide +kernel
theorem dX10_order_94 : decode cX10_order 94 = .ok (.new 131, 3) := by decide +kernel
theorem dX10_order_97 : decode cX10_order 97 = .ok (.dup, 1) := by decide +kernel
theorem dX10_order_98 : decode cX10_order 98 = .ok (.aload 7, 2) := by decide +kernel
theorem dX10_order_100 : decode cX10_order 100 = .ok (.iload_n 3, 1) := by decide +kernel
theorem dX10_order_101 : decode cX10_order 101 = .ok (.iload 4, 2) := by decide +kernel
theorem dX10_order_103 : decode cX10_order 103 = .ok (.iload 5, 2) := by decide +kernel
theorem dX10_order_105 : decode cX10_order 105 = .ok (.iload 6, 2) := by decide +kernel
theorem dX10_order_107 : decode cX10_order 107 = .ok (.invokespecial 133, 3) := by decide +kernel
theorem dX10_order_110 : decode cX10_order 110 = .ok (.invokevirtual 127, 3) := by decide +kernel
theorem dX10_order_113 : decode cX10_order 113 = .ok (.ireturn, 1) := by decide +kernel
theorem dX10_order_114 : decode cX10_order 114 = .ok (.iload_n 2, 1) := by decide +kernel
theorem dX10_order_115 : decode cX10_order 115 = .ok (.iconst 4, 1) := by decide +kernel
theorem dX10_order_116 : decode cX10_order 116 = .ok (.if_icmp .ne 22, 3) := by decide +kernel
theorem dX10_order_119 : decode cX10_order 119 = .ok (.aload_n 0, 1) := by decide +kernel
theorem dX10_order_120 : decode cX10_order 120 = .ok (.new 136, 3) := by decide +kernel
theorem dX10_order_123 : decode cX10_order 123 = .ok (.dup, 1) := by decide +kernel
theorem dX10_order_124 : decode cX10_order 124 = .ok (.aload 7, 2) := by decide +kernel
theorem dX10_order_126 : decode cX10_order 126 = .ok (.iload_n 3, 1) := by decide +kernel
theorem dX10_order_127 : decode cX10_order 127 = .ok (.iload 4, 2) := by decide +kernel
theorem dX10_order_129 : decode cX10_order 129 = .ok (.iload 5, 2) := by decide +kernel
theorem dX10_order_131 : decode cX10_order 131 = .ok (.invokespecial 138, 3) := by decide +kernel
theorem dX10_order_134 : decode cX10_order 134 = .ok (.invokevirtual 127, 3) := by decide +kernel
theorem dX10_order_137 : decode cX10_order 137 = .ok (.ireturn, 1) := by decide +kernel
theorem dX10_order_138 : decode cX10_order 138 = .ok (.iconst (-1), 1) := by decide +kernel
theorem dX10_order_139 : decode cX10_order 139 = .ok (.ireturn, 1) := by decide +kernel
theorem dX10_part_0 : decode cX10_part 0 = .ok (.aload_n 0, 1) := by decide +kernel
theorem dX10_part_1 : decode cX10_part 1 = .ok (.iload_n 1, 1) := by decide +kernel
theorem dX10_part_2 : decode cX10_part 2 = .ok (.invokevirtual 113, 3) := by decide +kernel
theorem dX10_part_5 : decode cX10_part 5 = .ok (.astore 7, 2) := by decide +kernel
theorem dX10_part_7 : decode cX10_part 7 = .ok (.aload 7, 2) := by decide +kernel
theorem dX10_part_9 : decode cX10_part 9 = .ok (.ifnull 14, 3) := by decide +kernel
theorem dX10_part_12 : decode cX10_part 12 = .ok (.aload 7, 2) := by decide +kernel
theorem dX10_part_14 : decode cX10_part 14 = .ok (.iload_n 2, 1) := by decide +kernel
theorem dX10_part_15 : decode cX10_part 15 = .ok (.iload_n 3, 1) := by decide +kernel
theorem dX10_part_16 : decode cX10_part 16 = .ok (.iconst (-1), 1) := by decide +kernel
theorem dX10_part_17 : decode cX10_part 17 = .ok (.invokestatic 116, 3) := by decide +kernel
theorem dX10_part_20 : decode cX10_part 20 = .ok (.ifCond .ne 5, 3) := by decide +kernel
theorem dX10_part_23 : decode cX10_part 23 = .ok (.iconst (-1), 1) := by decide +kernel
theorem dX10_part_24 : decode cX10_part 24 = .ok (.ireturn, 1) := by decide +kernel
theorem dX10_part_25 : decode cX10_part 25 = .ok (.aload 7, 2) := by decide +kernel
theorem dX10_part_27 : decode cX10_part 27 = .ok (.iload 4, 2) := by decide +kernel
theorem dX10_part_29 : decode cX10_part 29 = .ok (.invokevirtual 103, 3) := by decide +kernel
theorem dX10_part_32 : decode cX10_part 32 = .ok (.ifCond .eq 13, 3) := by decide +kernel
theorem dX10_part_35 : decode cX10_part 35 = .ok (.iload 5, 2) := by decide +kernel
theorem dX10_part_37 : decode cX10_part 37 = .ok (.iload 6, 2) := by decide +kernel
theorem dX10_part_39 : decode cX10_part 39 = .ok (.invokestatic 106, 3) := by decide +kernel
theorem dX10_part_42 : decode cX10_part 42 = .ok (.ifCond .ne 5, 3) := by decide +kernel
theorem dX10_part_45 : decode cX10_part 45 = .ok (.iconst (-1), 1) := by decide +kernel
theorem dX10_part_46 : decode cX10_part 46 = .ok (.ireturn, 1) := by decide +kernel
theorem dX10_part_47 : decode cX10_part 47 = .ok (.aload_n 0, 1) := by decide +kernel
theorem dX10_part_48 : decode cX10_part 48 = .ok (.new 139, 3) := by decide +kernel
theorem dX10_part_51 : decode cX10_part 51 = .ok (.dup, 1) := by decide +kernel
theorem dX10_part_52 : decode cX10_part 52 = .ok (.aload 7, 2) := by decide +kernel
theorem dX10_part_54 : decode cX10_part 54 = .ok (.iload_n 2, 1) := by decide +kernel
theorem dX10_part_55 : decode cX10_part 55 = .ok (.iload_n 3, 1) := by decide +kernel
theorem dX10_part_56 : decode cX10_part 56 = .ok (.iload 4, 2) := by decide +kernel
theorem dX10_part_58 : decode cX10_part 58 = .ok (.iload 5, 2) := by decide +kernel
theorem dX10_part_60 : decode cX10_part 60 = .ok (.iload 6, 2) := by decide +kernel
theorem dX10_part_62 : decode cX10_part 62 = .ok (.invokespecial 141, 3) := by decide +kernel
theorem dX10_part_65 : decode cX10_part 65 = .ok (.invokevirtual 127, 3) := by decide +kernel
theorem dX10_part_68 : decode cX10_part 68 = .ok (.ireturn, 1) := by decide +kernel
theorem dX10_sums_0 : decode cX10_sums 0 = .ok (.aload_n 0, 1) := by decide +kernel
theorem dX10_sums_1 : decode cX10_sums 1 = .ok (.iload_n 1, 1) := by decide +kernel
theorem dX10_sums_2 : decode cX10_sums 2 = .ok (.invokevirtual 113, 3) := by decide +kernel
theorem dX10_sums_5 : decode cX10_sums 5 = .ok (.astore 4, 2) := by decide +kernel
theorem dX10_sums_7 : decode cX10_sums 7 = .ok (.aload 4, 2) := by decide +kernel
theorem dX10_sums_9 : decode cX10_sums 9 = .ok (.ifnull 21, 3) := by decide +kernel
theorem dX10_sums_12 : decode cX10_sums 12 = .ok (.aload 4, 2) := by decide +kernel
theorem dX10_sums_14 : decode cX10_sums 14 = .ok (.iload_n 2, 1) := by decide +kernel
theorem dX10_sums_15 : decode cX10_sums 15 = .ok (.invokevirtual 79, 3) := by decide +kernel
theorem dX10_sums_18 : decode cX10_sums 18 = .ok (.ifCond .eq 12, 3) := by decide +kernel
theorem dX10_sums_21 : decode cX10_sums 21 = .ok (.aload 4, 2) := by decide +kernel
theorem dX10_sums_23 : decode cX10_sums 23 = .ok (.iload_n 3, 1) := by decide +kernel
theorem dX10_sums_24 : decode cX10_sums 24 = .ok (.invokevirtual 103, 3) := by decide +kernel
theorem dX10_sums_27 : decode cX10_sums 27 = .ok (.ifCond .ne 5, 3) := by decide +kernel
theorem dX10_sums_30 : decode cX10_sums 30 = .ok (.iconst (-1), 1) := by decide +kernel
theorem dX10_sums_31 : decode cX10_sums 31 = .ok (.ireturn, 1) := by decide +kernel
theorem dX10_sums_32 : decode cX10_sums 32 = .ok (.iload_n 2, 1) := by decide +kernel
theorem dX10_sums_33 : decode cX10_sums 33 = .ok (.invokestatic 144, 3) := by decide +kernel
theorem dX10_sums_36 : decode cX10_sums 36 = .ok (.iconst 1, 1) := by decide +kernel
theorem dX10_sums_37 : decode cX10_sums 37 = .ok (.iconst 2, 1) := by decide +kernel
theorem dX10_sums_38 : decode cX10_sums 38 = .ok (.invokestatic 32, 3) := by decide +kernel
theorem dX10_sums_41 : decode cX10_sums 41 = .ok (.ifCond .eq 21, 3) := by decide +kernel
theorem dX10_sums_44 : decode cX10_sums 44 = .ok (.aload_n 0, 1) := by decide +kernel
theorem dX10_sums_45 : decode cX10_sums 45 = .ok (.new 149, 3) := by decide +kernel
theorem dX10_sums_48 : decode cX10_sums 48 = .ok (.dup, 1) := by decide +kernel
theorem dX10_sums_49 : decode cX10_sums 49 = .ok (.aload 4, 2) := by decide +kernel
theorem dX10_sums_51 : decode cX10_sums 51 = .ok (.iload_n 2, 1) := by decide +kernel
theorem dX10_sums_52 : decode cX10_sums 52 = .ok (.iload_n 3, 1) := by decide +kernel
theorem dX10_sums_53 : decode cX10_sums 53 = .ok (.invokespecial 151, 3) := by decide +kernel
theorem dX10_sums_56 : decode cX10_sums 56 = .ok (.invokevirtual 127, 3) := by decide +kernel
theorem dX10_sums_59 : decode cX10_sums 59 = .ok (.goto 4, 3) := by decide +kernel
theorem dX10_sums_62 : decode cX10_sums 62 = .ok (.iconst (-1), 1) := by decide +kernel
theorem dX10_sums_63 : decode cX10_sums 63 = .ok (.ireturn, 1) := by decide +kernel
theorem dX10_build_0 : decode cX10_build 0 = .ok (.aload_n 0, 1) := by decide +kernel
theorem dX10_build_1 : decode cX10_build 1 = .ok (.iload_n 1, 1) := by decide +kernel
theorem dX10_build_2 : decode cX10_build 2 = .ok (.invokevirtual 154, 3) := by decide +kernel
theorem dX10_build_5 : decode cX10_build 5 = .ok (.astore_n 3, 1) := by decide +kernel
theorem dX10_build_6 : decode cX10_build 6 = .ok (.aload_n 3, 1) := by decide +kernel
theorem dX10_build_7 : decode cX10_build 7 = .ok (.ifnull 11, 3) := by decide +kernel
theorem dX10_build_10 : decode cX10_build 10 = .ok (.aload_n 3, 1) := by decide +kernel
theorem dX10_build_11 : decode cX10_build 11 = .ok (.getfield 158, 3) := by decide +kernel
theorem dX10_build_14 : decode cX10_build 14 = .ok (.iload_n 2, 1) := by decide +kernel
theorem dX10_build_15 : decode cX10_build 15 = .ok (.if_icmp .ne 5, 3) := by decide +kernel
theorem dX10_build_18 : decode cX10_build 18 = .ok (.iconst 0, 1) := by decide +kernel
theorem dX10_build_19 : decode cX10_build 19 = .ok (.ireturn, 1) := by decide +kernel
theorem dX10_build_20 : decode cX10_build 20 = .ok (.iload_n 2, 1) := by decide +kernel
theorem dX10_build_21 : decode cX10_build 21 = .ok (.ifCond .eq 21, 3) := by decide +kernel
theorem dX10_build_24 : decode cX10_build 24 = .ok (.aload_n 0, 1) := by decide +kernel
theorem dX10_build_25 : decode cX10_build 25 = .ok (.getfield 22, 3) := by decide +kernel
theorem dX10_build_28 : decode cX10_build 28 = .ok (.iload_n 1, 1) := by decide +kernel
theorem dX10_build_29 : decode cX10_build 29 = .ok (.invokestatic 164, 3) := by decide +kernel
theorem dX10_build_32 : decode cX10_build 32 = .ok (.aload_n 0, 1) := by decide +kernel
theorem dX10_build_33 : decode cX10_build 33 = .ok (.invokevirtual 168, 3) := by decide +kernel
theorem dX10_build_36 : decode cX10_build 36 = .ok (.iand, 1) := by decide +kernel
theorem dX10_build_37 : decode cX10_build 37 = .ok (.ifCond .eq 5, 3) := by decide +kernel
theorem dX10_build_40 : decode cX10_build 40 = .ok (.iconst 0, 1) := by decide +kernel
theorem dX10_build_41 : decode cX10_build 41 = .ok (.ireturn, 1) := by decide +kernel
theorem dX10_build_42 : decode cX10_build 42 = .ok (.aload_n 3, 1) := by decide +kernel
theorem dX10_build_43 : decode cX10_build 43 = .ok (.iload_n 2, 1) := by decide +kernel
theorem dX10_build_44 : decode cX10_build 44 = .ok (.putfield 158, 3) := by decide +kernel
theorem dX10_build_47 : decode cX10_build 47 = .ok (.iconst 1, 1) := by decide +kernel
theorem dX10_build_48 : decode cX10_build 48 = .ok (.ireturn, 1) := by decide +kernel
theorem dX10_look_0 : decode cX10_look 0 = .ok (.aload_n 0, 1) := by decide +kernel
theorem dX10_look_1 : decode cX10_look 1 = .ok (.iload_n 1, 1) := by decide +kernel
theorem dX10_look_2 : decode cX10_look 2 = .ok (.invokevirtual 154, 3) := by decide +kernel
theorem dX10_look_5 : decode cX10_look 5 = .ok (.astore_n 3, 1) := by decide +kernel
theorem dX10_look_6 : decode cX10_look 6 = .ok (.aload_n 3, 1) := by decide +kernel
theorem dX10_look_7 : decode cX10_look 7 = .ok (.ifnonnull 7, 3) := by decide +kernel
theorem dX10_look_10 : decode cX10_look 10 = .ok (.ldc2_w 171, 3) := by decide +kernel
theorem dX10_look_13 : decode cX10_look 13 = .ok (.lreturn, 1) := by decide +kernel
theorem dX10_look_14 : decode cX10_look 14 = .ok (.iload_n 2, 1) := by decide +kernel
theorem dX10_look_15 : decode cX10_look 15 = .ok (.tableswitch 164 0 5 #[37, 43, 52, 58, 71, 107], 37) := by decide +kernel
theorem dX10_look_52 : decode cX10_look 52 = .ok (.aload_n 3, 1) := by decide +kernel
theorem dX10_look_53 : decode cX10_look 53 = .ok (.getfield 173, 3) := by decide +kernel
theorem dX10_look_56 : decode cX10_look 56 = .ok (.i2l, 1) := by decide +kernel
theorem dX10_look_57 : decode cX10_look 57 = .ok (.lreturn, 1) := by decide +kernel
theorem dX10_look_58 : decode cX10_look 58 = .ok (.aload_n 3, 1) := by decide +kernel
theorem dX10_look_59 : decode cX10_look 59 = .ok (.getfield 176, 3) := by decide +kernel
theorem dX10_look_62 : decode cX10_look 62 = .ok (.getfield 177, 3) := by decide +kernel
theorem dX10_look_65 : decode cX10_look 65 = .ok (.i2l, 1) := by decide +kernel
theorem dX10_look_66 : decode cX10_look 66 = .ok (.lreturn, 1) := by decide +kernel
theorem dX10_look_67 : decode cX10_look 67 = .ok (.aload_n 3, 1) := by decide +kernel
theorem dX10_look_68 : decode cX10_look 68 = .ok (.invokevirtual 180, 3) := by decide +kernel
theorem dX10_look_71 : decode cX10_look 71 = .ok (.i2l, 1) := by decide +kernel
theorem dX10_look_72 : decode cX10_look 72 = .ok (.lreturn, 1) := by decide +kernel
theorem dX10_look_73 : decode cX10_look 73 = .ok (.aload_n 3, 1) := by decide +kernel
theorem dX10_look_74 : decode cX10_look 74 = .ok (.getfield 158, 3) := by decide +kernel
theorem dX10_look_77 : decode cX10_look 77 = .ok (.ifCond .eq 7, 3) := by decide +kernel
theorem dX10_look_80 : decode cX10_look 80 = .ok (.lconst 1, 1) := by decide +kernel
theorem dX10_look_81 : decode cX10_look 81 = .ok (.goto 4, 3) := by decide +kernel
theorem dX10_look_84 : decode cX10_look 84 = .ok (.lconst 0, 1) := by decide +kernel
theorem dX10_look_85 : decode cX10_look 85 = .ok (.lreturn, 1) := by decide +kernel
theorem dX10_look_86 : decode cX10_look 86 = .ok (.aload_n 0, 1) := by decide +kernel
theorem dX10_look_87 : decode cX10_look 87 = .ok (.getfield 28, 3) := by decide +kernel
theorem dX10_look_90 : decode cX10_look 90 = .ok (.aload_n 0, 1) := by decide +kernel
theorem dX10_look_91 : decode cX10_look 91 = .ok (.getfield 18, 3) := by decide +kernel
theorem dX10_look_94 : decode cX10_look 94 = .ok (.aload_n 0, 1) := by decide +kernel
theorem dX10_look_95 : decode cX10_look 95 = .ok (.getfield 22, 3) := by decide +kernel
theorem dX10_look_98 : decode cX10_look 98 = .ok (.invokevirtual 183, 3) := by decide +kernel
theorem dX10_look_101 : decode cX10_look 101 = .ok (.aload_n 0, 1) := by decide +kernel
theorem dX10_look_102 : decode cX10_look 102 = .ok (.getfield 28, 3) := by decide +kernel
theorem dX10_look_105 : decode cX10_look 105 = .ok (.iconst 0, 1) := by decide +kernel
theorem dX10_look_106 : decode cX10_look 106 = .ok (.invokevirtual 187, 3) := by decide +kernel
theorem dX10_look_109 : decode cX10_look 109 = .ok (.aload_n 0, 1) := by decide +kernel
theorem dX10_look_110 : decode cX10_look 110 = .ok (.getfield 28, 3) := by decide +kernel
theorem dX10_look_113 : decode cX10_look 113 = .ok (.iload_n 1, 1) := by decide +kernel
theorem dX10_look_114 : decode cX10_look 114 = .ok (.invokestatic 120, 3) := by decide +kernel
theorem dX10_look_117 : decode cX10_look 117 = .ok (.invokevirtual 187, 3) := by decide +kernel
theorem dX10_look_120 : decode cX10_look 120 = .ok (.lsub, 1) := by decide +kernel
theorem dX10_look_121 : decode cX10_look 121 = .ok (.lreturn, 1) := by decide +kernel
theorem dX10_look_122 : decode cX10_look 122 = .ok (.aload_n 3, 1) := by decide +kernel
theorem dX10_look_123 : decode cX10_look 123 = .ok (.getfield 158, 3) := by decide +kernel
theorem dX10_look_126 : decode cX10_look 126 = .ok (.ifCond .ne 7, 3) := by decide +kernel
theorem dX10_look_129 : decode cX10_look 129 = .ok (.ldc2_w 171, 3) := by decide +kernel
theorem dX10_look_132 : decode cX10_look 132 = .ok (.lreturn, 1) := by decide +kernel
theorem dX10_look_133 : decode cX10_look 133 = .ok (.aload_n 0, 1) := by decide +kernel
theorem dX10_look_134 : decode cX10_look 134 = .ok (.getfield 28, 3) := by decide +kernel
theorem dX10_look_137 : decode cX10_look 137 = .ok (.aload_n 0, 1) := by decide +kernel
theorem dX10_look_138 : decode cX10_look 138 = .ok (.getfield 18, 3) := by decide +kernel
theorem dX10_look_141 : decode cX10_look 141 = .ok (.aload_n 0, 1) := by decide +kernel
theorem dX10_look_142 : decode cX10_look 142 = .ok (.getfield 22, 3) := by decide +kernel
theorem dX10_look_145 : decode cX10_look 145 = .ok (.invokevirtual 183, 3) := by decide +kernel
theorem dX10_look_148 : decode cX10_look 148 = .ok (.aload_n 0, 1) := by decide +kernel
theorem dX10_look_149 : decode cX10_look 149 = .ok (.getfield 28, 3) := by decide +kernel
theorem dX10_look_152 : decode cX10_look 152 = .ok (.aload_n 0, 1) := by decide +kernel
theorem dX10_look_153 : decode cX10_look 153 = .ok (.invokevirtual 168, 3) := by decide +kernel
theorem dX10_look_156 : decode cX10_look 156 = .ok (.iload_n 1, 1) := by decide +kernel
theorem dX10_look_157 : decode cX10_look 157 = .ok (.invokestatic 120, 3) := by decide +kernel
theorem dX10_look_160 : decode cX10_look 160 = .ok (.iconst (-1), 1) := by decide +kernel
theorem dX10_look_161 : decode cX10_look 161 = .ok (.ixor, 1) := by decide +kernel
theorem dX10_look_162 : decode cX10_look 162 = .ok (.iand, 1) := by decide +kernel
theorem dX10_look_163 : decode cX10_look 163 = .ok (.invokevirtual 187, 3) := by decide +kernel
theorem dX10_look_166 : decode cX10_look 166 = .ok (.aload_n 0, 1) := by decide +kernel
theorem dX10_look_167 : decode cX10_look 167 = .ok (.getfield 28, 3) := by decide +kernel
theorem dX10_look_170 : decode cX10_look 170 = .ok (.aload_n 0, 1) := by decide +kernel
theorem dX10_look_171 : decode cX10_look 171 = .ok (.invokevirtual 168, 3) := by decide +kernel
theorem dX10_look_174 : decode cX10_look 174 = .ok (.invokevirtual 187, 3) := by decide +kernel
theorem dX10_look_177 : decode cX10_look 177 = .ok (.lsub, 1) := by decide +kernel
theorem dX10_look_178 : decode cX10_look 178 = .ok (.lreturn, 1) := by decide +kernel
theorem dX10_look_179 : decode cX10_look 179 = .ok (.ldc2_w 171, 3) := by decide +kernel
theorem dX10_look_182 : decode cX10_look 182 = .ok (.lreturn, 1) := by decide +kernel
theorem dX10_cost_0 : decode cX10_cost 0 = .ok (.aload_n 0, 1) := by decide +kernel
theorem dX10_cost_1 : decode cX10_cost 1 = .ok (.iload_n 1, 1) := by decide +kernel
theorem dX10_cost_2 : decode cX10_cost 2 = .ok (.invokevirtual 95, 3) := by decide +kernel
theorem dX10_cost_5 : decode cX10_cost 5 = .ok (.astore_n 3, 1) := by decide +kernel
theorem dX10_cost_6 : decode cX10_cost 6 = .ok (.aload_n 3, 1) := by decide +kernel
theorem dX10_cost_7 : decode cX10_cost 7 = .ok (.ifnonnull 5, 3) := by decide +kernel
theorem dX10_cost_10 : decode cX10_cost 10 = .ok (.iconst (-1), 1) := by decide +kernel
theorem dX10_cost_11 : decode cX10_cost 11 = .ok (.ireturn, 1) := by decide +kernel
theorem dX10_cost_12 : decode cX10_cost 12 = .ok (.iload_n 2, 1) := by decide +kernel
theorem dX10_cost_13 : decode cX10_cost 13 = .ok (.iconst (-1), 1) := by decide +kernel
theorem dX10_cost_14 : decode cX10_cost 14 = .ok (.if_icmp .ne 11, 3) := by decide +kernel
theorem dX10_cost_17 : decode cX10_cost 17 = .ok (.aload_n 3, 1) := by decide +kernel
theorem dX10_cost_18 : decode cX10_cost 18 = .ok (.getfield 99, 3) := by decide +kernel
theorem dX10_cost_21 : decode cX10_cost 21 = .ok (.invokevirtual 65, 3) := by decide +kernel
theorem dX10_cost_24 : decode cX10_cost 24 = .ok (.ireturn, 1) := by decide +kernel
theorem dX10_cost_25 : decode cX10_cost 25 = .ok (.aload_n 0, 1) := by decide +kernel
theorem dX10_cost_26 : decode cX10_cost 26 = .ok (.iload_n 2, 1) := by decide +kernel
theorem dX10_cost_27 : decode cX10_cost 27 = .ok (.invokevirtual 154, 3) := by decide +kernel
theorem dX10_cost_30 : decode cX10_cost 30 = .ok (.astore 4, 2) := by decide +kernel
theorem dX10_cost_32 : decode cX10_cost 32 = .ok (.aload 4, 2) := by decide +kernel
theorem dX10_cost_34 : decode cX10_cost 34 = .ok (.ifnull 24, 3) := by decide +kernel
theorem dX10_cost_37 : decode cX10_cost 37 = .ok (.aload 4, 2) := by decide +kernel
theorem dX10_cost_39 : decode cX10_cost 39 = .ok (.getfield 176, 3) := by decide +kernel
theorem dX10_cost_42 : decode cX10_cost 42 = .ok (.aload_n 3, 1) := by decide +kernel
theorem dX10_cost_43 : decode cX10_cost 43 = .ok (.getfield 99, 3) := by decide +kernel
theorem dX10_cost_46 : decode cX10_cost 46 = .ok (.if_acmp .ne 12, 3) := by decide +kernel
theorem dX10_cost_49 : decode cX10_cost 49 = .ok (.aload 4, 2) := by decide +kernel
theorem dX10_cost_51 : decode cX10_cost 51 = .ok (.aload_n 3, 1) := by decide +kernel
theorem dX10_cost_52 : decode cX10_cost 52 = .ok (.invokevirtual 191, 3) := by decide +kernel
theorem dX10_cost_55 : decode cX10_cost 55 = .ok (.ifCond .ne 5, 3) := by decide +kernel
theorem dX10_cost_58 : decode cX10_cost 58 = .ok (.iconst (-1), 1) := by decide +kernel
theorem dX10_cost_59 : decode cX10_cost 59 = .ok (.ireturn, 1) := by decide +kernel
theorem dX10_cost_60 : decode cX10_cost 60 = .ok (.aload 4, 2) := by decide +kernel
theorem dX10_cost_62 : decode cX10_cost 62 = .ok (.aload_n 3, 1) := by decide +kernel
theorem dX10_cost_63 : decode cX10_cost 63 = .ok (.invokevirtual 195, 3) := by decide +kernel
theorem dX10_cost_66 : decode cX10_cost 66 = .ok (.ireturn, 1) := by decide +kernel
theorem dX10_plan_0 : decode cX10_plan 0 = .ok (.aload_n 0, 1) := by decide +kernel
theorem dX10_plan_1 : decode cX10_plan 1 = .ok (.iload_n 1, 1) := by decide +kernel
theorem dX10_plan_2 : decode cX10_plan 2 = .ok (.invokevirtual 95, 3) := by decide +kernel
theorem dX10_plan_5 : decode cX10_plan 5 = .ok (.astore_n 2, 1) := by decide +kernel
theorem dX10_plan_6 : decode cX10_plan 6 = .ok (.aload_n 2, 1) := by decide +kernel
theorem dX10_plan_7 : decode cX10_plan 7 = .ok (.ifnonnull 6, 3) := by decide +kernel
theorem dX10_plan_10 : decode cX10_plan 10 = .ok (.bipush (-2), 2) := by decide +kernel
theorem dX10_plan_12 : decode cX10_plan 12 = .ok (.ireturn, 1) := by decide +kernel
theorem dX10_plan_13 : decode cX10_plan 13 = .ok (.iconst (-1), 1) := by decide +kernel
theorem dX10_plan_14 : decode cX10_plan 14 = .ok (.istore_n 3, 1) := by decide +kernel
theorem dX10_plan_15 : decode cX10_plan 15 = .ok (.aload_n 0, 1) := by decide +kernel
theorem dX10_plan_16 : decode cX10_plan 16 = .ok (.iload_n 1, 1) := by decide +kernel
theorem dX10_plan_17 : decode cX10_plan 17 = .ok (.iconst (-1), 1) := by decide +kernel
theorem dX10_plan_18 : decode cX10_plan 18 = .ok (.invokevirtual 199, 3) := by decide +kernel
theorem dX10_plan_21 : decode cX10_plan 21 = .ok (.istore 4, 2) := by decide +kernel
theorem dX10_plan_23 : decode cX10_plan 23 = .ok (.iconst 0, 1) := by decide +kernel
theorem dX10_plan_24 : decode cX10_plan 24 = .ok (.istore 5, 2) := by decide +kernel
theorem dX10_plan_26 : decode cX10_plan 26 = .ok (.iload 5, 2) := by decide +kernel
theorem dX10_plan_28 : decode cX10_plan 28 = .ok (.aload_n 0, 1) := by decide +kernel
theorem dX10_plan_29 : decode cX10_plan 29 = .ok (.getfield 22, 3) := by decide +kernel
theorem dX10_plan_32 : decode cX10_plan 32 = .ok (.invokevirtual 76, 3) := by decide +kernel
theorem dX10_plan_35 : decode cX10_plan 35 = .ok (.if_icmp .ge 60, 3) := by decide +kernel
theorem dX10_plan_38 : decode cX10_plan 38 = .ok (.aload_n 0, 1) := by decide +kernel
theorem dX10_plan_39 : decode cX10_plan 39 = .ok (.getfield 22, 3) := by decide +kernel
theorem dX10_plan_42 : decode cX10_plan 42 = .ok (.iload 5, 2) := by decide +kernel
theorem dX10_plan_44 : decode cX10_plan 44 = .ok (.invokevirtual 202, 3) := by decide +kernel
theorem dX10_plan_47 : decode cX10_plan 47 = .ok (.checkcast 159, 3) := by decide +kernel
theorem dX10_plan_50 : decode cX10_plan 50 = .ok (.getfield 158, 3) := by decide +kernel
theorem dX10_plan_53 : decode cX10_plan 53 = .ok (.ifCond .eq 13, 3) := by decide +kernel
theorem dX10_plan_56 : decode cX10_plan 56 = .ok (.aload_n 0, 1) := by decide +kernel
theorem dX10_plan_57 : decode cX10_plan 57 = .ok (.iload_n 1, 1) := by decide +kernel
theorem dX10_plan_58 : decode cX10_plan 58 = .ok (.iload 5, 2) := by decide +kernel
theorem dX10_plan_60 : decode cX10_plan 60 = .ok (.invokevirtual 199, 3) := by decide +kernel
theorem dX10_plan_63 : decode cX10_plan 63 = .ok (.goto 4, 3) := by decide +kernel
theorem dX10_plan_66 : decode cX10_plan 66 = .ok (.iconst (-1), 1) := by decide +kernel
theorem dX10_plan_67 : decode cX10_plan 67 = .ok (.istore 6, 2) := by decide +kernel
theorem dX10_plan_69 : decode cX10_plan 69 = .ok (.iload 6, 2) := by decide +kernel
theorem dX10_plan_71 : decode cX10_plan 71 = .ok (.iconst (-1), 1) := by decide +kernel
theorem dX10_plan_72 : decode cX10_plan 72 = .ok (.if_icmp .eq 17, 3) := by decide +kernel
theorem dX10_plan_75 : decode cX10_plan 75 = .ok (.iload 6, 2) := by decide +kernel
theorem dX10_plan_77 : decode cX10_plan 77 = .ok (.iload 4, 2) := by decide +kernel
theorem dX10_plan_79 : decode cX10_plan 79 = .ok (.if_icmp .ge 10, 3) := by decide +kernel
theorem dX10_plan_82 : decode cX10_plan 82 = .ok (.iload 5, 2) := by decide +kernel
theorem dX10_plan_84 : decode cX10_plan 84 = .ok (.istore_n 3, 1) := by decide +kernel
theorem dX10_plan_85 : decode cX10_plan 85 = .ok (.iload 6, 2) := by decide +kernel
theorem dX10_plan_87 : decode cX10_plan 87 = .ok (.istore 4, 2) := by decide +kernel
theorem dX10_plan_89 : decode cX10_plan 89 = .ok (.iinc 5 1, 3) := by decide +kernel
theorem dX10_plan_92 : decode cX10_plan 92 = .ok (.goto (-66), 3) := by decide +kernel
theorem dX10_plan_95 : decode cX10_plan 95 = .ok (.iload_n 3, 1) := by decide +kernel
theorem dX10_plan_96 : decode cX10_plan 96 = .ok (.ireturn, 1) := by decide +kernel
theorem dX10_run_0 : decode cX10_run 0 = .ok (.aload_n 0, 1) := by decide +kernel
theorem dX10_run_1 : decode cX10_run 1 = .ok (.iload_n 1, 1) := by decide +kernel
theorem dX10_run_2 : decode cX10_run 2 = .ok (.invokevirtual 95, 3) := by decide +kernel
theorem dX10_run_5 : decode cX10_run 5 = .ok (.astore_n 3, 1) := by decide +kernel
theorem dX10_run_6 : decode cX10_run 6 = .ok (.aload_n 3, 1) := by decide +kernel
theorem dX10_run_7 : decode cX10_run 7 = .ok (.ifnonnull 5, 3) := by decide +kernel
theorem dX10_run_10 : decode cX10_run 10 = .ok (.iconst (-1), 1) := by decide +kernel
theorem dX10_run_11 : decode cX10_run 11 = .ok (.ireturn, 1) := by decide +kernel
theorem dX10_run_12 : decode cX10_run 12 = .ok (.iload_n 2, 1) := by decide +kernel
theorem dX10_run_13 : decode cX10_run 13 = .ok (.tableswitch 85 0 3 #[31, 36, 41, 74], 31) := by decide +kernel
theorem dX10_run_44 : decode cX10_run 44 = .ok (.aload_n 3, 1) := by decide +kernel
theorem dX10_run_45 : decode cX10_run 45 = .ok (.invokevirtual 206, 3) := by decide +kernel
theorem dX10_run_48 : decode cX10_run 48 = .ok (.ireturn, 1) := by decide +kernel
theorem dX10_run_49 : decode cX10_run 49 = .ok (.aload_n 3, 1) := by decide +kernel
theorem dX10_run_50 : decode cX10_run 50 = .ok (.invokevirtual 209, 3) := by decide +kernel
theorem dX10_run_53 : decode cX10_run 53 = .ok (.ireturn, 1) := by decide +kernel
theorem dX10_run_54 : decode cX10_run 54 = .ok (.aload_n 0, 1) := by decide +kernel
theorem dX10_run_55 : decode cX10_run 55 = .ok (.aload_n 0, 1) := by decide +kernel
theorem dX10_run_56 : decode cX10_run 56 = .ok (.iload_n 1, 1) := by decide +kernel
theorem dX10_run_57 : decode cX10_run 57 = .ok (.invokevirtual 212, 3) := by decide +kernel
theorem dX10_run_60 : decode cX10_run 60 = .ok (.invokevirtual 154, 3) := by decide +kernel
theorem dX10_run_63 : decode cX10_run 63 = .ok (.astore 4, 2) := by decide +kernel
theorem dX10_run_65 : decode cX10_run 65 = .ok (.aload 4, 2) := by decide +kernel
theorem dX10_run_67 : decode cX10_run 67 = .ok (.ifnonnull 13, 3) := by decide +kernel
theorem dX10_run_70 : decode cX10_run 70 = .ok (.aload_n 3, 1) := by decide +kernel
theorem dX10_run_71 : decode cX10_run 71 = .ok (.getfield 99, 3) := by decide +kernel
theorem dX10_run_74 : decode cX10_run 74 = .ok (.invokevirtual 215, 3) := by decide +kernel
theorem dX10_run_77 : decode cX10_run 77 = .ok (.goto 9, 3) := by decide +kernel
theorem dX10_run_80 : decode cX10_run 80 = .ok (.aload 4, 2) := by decide +kernel
theorem dX10_run_82 : decode cX10_run 82 = .ok (.aload_n 3, 1) := by decide +kernel
theorem dX10_run_83 : decode cX10_run 83 = .ok (.invokevirtual 218, 3) := by decide +kernel
theorem dX10_run_86 : decode cX10_run 86 = .ok (.ireturn, 1) := by decide +kernel
theorem dX10_run_87 : decode cX10_run 87 = .ok (.aload_n 0, 1) := by decide +kernel
theorem dX10_run_88 : decode cX10_run 88 = .ok (.iload_n 1, 1) := by decide +kernel
theorem dX10_run_89 : decode cX10_run 89 = .ok (.aload_n 0, 1) := by decide +kernel
theorem dX10_run_90 : decode cX10_run 90 = .ok (.iload_n 1, 1) := by decide +kernel
theorem dX10_run_91 : decode cX10_run 91 = .ok (.invokevirtual 212, 3) := by decide +kernel
theorem dX10_run_94 : decode cX10_run 94 = .ok (.invokevirtual 199, 3) := by decide +kernel
theorem dX10_run_97 : decode cX10_run 97 = .ok (.ireturn, 1) := by decide +kernel
theorem dX10_run_98 : decode cX10_run 98 = .ok (.iconst (-1), 1) := by decide +kernel
theorem dX10_run_99 : decode cX10_run 99 = .ok (.ireturn, 1) := by decide +kernel
theorem dX10_total_0 : decode cX10_total 0 = .ok (.aload_n 0, 1) := by decide +kernel
theorem dX10_total_1 : decode cX10_total 1 = .ok (.iload_n 1, 1) := by decide +kernel
theorem dX10_total_2 : decode cX10_total 2 = .ok (.invokevirtual 221, 3) := by decide +kernel
theorem dX10_total_5 : decode cX10_total 5 = .ok (.ifCond .ne 7, 3) := by decide +kernel
theorem dX10_total_8 : decode cX10_total 8 = .ok (.ldc2_w 171, 3) := by decide +kernel
theorem dX10_total_11 : decode cX10_total 11 = .ok (.lreturn, 1) := by decide +kernel
theorem dX10_total_12 : decode cX10_total 12 = .ok (.aload_n 0, 1) := by decide +kernel
theorem dX10_total_13 : decode cX10_total 13 = .ok (.getfield 28, 3) := by decide +kernel
theorem dX10_total_16 : decode cX10_total 16 = .ok (.aload_n 0, 1) := by decide +kernel
theorem dX10_total_17 : decode cX10_total 17 = .ok (.getfield 18, 3) := by decide +kernel
theorem dX10_total_20 : decode cX10_total 20 = .ok (.aload_n 0, 1) := by decide +kernel
theorem dX10_total_21 : decode cX10_total 21 = .ok (.getfield 22, 3) := by decide +kernel
theorem dX10_total_24 : decode cX10_total 24 = .ok (.invokevirtual 183, 3) := by decide +kernel
theorem dX10_total_27 : decode cX10_total 27 = .ok (.aload_n 0, 1) := by decide +kernel
theorem dX10_total_28 : decode cX10_total 28 = .ok (.getfield 28, 3) := by decide +kernel
theorem dX10_total_31 : decode cX10_total 31 = .ok (.iload_n 1, 1) := by decide +kernel
theorem dX10_total_32 : decode cX10_total 32 = .ok (.invokevirtual 187, 3) := by decide +kernel
theorem dX10_total_35 : decode cX10_total 35 = .ok (.lreturn, 1) := by decide +kernel
theorem dX10_room_0 : decode cX10_room 0 = .ok (.aload_n 0, 1) := by decide +kernel
theorem dX10_room_1 : decode cX10_room 1 = .ok (.iload_n 1, 1) := by decide +kernel
theorem dX10_room_2 : decode cX10_room 2 = .ok (.invokevirtual 221, 3) := by decide +kernel
theorem dX10_room_5 : decode cX10_room 5 = .ok (.ifCond .ne 5, 3) := by decide +kernel
theorem dX10_room_8 : decode cX10_room 8 = .ok (.iconst (-1), 1) := by decide +kernel
theorem dX10_room_9 : decode cX10_room 9 = .ok (.ireturn, 1) := by decide +kernel
theorem dX10_room_10 : decode cX10_room 10 = .ok (.iconst 0, 1) := by decide +kernel
theorem dX10_room_11 : decode cX10_room 11 = .ok (.istore_n 2, 1) := by decide +kernel
theorem dX10_room_12 : decode cX10_room 12 = .ok (.iconst 0, 1) := by decide +kernel
theorem dX10_room_13 : decode cX10_room 13 = .ok (.istore_n 3, 1) := by decide +kernel
theorem dX10_room_14 : decode cX10_room 14 = .ok (.iload_n 3, 1) := by decide +kernel
theorem dX10_room_15 : decode cX10_room 15 = .ok (.aload_n 0, 1) := by decide +kernel
theorem dX10_room_16 : decode cX10_room 16 = .ok (.getfield 22, 3) := by decide +kernel
theorem dX10_room_19 : decode cX10_room 19 = .ok (.invokevirtual 76, 3) := by decide +kernel
theorem dX10_room_22 : decode cX10_room 22 = .ok (.if_icmp .ge 38, 3) := by decide +kernel
theorem dX10_room_25 : decode cX10_room 25 = .ok (.iload_n 2, 1) := by decide +kernel
theorem dX10_room_26 : decode cX10_room 26 = .ok (.iload_n 3, 1) := by decide +kernel
theorem dX10_room_27 : decode cX10_room 27 = .ok (.iload_n 1, 1) := by decide +kernel
theorem dX10_room_28 : decode cX10_room 28 = .ok (.invokestatic 224, 3) := by decide +kernel
theorem dX10_room_31 : decode cX10_room 31 = .ok (.ifCond .eq 20, 3) := by decide +kernel
theorem dX10_room_34 : decode cX10_room 34 = .ok (.aload_n 0, 1) := by decide +kernel
theorem dX10_room_35 : decode cX10_room 35 = .ok (.getfield 22, 3) := by decide +kernel
theorem dX10_room_38 : decode cX10_room 38 = .ok (.iload_n 3, 1) := by decide +kernel
theorem dX10_room_39 : decode cX10_room 39 = .ok (.invokevirtual 202, 3) := by decide +kernel
theorem dX10_room_42 : decode cX10_room 42 = .ok (.checkcast 159, 3) := by decide +kernel
theorem dX10_room_45 : decode cX10_room 45 = .ok (.invokevirtual 180, 3) := by decide +kernel
theorem dX10_room_48 : decode cX10_room 48 = .ok (.goto 4, 3) := by decide +kernel
theorem dX10_room_51 : decode cX10_room 51 = .ok (.iconst 0, 1) := by decide +kernel
theorem dX10_room_52 : decode cX10_room 52 = .ok (.iadd, 1) := by decide +kernel
theorem dX10_room_53 : decode cX10_room 53 = .ok (.istore_n 2, 1) := by decide +kernel
theorem dX10_room_54 : decode cX10_room 54 = .ok (.iinc 3 1, 3) := by decide +kernel
theorem dX10_room_57 : decode cX10_room 57 = .ok (.goto (-43), 3) := by decide +kernel
theorem dX10_room_60 : decode cX10_room 60 = .ok (.iload_n 2, 1) := by decide +kernel
theorem dX10_room_61 : decode cX10_room 61 = .ok (.ireturn, 1) := by decide +kernel
theorem dX10_built_0 : decode cX10_built 0 = .ok (.iconst 0, 1) := by decide +kernel
theorem dX10_built_1 : decode cX10_built 1 = .ok (.istore_n 1, 1) := by decide +kernel
theorem dX10_built_2 : decode cX10_built 2 = .ok (.iconst 0, 1) := by decide +kernel
theorem dX10_built_3 : decode cX10_built 3 = .ok (.istore_n 2, 1) := by decide +kernel
theorem dX10_built_4 : decode cX10_built 4 = .ok (.iload_n 2, 1) := by decide +kernel
theorem dX10_built_5 : decode cX10_built 5 = .ok (.aload_n 0, 1) := by decide +kernel
theorem dX10_built_6 : decode cX10_built 6 = .ok (.getfield 22, 3) := by decide +kernel
theorem dX10_built_9 : decode cX10_built 9 = .ok (.invokevirtual 76, 3) := by decide +kernel
theorem dX10_built_12 : decode cX10_built 12 = .ok (.if_icmp .ge 37, 3) := by decide +kernel
theorem dX10_built_15 : decode cX10_built 15 = .ok (.iload_n 1, 1) := by decide +kernel
theorem dX10_built_16 : decode cX10_built 16 = .ok (.aload_n 0, 1) := by decide +kernel
theorem dX10_built_17 : decode cX10_built 17 = .ok (.getfield 22, 3) := by decide +kernel
theorem dX10_built_20 : decode cX10_built 20 = .ok (.iload_n 2, 1) := by decide +kernel
theorem dX10_built_21 : decode cX10_built 21 = .ok (.invokevirtual 202, 3) := by decide +kernel
theorem dX10_built_24 : decode cX10_built 24 = .ok (.checkcast 159, 3) := by decide +kernel
theorem dX10_built_27 : decode cX10_built 27 = .ok (.getfield 158, 3) := by decide +kernel
theorem dX10_built_30 : decode cX10_built 30 = .ok (.ifCond .eq 10, 3) := by decide +kernel
theorem dX10_built_33 : decode cX10_built 33 = .ok (.iload_n 2, 1) := by decide +kernel
theorem dX10_built_34 : decode cX10_built 34 = .ok (.invokestatic 120, 3) := by decide +kernel
theorem dX10_built_37 : decode cX10_built 37 = .ok (.goto 4, 3) := by decide +kernel
theorem dX10_built_40 : decode cX10_built 40 = .ok (.iconst 0, 1) := by decide +kernel
theorem dX10_built_41 : decode cX10_built 41 = .ok (.ior, 1) := by decide +kernel
theorem dX10_built_42 : decode cX10_built 42 = .ok (.istore_n 1, 1) := by decide +kernel
theorem dX10_built_43 : decode cX10_built 43 = .ok (.iinc 2 1, 3) := by decide +kernel
theorem dX10_built_46 : decode cX10_built 46 = .ok (.goto (-42), 3) := by decide +kernel
theorem dX10_built_49 : decode cX10_built 49 = .ok (.iload_n 1, 1) := by decide +kernel
theorem dX10_built_50 : decode cX10_built 50 = .ok (.ireturn, 1) := by decide +kernel
theorem dX10_choose_0 : decode cX10_choose 0 = .ok (.iload_n 1, 1) := by decide +kernel
theorem dX10_choose_1 : decode cX10_choose 1 = .ok (.iconst 0, 1) := by decide +kernel
theorem dX10_choose_2 : decode cX10_choose 2 = .ok (.sipush 10000, 3) := by decide +kernel
theorem dX10_choose_5 : decode cX10_choose 5 = .ok (.invokestatic 32, 3) := by decide +kernel
theorem dX10_choose_8 : decode cX10_choose 8 = .ok (.ifCond .ne 5, 3) := by decide +kernel
theorem dX10_choose_11 : decode cX10_choose 11 = .ok (.iconst (-1), 1) := by decide +kernel
theorem dX10_choose_12 : decode cX10_choose 12 = .ok (.ireturn, 1) := by decide +kernel
theorem dX10_choose_13 : decode cX10_choose 13 = .ok (.aload_n 0, 1) := by decide +kernel
theorem dX10_choose_14 : decode cX10_choose 14 = .ok (.getfield 28, 3) := by decide +kernel
theorem dX10_choose_17 : decode cX10_choose 17 = .ok (.aload_n 0, 1) := by decide +kernel
theorem dX10_choose_18 : decode cX10_choose 18 = .ok (.getfield 18, 3) := by decide +kernel
theorem dX10_choose_21 : decode cX10_choose 21 = .ok (.aload_n 0, 1) := by decide +kernel
theorem dX10_choose_22 : decode cX10_choose 22 = .ok (.getfield 22, 3) := by decide +kernel
theorem dX10_choose_25 : decode cX10_choose 25 = .ok (.invokevirtual 183, 3) := by decide +kernel
theorem dX10_choose_28 : decode cX10_choose 28 = .ok (.aload_n 0, 1) := by decide +kernel
theorem dX10_choose_29 : decode cX10_choose 29 = .ok (.getfield 28, 3) := by decide +kernel
theorem dX10_choose_32 : decode cX10_choose 32 = .ok (.iload_n 1, 1) := by decide +kernel
theorem dX10_choose_33 : decode cX10_choose 33 = .ok (.invokevirtual 227, 3) := by decide +kernel
theorem dX10_choose_36 : decode cX10_choose 36 = .ok (.ireturn, 1) := by decide +kernel
theorem dX10_greedy_0 : decode cX10_greedy 0 = .ok (.iload_n 1, 1) := by decide +kernel
theorem dX10_greedy_1 : decode cX10_greedy 1 = .ok (.iconst 0, 1) := by decide +kernel
theorem dX10_greedy_2 : decode cX10_greedy 2 = .ok (.sipush 10000, 3) := by decide +kernel
theorem dX10_greedy_5 : decode cX10_greedy 5 = .ok (.invokestatic 32, 3) := by decide +kernel
theorem dX10_greedy_8 : decode cX10_greedy 8 = .ok (.ifCond .ne 5, 3) := by decide +kernel
theorem dX10_greedy_11 : decode cX10_greedy 11 = .ok (.iconst (-1), 1) := by decide +kernel
theorem dX10_greedy_12 : decode cX10_greedy 12 = .ok (.ireturn, 1) := by decide +kernel
theorem dX10_greedy_13 : decode cX10_greedy 13 = .ok (.aload_n 0, 1) := by decide +kernel
theorem dX10_greedy_14 : decode cX10_greedy 14 = .ok (.getfield 28, 3) := by decide +kernel
theorem dX10_greedy_17 : decode cX10_greedy 17 = .ok (.aload_n 0, 1) := by decide +kernel
theorem dX10_greedy_18 : decode cX10_greedy 18 = .ok (.getfield 18, 3) := by decide +kernel
theorem dX10_greedy_21 : decode cX10_greedy 21 = .ok (.aload_n 0, 1) := by decide +kernel
theorem dX10_greedy_22 : decode cX10_greedy 22 = .ok (.getfield 22, 3) := by decide +kernel
theorem dX10_greedy_25 : decode cX10_greedy 25 = .ok (.invokevirtual 183, 3) := by decide +kernel
theorem dX10_greedy_28 : decode cX10_greedy 28 = .ok (.aload_n 0, 1) := by decide +kernel
theorem dX10_greedy_29 : decode cX10_greedy 29 = .ok (.getfield 28, 3) := by decide +kernel
theorem dX10_greedy_32 : decode cX10_greedy 32 = .ok (.iload_n 1, 1) := by decide +kernel
theorem dX10_greedy_33 : decode cX10_greedy 33 = .ok (.invokevirtual 230, 3) := by decide +kernel
theorem dX10_greedy_36 : decode cX10_greedy 36 = .ok (.ireturn, 1) := by decide +kernel
theorem dX10_count_0 : decode cX10_count 0 = .ok (.iload_n 1, 1) := by decide +kernel
theorem dX10_count_1 : decode cX10_count 1 = .ok (.tableswitch 57 0 3 #[31, 36, 44, 52], 31) := by decide +kernel
theorem dX10_count_32 : decode cX10_count 32 = .ok (.aload_n 0, 1) := by decide +kernel
theorem dX10_count_33 : decode cX10_count 33 = .ok (.invokevirtual 233, 3) := by decide +kernel
theorem dX10_count_36 : decode cX10_count 36 = .ok (.ireturn, 1) := by decide +kernel
theorem dX10_count_37 : decode cX10_count 37 = .ok (.aload_n 0, 1) := by decide +kernel
theorem dX10_count_38 : decode cX10_count 38 = .ok (.getfield 18, 3) := by decide +kernel
theorem dX10_count_41 : decode cX10_count 41 = .ok (.invokevirtual 76, 3) := by decide +kernel
theorem dX10_count_44 : decode cX10_count 44 = .ok (.ireturn, 1) := by decide +kernel
theorem dX10_count_45 : decode cX10_count 45 = .ok (.aload_n 0, 1) := by decide +kernel
theorem dX10_count_46 : decode cX10_count 46 = .ok (.getfield 22, 3) := by decide +kernel
theorem dX10_count_49 : decode cX10_count 49 = .ok (.invokevirtual 76, 3) := by decide +kernel
theorem dX10_count_52 : decode cX10_count 52 = .ok (.ireturn, 1) := by decide +kernel
theorem dX10_count_53 : decode cX10_count 53 = .ok (.aload_n 0, 1) := by decide +kernel
theorem dX10_count_54 : decode cX10_count 54 = .ok (.invokevirtual 236, 3) := by decide +kernel
theorem dX10_count_57 : decode cX10_count 57 = .ok (.ireturn, 1) := by decide +kernel
theorem dX10_count_58 : decode cX10_count 58 = .ok (.iconst (-1), 1) := by decide +kernel
theorem dX10_count_59 : decode cX10_count 59 = .ok (.ireturn, 1) := by decide +kernel
theorem dX10_tableAt_0 : decode cX10_tableAt 0 = .ok (.iload_n 1, 1) := by decide +kernel
theorem dX10_tableAt_1 : decode cX10_tableAt 1 = .ok (.iconst 0, 1) := by decide +kernel
theorem dX10_tableAt_2 : decode cX10_tableAt 2 = .ok (.iconst 3, 1) := by decide +kernel
theorem dX10_tableAt_3 : decode cX10_tableAt 3 = .ok (.invokestatic 32, 3) := by decide +kernel
theorem dX10_tableAt_6 : decode cX10_tableAt 6 = .ok (.ifCond .eq 12, 3) := by decide +kernel
theorem dX10_tableAt_9 : decode cX10_tableAt 9 = .ok (.aload_n 0, 1) := by decide +kernel
theorem dX10_tableAt_10 : decode cX10_tableAt 10 = .ok (.getfield 11, 3) := by decide +kernel
theorem dX10_tableAt_13 : decode cX10_tableAt 13 = .ok (.iload_n 1, 1) := by decide +kernel
theorem dX10_tableAt_14 : decode cX10_tableAt 14 = .ok (.aaload, 1) := by decide +kernel
theorem dX10_tableAt_15 : decode cX10_tableAt 15 = .ok (.goto 4, 3) := by decide +kernel
theorem dX10_tableAt_18 : decode cX10_tableAt 18 = .ok (.aconst_null, 1) := by decide +kernel
theorem dX10_tableAt_19 : decode cX10_tableAt 19 = .ok (.areturn, 1) := by decide +kernel
theorem dX10_questionAt_0 : decode cX10_questionAt 0 = .ok (.iload_n 1, 1) := by decide +kernel
theorem dX10_questionAt_1 : decode cX10_questionAt 1 = .ok (.iconst 0, 1) := by decide +kernel
theorem dX10_questionAt_2 : decode cX10_questionAt 2 = .ok (.aload_n 0, 1) := by decide +kernel
theorem dX10_questionAt_3 : decode cX10_questionAt 3 = .ok (.getfield 18, 3) := by decide +kernel
theorem dX10_questionAt_6 : decode cX10_questionAt 6 = .ok (.invokevirtual 76, 3) := by decide +kernel
theorem dX10_questionAt_9 : decode cX10_questionAt 9 = .ok (.iconst 1, 1) := by decide +kernel
theorem dX10_questionAt_10 : decode cX10_questionAt 10 = .ok (.isub, 1) := by decide +kernel
theorem dX10_questionAt_11 : decode cX10_questionAt 11 = .ok (.invokestatic 32, 3) := by decide +kernel
theorem dX10_questionAt_14 : decode cX10_questionAt 14 = .ok (.ifCond .eq 17, 3) := by decide +kernel
theorem dX10_questionAt_17 : decode cX10_questionAt 17 = .ok (.aload_n 0, 1) := by decide +kernel
theorem dX10_questionAt_18 : decode cX10_questionAt 18 = .ok (.getfield 18, 3) := by decide +kernel
theorem dX10_questionAt_21 : decode cX10_questionAt 21 = .ok (.iload_n 1, 1) := by decide +kernel
theorem dX10_questionAt_22 : decode cX10_questionAt 22 = .ok (.invokevirtual 202, 3) := by decide +kernel
theorem dX10_questionAt_25 : decode cX10_questionAt 25 = .ok (.checkcast 86, 3) := by decide +kernel
theorem dX10_questionAt_28 : decode cX10_questionAt 28 = .ok (.goto 4, 3) := by decide +kernel
theorem dX10_questionAt_31 : decode cX10_questionAt 31 = .ok (.aconst_null, 1) := by decide +kernel
theorem dX10_questionAt_32 : decode cX10_questionAt 32 = .ok (.areturn, 1) := by decide +kernel
theorem dX10_aidAt_0 : decode cX10_aidAt 0 = .ok (.iload_n 1, 1) := by decide +kernel
theorem dX10_aidAt_1 : decode cX10_aidAt 1 = .ok (.iconst 0, 1) := by decide +kernel
theorem dX10_aidAt_2 : decode cX10_aidAt 2 = .ok (.aload_n 0, 1) := by decide +kernel
theorem dX10_aidAt_3 : decode cX10_aidAt 3 = .ok (.getfield 22, 3) := by decide +kernel
theorem dX10_aidAt_6 : decode cX10_aidAt 6 = .ok (.invokevirtual 76, 3) := by decide +kernel
theorem dX10_aidAt_9 : decode cX10_aidAt 9 = .ok (.iconst 1, 1) := by decide +kernel
theorem dX10_aidAt_10 : decode cX10_aidAt 10 = .ok (.isub, 1) := by decide +kernel
theorem dX10_aidAt_11 : decode cX10_aidAt 11 = .ok (.invokestatic 32, 3) := by decide +kernel
theorem dX10_aidAt_14 : decode cX10_aidAt 14 = .ok (.ifCond .eq 17, 3) := by decide +kernel
theorem dX10_aidAt_17 : decode cX10_aidAt 17 = .ok (.aload_n 0, 1) := by decide +kernel
theorem dX10_aidAt_18 : decode cX10_aidAt 18 = .ok (.getfield 22, 3) := by decide +kernel
theorem dX10_aidAt_21 : decode cX10_aidAt 21 = .ok (.iload_n 1, 1) := by decide +kernel
theorem dX10_aidAt_22 : decode cX10_aidAt 22 = .ok (.invokevirtual 202, 3) := by decide +kernel
theorem dX10_aidAt_25 : decode cX10_aidAt 25 = .ok (.checkcast 159, 3) := by decide +kernel
theorem dX10_aidAt_28 : decode cX10_aidAt 28 = .ok (.goto 4, 3) := by decide +kernel
theorem dX10_aidAt_31 : decode cX10_aidAt 31 = .ok (.aconst_null, 1) := by decide +kernel
theorem dX10_aidAt_32 : decode cX10_aidAt 32 = .ok (.areturn, 1) := by decide +kernel
theorem dX10_tableForAid_0 : decode cX10_tableForAid 0 = .ok (.aload_n 0, 1) := by decide +kernel
theorem dX10_tableForAid_1 : decode cX10_tableForAid 1 = .ok (.getfield 22, 3) := by decide +kernel
theorem dX10_tableForAid_4 : decode cX10_tableForAid 4 = .ok (.invokevirtual 76, 3) := by decide +kernel
theorem dX10_tableForAid_7 : decode cX10_tableForAid 7 = .ok (.bipush 12, 2) := by decide +kernel
theorem dX10_tableForAid_9 : decode cX10_tableForAid 9 = .ok (.if_icmp .ge 11, 3) := by decide +kernel
theorem dX10_tableForAid_12 : decode cX10_tableForAid 12 = .ok (.aload_n 0, 1) := by decide +kernel
theorem dX10_tableForAid_13 : decode cX10_tableForAid 13 = .ok (.iload_n 1, 1) := by decide +kernel
theorem dX10_tableForAid_14 : decode cX10_tableForAid 14 = .ok (.invokevirtual 39, 3) := by decide +kernel
theorem dX10_tableForAid_17 : decode cX10_tableForAid 17 = .ok (.goto 4, 3) := by decide +kernel
theorem dX10_tableForAid_20 : decode cX10_tableForAid 20 = .ok (.aconst_null, 1) := by decide +kernel
theorem dX10_tableForAid_21 : decode cX10_tableForAid 21 = .ok (.areturn, 1) := by decide +kernel
theorem dX10_enlist_0 : decode cX10_enlist 0 = .ok (.aload_n 0, 1) := by decide +kernel
theorem dX10_enlist_1 : decode cX10_enlist 1 = .ok (.getfield 22, 3) := by decide +kernel
theorem dX10_enlist_4 : decode cX10_enlist 4 = .ok (.aload_n 1, 1) := by decide +kernel
theorem dX10_enlist_5 : decode cX10_enlist 5 = .ok (.invokevirtual 91, 3) := by decide +kernel
theorem dX10_enlist_8 : decode cX10_enlist 8 = .ok (.pop, 1) := by decide +kernel
theorem dX10_enlist_9 : decode cX10_enlist 9 = .ok (.aload_n 0, 1) := by decide +kernel
theorem dX10_enlist_10 : decode cX10_enlist 10 = .ok (.getfield 22, 3) := by decide +kernel
theorem dX10_enlist_13 : decode cX10_enlist 13 = .ok (.invokevirtual 76, 3) := by decide +kernel
theorem dX10_enlist_16 : decode cX10_enlist 16 = .ok (.iconst 1, 1) := by decide +kernel
theorem dX10_enlist_17 : decode cX10_enlist 17 = .ok (.isub, 1) := by decide +kernel
theorem dX10_enlist_18 : decode cX10_enlist 18 = .ok (.ireturn, 1) := by decide +kernel
theorem dX10_isSet_0 : decode cX10_isSet 0 = .ok (.iload_n 1, 1) := by decide +kernel
theorem dX10_isSet_1 : decode cX10_isSet 1 = .ok (.aload_n 0, 1) := by decide +kernel
theorem dX10_isSet_2 : decode cX10_isSet 2 = .ok (.getfield 22, 3) := by decide +kernel
theorem dX10_isSet_5 : decode cX10_isSet 5 = .ok (.invokevirtual 76, 3) := by decide +kernel
theorem dX10_isSet_8 : decode cX10_isSet 8 = .ok (.iushr, 1) := by decide +kernel
theorem dX10_isSet_9 : decode cX10_isSet 9 = .ok (.ifCond .eq 5, 3) := by decide +kernel
theorem dX10_isSet_12 : decode cX10_isSet 12 = .ok (.iconst 0, 1) := by decide +kernel
theorem dX10_isSet_13 : decode cX10_isSet 13 = .ok (.ireturn, 1) := by decide +kernel
theorem dX10_isSet_14 : decode cX10_isSet 14 = .ok (.iconst 0, 1) := by decide +kernel
theorem dX10_isSet_15 : decode cX10_isSet 15 = .ok (.istore_n 2, 1) := by decide +kernel
theorem dX10_isSet_16 : decode cX10_isSet 16 = .ok (.iload_n 2, 1) := by decide +kernel
theorem dX10_isSet_17 : decode cX10_isSet 17 = .ok (.aload_n 0, 1) := by decide +kernel
theorem dX10_isSet_18 : decode cX10_isSet 18 = .ok (.getfield 22, 3) := by decide +kernel
theorem dX10_isSet_21 : decode cX10_isSet 21 = .ok (.invokevirtual 76, 3) := by decide +kernel
theorem dX10_isSet_24 : decode cX10_isSet 24 = .ok (.if_icmp .ge 32, 3) := by decide +kernel
theorem dX10_isSet_27 : decode cX10_isSet 27 = .ok (.iload_n 2, 1) := by decide +kernel
theorem dX10_isSet_28 : decode cX10_isSet 28 = .ok (.iload_n 1, 1) := by decide +kernel
theorem dX10_isSet_29 : decode cX10_isSet 29 = .ok (.invokestatic 224, 3) := by decide +kernel
theorem dX10_isSet_32 : decode cX10_isSet 32 = .ok (.ifCond .eq 18, 3) := by decide +kernel
theorem dX10_isSet_35 : decode cX10_isSet 35 = .ok (.aload_n 0, 1) := by decide +kernel
theorem dX10_isSet_36 : decode cX10_isSet 36 = .ok (.getfield 22, 3) := by decide +kernel
theorem dX10_isSet_39 : decode cX10_isSet 39 = .ok (.iload_n 2, 1) := by decide +kernel
theorem dX10_isSet_40 : decode cX10_isSet 40 = .ok (.invokestatic 164, 3) := by decide +kernel
theorem dX10_isSet_43 : decode cX10_isSet 43 = .ok (.iload_n 1, 1) := by decide +kernel
theorem dX10_isSet_44 : decode cX10_isSet 44 = .ok (.iand, 1) := by decide +kernel
theorem dX10_isSet_45 : decode cX10_isSet 45 = .ok (.ifCond .eq 5, 3) := by decide +kernel
theorem dX10_isSet_48 : decode cX10_isSet 48 = .ok (.iconst 0, 1) := by decide +kernel
theorem dX10_isSet_49 : decode cX10_isSet 49 = .ok (.ireturn, 1) := by decide +kernel
theorem dX10_isSet_50 : decode cX10_isSet 50 = .ok (.iinc 2 1, 3) := by decide +kernel
theorem dX10_isSet_53 : decode cX10_isSet 53 = .ok (.goto (-37), 3) := by decide +kernel
theorem dX10_isSet_56 : decode cX10_isSet 56 = .ok (.iconst 1, 1) := by decide +kernel
theorem dX10_isSet_57 : decode cX10_isSet 57 = .ok (.ireturn, 1) := by decide +kernel
theorem dX10_tablesTold_0 : decode cX10_tablesTold 0 = .ok (.iconst 0, 1) := by decide +kernel
theorem dX10_tablesTold_1 : decode cX10_tablesTold 1 = .ok (.istore_n 1, 1) := by decide +kernel
theorem dX10_tablesTold_2 : decode cX10_tablesTold 2 = .ok (.aload_n 0, 1) := by decide +kernel
theorem dX10_tablesTold_3 : decode cX10_tablesTold 3 = .ok (.getfield 11, 3) := by decide +kernel
theorem dX10_tablesTold_6 : decode cX10_tablesTold 6 = .ok (.astore_n 2, 1) := by decide +kernel
theorem dX10_tablesTold_7 : decode cX10_tablesTold 7 = .ok (.aload_n 2, 1) := by decide +kernel
theorem dX10_tablesTold_8 : decode cX10_tablesTold 8 = .ok (.arraylength, 1) := by decide +kernel
theorem dX10_tablesTold_9 : decode cX10_tablesTold 9 = .ok (.istore_n 3, 1) := by decide +kernel
theorem dX10_tablesTold_10 : decode cX10_tablesTold 10 = .ok (.iconst 0, 1) := by decide +kernel
theorem dX10_tablesTold_11 : decode cX10_tablesTold 11 = .ok (.istore 4, 2) := by decide +kernel
theorem dX10_tablesTold_13 : decode cX10_tablesTold 13 = .ok (.iload 4, 2) := by decide +kernel
theorem dX10_tablesTold_15 : decode cX10_tablesTold 15 = .ok (.iload_n 3, 1) := by decide +kernel
theorem dX10_tablesTold_16 : decode cX10_tablesTold 16 = .ok (.if_icmp .ge 28, 3) := by decide +kernel
theorem dX10_tablesTold_19 : decode cX10_tablesTold 19 = .ok (.aload_n 2, 1) := by decide +kernel
theorem dX10_tablesTold_20 : decode cX10_tablesTold 20 = .ok (.iload 4, 2) := by decide +kernel
theorem dX10_tablesTold_22 : decode cX10_tablesTold 22 = .ok (.aaload, 1) := by decide +kernel
theorem dX10_tablesTold_23 : decode cX10_tablesTold 23 = .ok (.astore 5, 2) := by decide +kernel
theorem dX10_tablesTold_25 : decode cX10_tablesTold 25 = .ok (.iload_n 1, 1) := by decide +kernel
theorem dX10_tablesTold_26 : decode cX10_tablesTold 26 = .ok (.aload 5, 2) := by decide +kernel
theorem dX10_tablesTold_28 : decode cX10_tablesTold 28 = .ok (.ifnonnull 7, 3) := by decide +kernel
theorem dX10_tablesTold_31 : decode cX10_tablesTold 31 = .ok (.iconst 0, 1) := by decide +kernel
theorem dX10_tablesTold_32 : decode cX10_tablesTold 32 = .ok (.goto 4, 3) := by decide +kernel
theorem dX10_tablesTold_35 : decode cX10_tablesTold 35 = .ok (.iconst 1, 1) := by decide +kernel
theorem dX10_tablesTold_36 : decode cX10_tablesTold 36 = .ok (.iadd, 1) := by decide +kernel
theorem dX10_tablesTold_37 : decode cX10_tablesTold 37 = .ok (.istore_n 1, 1) := by decide +kernel
theorem dX10_tablesTold_38 : decode cX10_tablesTold 38 = .ok (.iinc 4 1, 3) := by decide +kernel
theorem dX10_tablesTold_41 : decode cX10_tablesTold 41 = .ok (.goto (-28), 3) := by decide +kernel
theorem dX10_tablesTold_44 : decode cX10_tablesTold 44 = .ok (.iload_n 1, 1) := by decide +kernel
theorem dX10_tablesTold_45 : decode cX10_tablesTold 45 = .ok (.ireturn, 1) := by decide +kernel
theorem dX10_rowsInAll_0 : decode cX10_rowsInAll 0 = .ok (.iconst 0, 1) := by decide +kernel
theorem dX10_rowsInAll_1 : decode cX10_rowsInAll 1 = .ok (.istore_n 1, 1) := by decide +kernel
theorem dX10_rowsInAll_2 : decode cX10_rowsInAll 2 = .ok (.aload_n 0, 1) := by decide +kernel
theorem dX10_rowsInAll_3 : decode cX10_rowsInAll 3 = .ok (.getfield 11, 3) := by decide +kernel
theorem dX10_rowsInAll_6 : decode cX10_rowsInAll 6 = .ok (.astore_n 2, 1) := by decide +kernel
theorem dX10_rowsInAll_7 : decode cX10_rowsInAll 7 = .ok (.aload_n 2, 1) := by decide +kernel
theorem dX10_rowsInAll_8 : decode cX10_rowsInAll 8 = .ok (.arraylength, 1) := by decide +kernel
theorem dX10_rowsInAll_9 : decode cX10_rowsInAll 9 = .ok (.istore_n 3, 1) := by decide +kernel
theorem dX10_rowsInAll_10 : decode cX10_rowsInAll 10 = .ok (.iconst 0, 1) := by decide +kernel
theorem dX10_rowsInAll_11 : decode cX10_rowsInAll 11 = .ok (.istore 4, 2) := by decide +kernel
theorem dX10_rowsInAll_13 : decode cX10_rowsInAll 13 = .ok (.iload 4, 2) := by decide +kernel
theorem dX10_rowsInAll_15 : decode cX10_rowsInAll 15 = .ok (.iload_n 3, 1) := by decide +kernel
theorem dX10_rowsInAll_16 : decode cX10_rowsInAll 16 = .ok (.if_icmp .ge 32, 3) := by decide +kernel
theorem dX10_rowsInAll_19 : decode cX10_rowsInAll 19 = .ok (.aload_n 2, 1) := by decide +kernel
theorem dX10_rowsInAll_20 : decode cX10_rowsInAll 20 = .ok (.iload 4, 2) := by decide +kernel
theorem dX10_rowsInAll_22 : decode cX10_rowsInAll 22 = .ok (.aaload, 1) := by decide +kernel
theorem dX10_rowsInAll_23 : decode cX10_rowsInAll 23 = .ok (.astore 5, 2) := by decide +kernel
theorem dX10_rowsInAll_25 : decode cX10_rowsInAll 25 = .ok (.iload_n 1, 1) := by decide +kernel
theorem dX10_rowsInAll_26 : decode cX10_rowsInAll 26 = .ok (.aload 5, 2) := by decide +kernel
theorem dX10_rowsInAll_28 : decode cX10_rowsInAll 28 = .ok (.ifnonnull 7, 3) := by decide +kernel
theorem dX10_rowsInAll_31 : decode cX10_rowsInAll 31 = .ok (.iconst 0, 1) := by decide +kernel
theorem dX10_rowsInAll_32 : decode cX10_rowsInAll 32 = .ok (.goto 8, 3) := by decide +kernel
theorem dX10_rowsInAll_35 : decode cX10_rowsInAll 35 = .ok (.aload 5, 2) := by decide +kernel
theorem dX10_rowsInAll_37 : decode cX10_rowsInAll 37 = .ok (.getfield 43, 3) := by decide +kernel
theorem dX10_rowsInAll_40 : decode cX10_rowsInAll 40 = .ok (.iadd, 1) := by decide +kernel
theorem dX10_rowsInAll_41 : decode cX10_rowsInAll 41 = .ok (.istore_n 1, 1) := by decide +kernel
theorem dX10_rowsInAll_42 : decode cX10_rowsInAll 42 = .ok (.iinc 4 1, 3) := by decide +kernel
theorem dX10_rowsInAll_45 : decode cX10_rowsInAll 45 = .ok (.goto (-32), 3) := by decide +kernel
theorem dX10_rowsInAll_48 : decode cX10_rowsInAll 48 = .ok (.iload_n 1, 1) := by decide +kernel
theorem dX10_rowsInAll_49 : decode cX10_rowsInAll 49 = .ok (.ireturn, 1) := by decide +kernel
theorem dX10_canOrderBy_0 : decode cX10_canOrderBy 0 = .ok (.aload_n 0, 1) := by decide +kernel
theorem dX10_canOrderBy_1 : decode cX10_canOrderBy 1 = .ok (.iload_n 1, 1) := by decide +kernel
theorem dX10_canOrderBy_2 : decode cX10_canOrderBy 2 = .ok (.invokevirtual 103, 3) := by decide +kernel
theorem dX10_canOrderBy_5 : decode cX10_canOrderBy 5 = .ok (.ifCond .eq 19, 3) := by decide +kernel
theorem dX10_canOrderBy_8 : decode cX10_canOrderBy 8 = .ok (.aload_n 0, 1) := by decide +kernel
theorem dX10_canOrderBy_9 : decode cX10_canOrderBy 9 = .ok (.iload_n 2, 1) := by decide +kernel
theorem dX10_canOrderBy_10 : decode cX10_canOrderBy 10 = .ok (.invokevirtual 83, 3) := by decide +kernel
theorem dX10_canOrderBy_13 : decode cX10_canOrderBy 13 = .ok (.ifCond .eq 11, 3) := by decide +kernel
theorem dX10_canOrderBy_16 : decode cX10_canOrderBy 16 = .ok (.aload_n 0, 1) := by decide +kernel
theorem dX10_canOrderBy_17 : decode cX10_canOrderBy 17 = .ok (.iload_n 3, 1) := by decide +kernel
theorem dX10_canOrderBy_18 : decode cX10_canOrderBy 18 = .ok (.invokevirtual 83, 3) := by decide +kernel
theorem dX10_canOrderBy_21 : decode cX10_canOrderBy 21 = .ok (.ifCond .ne 5, 3) := by decide +kernel
theorem dX10_canOrderBy_24 : decode cX10_canOrderBy 24 = .ok (.iconst 0, 1) := by decide +kernel
theorem dX10_canOrderBy_25 : decode cX10_canOrderBy 25 = .ok (.ireturn, 1) := by decide +kernel
theorem dX10_canOrderBy_26 : decode cX10_canOrderBy 26 = .ok (.iload_n 2, 1) := by decide +kernel
theorem dX10_canOrderBy_27 : decode cX10_canOrderBy 27 = .ok (.iconst (-1), 1) := by decide +kernel
theorem dX10_canOrderBy_28 : decode cX10_canOrderBy 28 = .ok (.if_icmp .ne 14, 3) := by decide +kernel
theorem dX10_canOrderBy_31 : decode cX10_canOrderBy 31 = .ok (.iload_n 3, 1) := by decide +kernel
theorem dX10_canOrderBy_32 : decode cX10_canOrderBy 32 = .ok (.iconst (-1), 1) := by decide +kernel
theorem dX10_canOrderBy_33 : decode cX10_canOrderBy 33 = .ok (.if_icmp .ne 7, 3) := by decide +kernel
theorem dX10_canOrderBy_36 : decode cX10_canOrderBy 36 = .ok (.iconst 1, 1) := by decide +kernel
theorem dX10_canOrderBy_37 : decode cX10_canOrderBy 37 = .ok (.goto 4, 3) := by decide +kernel
theorem dX10_canOrderBy_40 : decode cX10_canOrderBy 40 = .ok (.iconst 0, 1) := by decide +kernel
theorem dX10_canOrderBy_41 : decode cX10_canOrderBy 41 = .ok (.ireturn, 1) := by decide +kernel
theorem dX10_canOrderBy_42 : decode cX10_canOrderBy 42 = .ok (.iload_n 1, 1) := by decide +kernel
theorem dX10_canOrderBy_43 : decode cX10_canOrderBy 43 = .ok (.iload_n 2, 1) := by decide +kernel
theorem dX10_canOrderBy_44 : decode cX10_canOrderBy 44 = .ok (.if_icmp .eq 17, 3) := by decide +kernel
theorem dX10_canOrderBy_47 : decode cX10_canOrderBy 47 = .ok (.iload_n 1, 1) := by decide +kernel
theorem dX10_canOrderBy_48 : decode cX10_canOrderBy 48 = .ok (.iload_n 3, 1) := by decide +kernel
theorem dX10_canOrderBy_49 : decode cX10_canOrderBy 49 = .ok (.if_icmp .eq 12, 3) := by decide +kernel
theorem dX10_canOrderBy_52 : decode cX10_canOrderBy 52 = .ok (.iload_n 2, 1) := by decide +kernel
theorem dX10_canOrderBy_53 : decode cX10_canOrderBy 53 = .ok (.iload_n 3, 1) := by decide +kernel
theorem dX10_canOrderBy_54 : decode cX10_canOrderBy 54 = .ok (.if_icmp .eq 7, 3) := by decide +kernel
theorem dX10_canOrderBy_57 : decode cX10_canOrderBy 57 = .ok (.iconst 1, 1) := by decide +kernel
theorem dX10_canOrderBy_58 : decode cX10_canOrderBy 58 = .ok (.goto 4, 3) := by decide +kernel
theorem dX10_canOrderBy_61 : decode cX10_canOrderBy 61 = .ok (.iconst 0, 1) := by decide +kernel
theorem dX10_canOrderBy_62 : decode cX10_canOrderBy 62 = .ok (.ireturn, 1) := by decide +kernel
theorem dX10_rivalsOf_0 : decode cX10_rivalsOf 0 = .ok (.iload_n 1, 1) := by decide +kernel
theorem dX10_rivalsOf_1 : decode cX10_rivalsOf 1 = .ok (.iconst 0, 1) := by decide +kernel
theorem dX10_rivalsOf_2 : decode cX10_rivalsOf 2 = .ok (.aload_n 0, 1) := by decide +kernel
theorem dX10_rivalsOf_3 : decode cX10_rivalsOf 3 = .ok (.invokevirtual 76, 3) := by decide +kernel
theorem dX10_rivalsOf_6 : decode cX10_rivalsOf 6 = .ok (.iconst 1, 1) := by decide +kernel
theorem dX10_rivalsOf_7 : decode cX10_rivalsOf 7 = .ok (.isub, 1) := by decide +kernel
theorem dX10_rivalsOf_8 : decode cX10_rivalsOf 8 = .ok (.invokestatic 32, 3) := by decide +kernel
theorem dX10_rivalsOf_11 : decode cX10_rivalsOf 11 = .ok (.ifCond .eq 18, 3) := by decide +kernel
theorem dX10_rivalsOf_14 : decode cX10_rivalsOf 14 = .ok (.aload_n 0, 1) := by decide +kernel
theorem dX10_rivalsOf_15 : decode cX10_rivalsOf 15 = .ok (.iload_n 1, 1) := by decide +kernel
theorem dX10_rivalsOf_16 : decode cX10_rivalsOf 16 = .ok (.invokevirtual 202, 3) := by decide +kernel
theorem dX10_rivalsOf_19 : decode cX10_rivalsOf 19 = .ok (.checkcast 159, 3) := by decide +kernel
theorem dX10_rivalsOf_22 : decode cX10_rivalsOf 22 = .ok (.getfield 173, 3) := by decide +kernel
theorem dX10_rivalsOf_25 : decode cX10_rivalsOf 25 = .ok (.iconst 4, 1) := by decide +kernel
theorem dX10_rivalsOf_26 : decode cX10_rivalsOf 26 = .ok (.if_icmp .eq 5, 3) := by decide +kernel
theorem dX10_rivalsOf_29 : decode cX10_rivalsOf 29 = .ok (.iconst 0, 1) := by decide +kernel
theorem dX10_rivalsOf_30 : decode cX10_rivalsOf 30 = .ok (.ireturn, 1) := by decide +kernel
theorem dX10_rivalsOf_31 : decode cX10_rivalsOf 31 = .ok (.iconst 0, 1) := by decide +kernel
theorem dX10_rivalsOf_32 : decode cX10_rivalsOf 32 = .ok (.istore_n 2, 1) := by decide +kernel
theorem dX10_rivalsOf_33 : decode cX10_rivalsOf 33 = .ok (.iconst 0, 1) := by decide +kernel
theorem dX10_rivalsOf_34 : decode cX10_rivalsOf 34 = .ok (.istore_n 3, 1) := by decide +kernel
theorem dX10_rivalsOf_35 : decode cX10_rivalsOf 35 = .ok (.iload_n 3, 1) := by decide +kernel
theorem dX10_rivalsOf_36 : decode cX10_rivalsOf 36 = .ok (.aload_n 0, 1) := by decide +kernel
theorem dX10_rivalsOf_37 : decode cX10_rivalsOf 37 = .ok (.invokevirtual 76, 3) := by decide +kernel
theorem dX10_rivalsOf_40 : decode cX10_rivalsOf 40 = .ok (.if_icmp .ge 59, 3) := by decide +kernel
theorem dX10_rivalsOf_43 : decode cX10_rivalsOf 43 = .ok (.aload_n 0, 1) := by decide +kernel
theorem dX10_rivalsOf_44 : decode cX10_rivalsOf 44 = .ok (.iload_n 3, 1) := by decide +kernel
theorem dX10_rivalsOf_45 : decode cX10_rivalsOf 45 = .ok (.invokevirtual 202, 3) := by decide +kernel
theorem dX10_rivalsOf_48 : decode cX10_rivalsOf 48 = .ok (.checkcast 159, 3) := by decide +kernel
theorem dX10_rivalsOf_51 : decode cX10_rivalsOf 51 = .ok (.astore 4, 2) := by decide +kernel
theorem dX10_rivalsOf_53 : decode cX10_rivalsOf 53 = .ok (.iload_n 3, 1) := by decide +kernel
theorem dX10_rivalsOf_54 : decode cX10_rivalsOf 54 = .ok (.iload_n 1, 1) := by decide +kernel
theorem dX10_rivalsOf_55 : decode cX10_rivalsOf 55 = .ok (.if_icmp .eq 38, 3) := by decide +kernel
theorem dX10_rivalsOf_58 : decode cX10_rivalsOf 58 = .ok (.aload 4, 2) := by decide +kernel
theorem dX10_rivalsOf_60 : decode cX10_rivalsOf 60 = .ok (.getfield 173, 3) := by decide +kernel
theorem dX10_rivalsOf_63 : decode cX10_rivalsOf 63 = .ok (.iconst 4, 1) := by decide +kernel
theorem dX10_rivalsOf_64 : decode cX10_rivalsOf 64 = .ok (.if_icmp .ne 29, 3) := by decide +kernel
theorem dX10_rivalsOf_67 : decode cX10_rivalsOf 67 = .ok (.aload 4, 2) := by decide +kernel
theorem dX10_rivalsOf_69 : decode cX10_rivalsOf 69 = .ok (.getfield 176, 3) := by decide +kernel
theorem dX10_rivalsOf_72 : decode cX10_rivalsOf 72 = .ok (.aload_n 0, 1) := by decide +kernel
theorem dX10_rivalsOf_73 : decode cX10_rivalsOf 73 = .ok (.iload_n 1, 1) := by decide +kernel
theorem dX10_rivalsOf_74 : decode cX10_rivalsOf 74 = .ok (.invokevirtual 202, 3) := by decide +kernel
theorem dX10_rivalsOf_77 : decode cX10_rivalsOf 77 = .ok (.checkcast 159, 3) := by decide +kernel
theorem dX10_rivalsOf_80 : decode cX10_rivalsOf 80 = .ok (.getfield 176, 3) := by decide +kernel
theorem dX10_rivalsOf_83 : decode cX10_rivalsOf 83 = .ok (.if_acmp .ne 10, 3) := by decide +kernel
theorem dX10_rivalsOf_86 : decode cX10_rivalsOf 86 = .ok (.iload_n 2, 1) := by decide +kernel
theorem dX10_rivalsOf_87 : decode cX10_rivalsOf 87 = .ok (.iload_n 3, 1) := by decide +kernel
theorem dX10_rivalsOf_88 : decode cX10_rivalsOf 88 = .ok (.invokestatic 120, 3) := by decide +kernel
theorem dX10_rivalsOf_91 : decode cX10_rivalsOf 91 = .ok (.ior, 1) := by decide +kernel
theorem dX10_rivalsOf_92 : decode cX10_rivalsOf 92 = .ok (.istore_n 2, 1) := by decide +kernel
theorem dX10_rivalsOf_93 : decode cX10_rivalsOf 93 = .ok (.iinc 3 1, 3) := by decide +kernel
theorem dX10_rivalsOf_96 : decode cX10_rivalsOf 96 = .ok (.goto (-61), 3) := by decide +kernel
theorem dX10_rivalsOf_99 : decode cX10_rivalsOf 99 = .ok (.iload_n 2, 1) := by decide +kernel
theorem dX10_rivalsOf_100 : decode cX10_rivalsOf 100 = .ok (.ireturn, 1) := by decide +kernel
theorem dX10_isBetween_0 : decode cX10_isBetween 0 = .ok (.iload_n 0, 1) := by decide +kernel
theorem dX10_isBetween_1 : decode cX10_isBetween 1 = .ok (.iload_n 1, 1) := by decide +kernel
theorem dX10_isBetween_2 : decode cX10_isBetween 2 = .ok (.if_icmp .lt 12, 3) := by decide +kernel
theorem dX10_isBetween_5 : decode cX10_isBetween 5 = .ok (.iload_n 0, 1) := by decide +kernel
theorem dX10_isBetween_6 : decode cX10_isBetween 6 = .ok (.iload_n 2, 1) := by decide +kernel
theorem dX10_isBetween_7 : decode cX10_isBetween 7 = .ok (.if_icmp .gt 7, 3) := by decide +kernel
theorem dX10_isBetween_10 : decode cX10_isBetween 10 = .ok (.iconst 1, 1) := by decide +kernel
theorem dX10_isBetween_11 : decode cX10_isBetween 11 = .ok (.goto 4, 3) := by decide +kernel
theorem dX10_isBetween_14 : decode cX10_isBetween 14 = .ok (.iconst 0, 1) := by decide +kernel
theorem dX10_isBetween_15 : decode cX10_isBetween 15 = .ok (.ireturn, 1) := by decide +kernel
theorem dX10_isRange_0 : decode cX10_isRange 0 = .ok (.iload_n 0, 1) := by decide +kernel
theorem dX10_isRange_1 : decode cX10_isRange 1 = .ok (.ifCond .lt 19, 3) := by decide +kernel
theorem dX10_isRange_4 : decode cX10_isRange 4 = .ok (.iload_n 0, 1) := by decide +kernel
theorem dX10_isRange_5 : decode cX10_isRange 5 = .ok (.iload_n 1, 1) := by decide +kernel
theorem dX10_isRange_6 : decode cX10_isRange 6 = .ok (.if_icmp .gt 14, 3) := by decide +kernel
theorem dX10_isRange_9 : decode cX10_isRange 9 = .ok (.iload_n 1, 1) := by decide +kernel
theorem dX10_isRange_10 : decode cX10_isRange 10 = .ok (.sipush 999, 3) := by decide +kernel
theorem dX10_isRange_13 : decode cX10_isRange 13 = .ok (.if_icmp .gt 7, 3) := by decide +kernel
theorem dX10_isRange_16 : decode cX10_isRange 16 = .ok (.iconst 1, 1) := by decide +kernel
theorem dX10_isRange_17 : decode cX10_isRange 17 = .ok (.goto 4, 3) := by decide +kernel
theorem dX10_isRange_20 : decode cX10_isRange 20 = .ok (.iconst 0, 1) := by decide +kernel
theorem dX10_isRange_21 : decode cX10_isRange 21 = .ok (.ireturn, 1) := by decide +kernel
theorem dX10_bit_0 : decode cX10_bit 0 = .ok (.iload_n 0, 1) := by decide +kernel
theorem dX10_bit_1 : decode cX10_bit 1 = .ok (.ifCond .ge 7, 3) := by decide +kernel
theorem dX10_bit_4 : decode cX10_bit 4 = .ok (.iconst 0, 1) := by decide +kernel
theorem dX10_bit_5 : decode cX10_bit 5 = .ok (.goto 6, 3) := by decide +kernel
theorem dX10_bit_8 : decode cX10_bit 8 = .ok (.iconst 1, 1) := by decide +kernel
theorem dX10_bit_9 : decode cX10_bit 9 = .ok (.iload_n 0, 1) := by decide +kernel
theorem dX10_bit_10 : decode cX10_bit 10 = .ok (.ishl, 1) := by decide +kernel
theorem dX10_bit_11 : decode cX10_bit 11 = .ok (.ireturn, 1) := by decide +kernel
theorem dX10_isIn_0 : decode cX10_isIn 0 = .ok (.iload_n 0, 1) := by decide +kernel
theorem dX10_isIn_1 : decode cX10_isIn 1 = .ok (.ifCond .lt 15, 3) := by decide +kernel
theorem dX10_isIn_4 : decode cX10_isIn 4 = .ok (.iload_n 1, 1) := by decide +kernel
theorem dX10_isIn_5 : decode cX10_isIn 5 = .ok (.iload_n 0, 1) := by decide +kernel
theorem dX10_isIn_6 : decode cX10_isIn 6 = .ok (.iushr, 1) := by decide +kernel
theorem dX10_isIn_7 : decode cX10_isIn 7 = .ok (.iconst 1, 1) := by decide +kernel
theorem dX10_isIn_8 : decode cX10_isIn 8 = .ok (.iand, 1) := by decide +kernel
theorem dX10_isIn_9 : decode cX10_isIn 9 = .ok (.ifCond .eq 7, 3) := by decide +kernel
theorem dX10_isIn_12 : decode cX10_isIn 12 = .ok (.iconst 1, 1) := by decide +kernel
theorem dX10_isIn_13 : decode cX10_isIn 13 = .ok (.goto 4, 3) := by decide +kernel
theorem dX10_isIn_16 : decode cX10_isIn 16 = .ok (.iconst 0, 1) := by decide +kernel
theorem dX10_isIn_17 : decode cX10_isIn 17 = .ok (.ireturn, 1) := by decide +kernel
theorem dX10_dividedUp_0 : decode cX10_dividedUp 0 = .ok (.iload_n 0, 1) := by decide +kernel
theorem dX10_dividedUp_1 : decode cX10_dividedUp 1 = .ok (.ifCond .le 7, 3) := by decide +kernel
theorem dX10_dividedUp_4 : decode cX10_dividedUp 4 = .ok (.iload_n 1, 1) := by decide +kernel
theorem dX10_dividedUp_5 : decode cX10_dividedUp 5 = .ok (.ifCond .gt 7, 3) := by decide +kernel
theorem dX10_dividedUp_8 : decode cX10_dividedUp 8 = .ok (.iconst 0, 1) := by decide +kernel
theorem dX10_dividedUp_9 : decode cX10_dividedUp 9 = .ok (.goto 10, 3) := by decide +kernel
theorem dX10_dividedUp_12 : decode cX10_dividedUp 12 = .ok (.iload_n 0, 1) := by decide +kernel
theorem dX10_dividedUp_13 : decode cX10_dividedUp 13 = .ok (.iload_n 1, 1) := by decide +kernel
theorem dX10_dividedUp_14 : decode cX10_dividedUp 14 = .ok (.iadd, 1) := by decide +kernel
theorem dX10_dividedUp_15 : decode cX10_dividedUp 15 = .ok (.iconst 1, 1) := by decide +kernel
theorem dX10_dividedUp_16 : decode cX10_dividedUp 16 = .ok (.isub, 1) := by decide +kernel
theorem dX10_dividedUp_17 : decode cX10_dividedUp 17 = .ok (.iload_n 1, 1) := by decide +kernel
theorem dX10_dividedUp_18 : decode cX10_dividedUp 18 = .ok (.idiv, 1) := by decide +kernel
theorem dX10_dividedUp_19 : decode cX10_dividedUp 19 = .ok (.ireturn, 1) := by decide +kernel
theorem dX11_init_0 : decode cX11_init 0 = .ok (.aload_n 0, 1) := by decide +kernel
theorem dX11_init_1 : decode cX11_init 1 = .ok (.invokespecial 1, 3) := by decide +kernel
theorem dX11_init_4 : decode cX11_init 4 = .ok (.aload_n 0, 1) := by decide +kernel
theorem dX11_init_5 : decode cX11_init 5 = .ok (.iconst 4, 1) := by decide +kernel
theorem dX11_init_6 : decode cX11_init 6 = .ok (.newarray .int, 2) := by decide +kernel
theorem dX11_init_8 : decode cX11_init 8 = .ok (.putfield 7, 3) := by decide +kernel
theorem dX11_init_11 : decode cX11_init 11 = .ok (.aload_n 0, 1) := by decide +kernel
theorem dX11_init_12 : decode cX11_init 12 = .ok (.iconst 4, 1) := by decide +kernel
theorem dX11_init_13 : decode cX11_init 13 = .ok (.newarray .int, 2) := by decide +kernel
theorem dX11_init_15 : decode cX11_init 15 = .ok (.putfield 13, 3) := by decide +kernel
theorem dX11_init_18 : decode cX11_init 18 = .ok (.aload_n 0, 1) := by decide +kernel
theorem dX11_init_19 : decode cX11_init 19 = .ok (.iconst 4, 1) := by decide +kernel
theorem dX11_init_20 : decode cX11_init 20 = .ok (.newarray .int, 2) := by decide +kernel
theorem dX11_init_22 : decode cX11_init 22 = .ok (.putfield 16, 3) := by decide +kernel
theorem dX11_init_25 : decode cX11_init 25 = .ok (.aload_n 0, 1) := by decide +kernel
theorem dX11_init_26 : decode cX11_init 26 = .ok (.sipush 960, 3) := by decide +kernel
theorem dX11_init_29 : decode cX11_init 29 = .ok (.newarray .int, 2) := by decide +kernel
theorem dX11_init_31 : decode cX11_init 31 = .ok (.putfield 19, 3) := by decide +kernel
theorem dX11_init_34 : decode cX11_init 34 = .ok (.aload_n 0, 1) := by decide +kernel
theorem dX11_init_35 : decode cX11_init 35 = .ok (.iconst 4, 1) := by decide +kernel
theorem dX11_init_36 : decode cX11_init 36 = .ok (.newarray .int, 2) := by decide +kernel
theorem dX11_init_38 : decode cX11_init 38 = .ok (.putfield 22, 3) := by decide +kernel
theorem dX11_init_41 : decode cX11_init 41 = .ok (.aload_n 0, 1) := by decide +kernel
theorem dX11_init_42 : decode cX11_init 42 = .ok (.bipush 16, 2) := by decide +kernel
theorem dX11_init_44 : decode cX11_init 44 = .ok (.newarray .int, 2) := by decide +kernel
theorem dX11_init_46 : decode cX11_init 46 = .ok (.putfield 25, 3) := by decide +kernel
theorem dX11_init_49 : decode cX11_init 49 = .ok (.aload_n 0, 1) := by decide +kernel
theorem dX11_init_50 : decode cX11_init 50 = .ok (.bipush 16, 2) := by decide +kernel
theorem dX11_init_52 : decode cX11_init 52 = .ok (.newarray .int, 2) := by decide +kernel
theorem dX11_init_54 : decode cX11_init 54 = .ok (.putfield 28, 3) := by decide +kernel
theorem dX11_init_57 : decode cX11_init 57 = .ok (.aload_n 0, 1) := by decide +kernel
theorem dX11_init_58 : decode cX11_init 58 = .ok (.bipush 16, 2) := by decide +kernel
theorem dX11_init_60 : decode cX11_init 60 = .ok (.newarray .int, 2) := by decide +kernel
theorem dX11_init_62 : decode cX11_init 62 = .ok (.putfield 31, 3) := by decide +kernel
theorem dX11_init_65 : decode cX11_init 65 = .ok (.aload_n 0, 1) := by decide +kernel
theorem dX11_init_66 : decode cX11_init 66 = .ok (.iconst 4, 1) := by decide +kernel
theorem dX11_init_67 : decode cX11_init 67 = .ok (.newarray .int, 2) := by decide +kernel
theorem dX11_init_69 : decode cX11_init 69 = .ok (.putfield 34, 3) := by decide +kernel
theorem dX11_init_72 : decode cX11_init 72 = .ok (.aload_n 0, 1) := by decide +kernel
theorem dX11_init_73 : decode cX11_init 73 = .ok (.bipush 24, 2) := by decide +kernel
theorem dX11_init_75 : decode cX11_init 75 = .ok (.newarray .int, 2) := by decide +kernel
theorem dX11_init_77 : decode cX11_init 77 = .ok (.putfield 37, 3) := by decide +kernel
theorem dX11_init_80 : decode cX11_init 80 = .ok (.aload_n 0, 1) := by decide +kernel
theorem dX11_init_81 : decode cX11_init 81 = .ok (.bipush 24, 2) := by decide +kernel
theorem dX11_init_83 : decode cX11_init 83 = .ok (.newarray .int, 2) := by decide +kernel
theorem dX11_init_85 : decode cX11_init 85 = .ok (.putfield 40, 3) := by decide +kernel
theorem dX11_init_88 : decode cX11_init 88 = .ok (.aload_n 0, 1) := by decide +kernel
theorem dX11_init_89 : decode cX11_init 89 = .ok (.bipush 24, 2) := by decide +kernel
theorem dX11_init_91 : decode cX11_init 91 = .ok (.newarray .int, 2) := by decide +kernel
theorem dX11_init_93 : decode cX11_init 93 = .ok (.putfield 43, 3) := by decide +kernel
theorem dX11_init_96 : decode cX11_init 96 = .ok (.aload_n 0, 1) := by decide +kernel
theorem dX11_init_97 : decode cX11_init 97 = .ok (.bipush 24, 2) := by decide +kernel
theorem dX11_init_99 : decode cX11_init 99 = .ok (.newarray .int, 2) := by decide +kernel
theorem dX11_init_101 : decode cX11_init 101 = .ok (.putfield 46, 3) := by decide +kernel
theorem dX11_init_104 : decode cX11_init 104 = .ok (.aload_n 0, 1) := by decide +kernel
theorem dX11_init_105 : decode cX11_init 105 = .ok (.bipush 96, 2) := by decide +kernel
theorem dX11_init_107 : decode cX11_init 107 = .ok (.newarray .boolean, 2) := by decide +kernel
theorem dX11_init_109 : decode cX11_init 109 = .ok (.putfield 49, 3) := by decide +kernel
theorem dX11_init_112 : decode cX11_init 112 = .ok (.aload_n 0, 1) := by decide +kernel
theorem dX11_init_113 : decode cX11_init 113 = .ok (.bipush 96, 2) := by decide +kernel
theorem dX11_init_115 : decode cX11_init 115 = .ok (.newarray .int, 2) := by decide +kernel
theorem dX11_init_117 : decode cX11_init 117 = .ok (.putfield 53, 3) := by decide +kernel
theorem dX11_init_120 : decode cX11_init 120 = .ok (.aload_n 0, 1) := by decide +kernel
theorem dX11_init_121 : decode cX11_init 121 = .ok (.bipush 96, 2) := by decide +kernel
theorem dX11_init_123 : decode cX11_init 123 = .ok (.newarray .int, 2) := by decide +kernel
theorem dX11_init_125 : decode cX11_init 125 = .ok (.putfield 56, 3) := by decide +kernel
theorem dX11_init_128 : decode cX11_init 128 = .ok (.aload_n 0, 1) := by decide +kernel
theorem dX11_init_129 : decode cX11_init 129 = .ok (.bipush 12, 2) := by decide +kernel
theorem dX11_init_131 : decode cX11_init 131 = .ok (.newarray .int, 2) := by decide +kernel
theorem dX11_init_133 : decode cX11_init 133 = .ok (.putfield 59, 3) := by decide +kernel
theorem dX11_init_136 : decode cX11_init 136 = .ok (.aload_n 0, 1) := by decide +kernel
theorem dX11_init_137 : decode cX11_init 137 = .ok (.bipush 12, 2) := by decide +kernel
theorem dX11_init_139 : decode cX11_init 139 = .ok (.newarray .int, 2) := by decide +kernel
theorem dX11_init_141 : decode cX11_init 141 = .ok (.putfield 62, 3) := by decide +kernel
theorem dX11_init_144 : decode cX11_init 144 = .ok (.aload_n 0, 1) := by decide +kernel
theorem dX11_init_145 : decode cX11_init 145 = .ok (.bipush 12, 2) := by decide +kernel
theorem dX11_init_147 : decode cX11_init 147 = .ok (.newarray .int, 2) := by decide +kernel
theorem dX11_init_149 : decode cX11_init 149 = .ok (.putfield 65, 3) := by decide +kernel
theorem dX11_init_152 : decode cX11_init 152 = .ok (.aload_n 0, 1) := by decide +kernel
theorem dX11_init_153 : decode cX11_init 153 = .ok (.bipush 36, 2) := by decide +kernel
theorem dX11_init_155 : decode cX11_init 155 = .ok (.newarray .int, 2) := by decide +kernel
theorem dX11_init_157 : decode cX11_init 157 = .ok (.putfield 68, 3) := by decide +kernel
theorem dX11_init_160 : decode cX11_init 160 = .ok (.aload_n 0, 1) := by decide +kernel
theorem dX11_init_161 : decode cX11_init 161 = .ok (.bipush 12, 2) := by decide +kernel
theorem dX11_init_163 : decode cX11_init 163 = .ok (.newarray .int, 2) := by decide +kernel
theorem dX11_init_165 : decode cX11_init 165 = .ok (.putfield 71, 3) := by decide +kernel
theorem dX11_init_168 : decode cX11_init 168 = .ok (.aload_n 0, 1) := by decide +kernel
theorem dX11_init_169 : decode cX11_init 169 = .ok (.bipush 12, 2) := by decide +kernel
theorem dX11_init_171 : decode cX11_init 171 = .ok (.newarray .int, 2) := by decide +kernel
theorem dX11_init_173 : decode cX11_init 173 = .ok (.putfield 74, 3) := by decide +kernel
theorem dX11_init_176 : decode cX11_init 176 = .ok (.aload_n 0, 1) := by decide +kernel
theorem dX11_init_177 : decode cX11_init 177 = .ok (.bipush 12, 2) := by decide +kernel
theorem dX11_init_179 : decode cX11_init 179 = .ok (.newarray .int, 2) := by decide +kernel
theorem dX11_init_181 : decode cX11_init 181 = .ok (.putfield 77, 3) := by decide +kernel
theorem dX11_init_184 : decode cX11_init 184 = .ok (.aload_n 0, 1) := by decide +kernel
theorem dX11_init_185 : decode cX11_init 185 = .ok (.bipush 12, 2) := by decide +kernel
theorem dX11_init_187 : decode cX11_init 187 = .ok (.newarray .int, 2) := by decide +kernel
theorem dX11_init_189 : decode cX11_init 189 = .ok (.putfield 80, 3) := by decide +kernel
theorem dX11_init_192 : decode cX11_init 192 = .ok (.aload_n 0, 1) := by decide +kernel
theorem dX11_init_193 : decode cX11_init 193 = .ok (.sipush 312, 3) := by decide +kernel
theorem dX11_init_196 : decode cX11_init 196 = .ok (.newarray .int, 2) := by decide +kernel
theorem dX11_init_198 : decode cX11_init 198 = .ok (.putfield 83, 3) := by decide +kernel
theorem dX11_init_201 : decode cX11_init 201 = .ok (.aload_n 0, 1) := by decide +kernel
theorem dX11_init_202 : decode cX11_init 202 = .ok (.bipush 12, 2) := by decide +kernel
theorem dX11_init_204 : decode cX11_init 204 = .ok (.newarray .int, 2) := by decide +kernel
theorem dX11_init_206 : decode cX11_init 206 = .ok (.putfield 86, 3) := by decide +kernel
theorem dX11_init_209 : decode cX11_init 209 = .ok (.return_, 1) := by decide +kernel
theorem dX11_lies_0 : decode cX11_lies 0 = .ok (.iload_n 0, 1) := by decide +kernel
theorem dX11_lies_1 : decode cX11_lies 1 = .ok (.iload_n 1, 1) := by decide +kernel
theorem dX11_lies_2 : decode cX11_lies 2 = .ok (.if_icmp .lt 12, 3) := by decide +kernel
theorem dX11_lies_5 : decode cX11_lies 5 = .ok (.iload_n 0, 1) := by decide +kernel
theorem dX11_lies_6 : decode cX11_lies 6 = .ok (.iload_n 2, 1) := by decide +kernel
theorem dX11_lies_7 : decode cX11_lies 7 = .ok (.if_icmp .gt 7, 3) := by decide +kernel
theorem dX11_lies_10 : decode cX11_lies 10 = .ok (.iconst 1, 1) := by decide +kernel
theorem dX11_lies_11 : decode cX11_lies 11 = .ok (.goto 4, 3) := by decide +kernel
theorem dX11_lies_14 : decode cX11_lies 14 = .ok (.iconst 0, 1) := by decide +kernel
theorem dX11_lies_15 : decode cX11_lies 15 = .ok (.ireturn, 1) := by decide +kernel
theorem dX11_isTable_0 : decode cX11_isTable 0 = .ok (.iload_n 1, 1) := by decide +kernel
theorem dX11_isTable_1 : decode cX11_isTable 1 = .ok (.iconst 0, 1) := by decide +kernel
theorem dX11_isTable_2 : decode cX11_isTable 2 = .ok (.iconst 3, 1) := by decide +kernel
theorem dX11_isTable_3 : decode cX11_isTable 3 = .ok (.invokestatic 89, 3) := by decide +kernel
theorem dX11_isTable_6 : decode cX11_isTable 6 = .ok (.ifCond .eq 16, 3) := by decide +kernel
theorem dX11_isTable_9 : decode cX11_isTable 9 = .ok (.aload_n 0, 1) := by decide +kernel
theorem dX11_isTable_10 : decode cX11_isTable 10 = .ok (.getfield 7, 3) := by decide +kernel
theorem dX11_isTable_13 : decode cX11_isTable 13 = .ok (.iload_n 1, 1) := by decide +kernel
theorem dX11_isTable_14 : decode cX11_isTable 14 = .ok (.iaload, 1) := by decide +kernel
theorem dX11_isTable_15 : decode cX11_isTable 15 = .ok (.ifCond .le 7, 3) := by decide +kernel
theorem dX11_isTable_18 : decode cX11_isTable 18 = .ok (.iconst 1, 1) := by decide +kernel
theorem dX11_isTable_19 : decode cX11_isTable 19 = .ok (.goto 4, 3) := by decide +kernel
theorem dX11_isTable_22 : decode cX11_isTable 22 = .ok (.iconst 0, 1) := by decide +kernel
theorem dX11_isTable_23 : decode cX11_isTable 23 = .ok (.ireturn, 1) := by decide +kernel
theorem dX11_isColumn_0 : decode cX11_isColumn 0 = .ok (.aload_n 0, 1) := by decide +kernel
theorem dX11_isColumn_1 : decode cX11_isColumn 1 = .ok (.iload_n 1, 1) := by decide +kernel
theorem dX11_isColumn_2 : decode cX11_isColumn 2 = .ok (.invokevirtual 93, 3) := by decide +kernel
theorem dX11_isColumn_5 : decode cX11_isColumn 5 = .ok (.ifCond .eq 23, 3) := by decide +kernel
theorem dX11_isColumn_8 : decode cX11_isColumn 8 = .ok (.iload_n 2, 1) := by decide +kernel
theorem dX11_isColumn_9 : decode cX11_isColumn 9 = .ok (.iconst 0, 1) := by decide +kernel
theorem dX11_isColumn_10 : decode cX11_isColumn 10 = .ok (.aload_n 0, 1) := by decide +kernel
theorem dX11_isColumn_11 : decode cX11_isColumn 11 = .ok (.getfield 7, 3) := by decide +kernel
theorem dX11_isColumn_14 : decode cX11_isColumn 14 = .ok (.iload_n 1, 1) := by decide +kernel
theorem dX11_isColumn_15 : decode cX11_isColumn 15 = .ok (.iaload, 1) := by decide +kernel
theorem dX11_isColumn_16 : decode cX11_isColumn 16 = .ok (.iconst 1, 1) := by decide +kernel
theorem dX11_isColumn_17 : decode cX11_isColumn 17 = .ok (.isub, 1) := by decide +kernel
theorem dX11_isColumn_18 : decode cX11_isColumn 18 = .ok (.invokestatic 89, 3) := by decide +kernel
theorem dX11_isColumn_21 : decode cX11_isColumn 21 = .ok (.ifCond .eq 7, 3) := by decide +kernel
theorem dX11_isColumn_24 : decode cX11_isColumn 24 = .ok (.iconst 1, 1) := by decide +kernel
theorem dX11_isColumn_25 : decode cX11_isColumn 25 = .ok (.goto 4, 3) := by decide +kernel
theorem dX11_isColumn_28 : decode cX11_isColumn 28 = .ok (.iconst 0, 1) := by decide +kernel
theorem dX11_isColumn_29 : decode cX11_isColumn 29 = .ok (.ireturn, 1) := by decide +kernel
theorem dX11_up_0 : decode cX11_up 0 = .ok (.iload_n 0, 1) := by decide +kernel
theorem dX11_up_1 : decode cX11_up 1 = .ok (.iload_n 1, 1) := by decide +kernel
theorem dX11_up_2 : decode cX11_up 2 = .ok (.iadd, 1) := by decide +kernel
theorem dX11_up_3 : decode cX11_up 3 = .ok (.iconst 1, 1) := by decide +kernel
theorem dX11_up_4 : decode cX11_up 4 = .ok (.isub, 1) := by decide +kernel
theorem dX11_up_5 : decode cX11_up 5 = .ok (.iload_n 1, 1) := by decide +kernel
theorem dX11_up_6 : decode cX11_up 6 = .ok (.idiv, 1) := by decide +kernel
theorem dX11_up_7 : decode cX11_up 7 = .ok (.ireturn, 1) := by decide +kernel
theorem dX11_isIn_0 : decode cX11_isIn 0 = .ok (.iload_n 0, 1) := by decide +kernel
theorem dX11_isIn_1 : decode cX11_isIn 1 = .ok (.iload_n 1, 1) := by decide +kernel
theorem dX11_isIn_2 : decode cX11_isIn 2 = .ok (.ishr, 1) := by decide +kernel
theorem dX11_isIn_3 : decode cX11_isIn 3 = .ok (.iconst 1, 1) := by decide +kernel
theorem dX11_isIn_4 : decode cX11_isIn 4 = .ok (.iand, 1) := by decide +kernel
theorem dX11_isIn_5 : decode cX11_isIn 5 = .ok (.iconst 1, 1) := by decide +kernel
theorem dX11_isIn_6 : decode cX11_isIn 6 = .ok (.if_icmp .ne 7, 3) := by decide +kernel
theorem dX11_isIn_9 : decode cX11_isIn 9 = .ok (.iconst 1, 1) := by decide +kernel
theorem dX11_isIn_10 : decode cX11_isIn 10 = .ok (.goto 4, 3) := by decide +kernel
theorem dX11_isIn_13 : decode cX11_isIn 13 = .ok (.iconst 0, 1) := by decide +kernel
theorem dX11_isIn_14 : decode cX11_isIn 14 = .ok (.ireturn, 1) := by decide +kernel
theorem dX11_size_0 : decode cX11_size 0 = .ok (.iconst 0, 1) := by decide +kernel
theorem dX11_size_1 : decode cX11_size 1 = .ok (.istore_n 1, 1) := by decide +kernel
theorem dX11_size_2 : decode cX11_size 2 = .ok (.iconst 0, 1) := by decide +kernel
theorem dX11_size_3 : decode cX11_size 3 = .ok (.istore_n 2, 1) := by decide +kernel
theorem dX11_size_4 : decode cX11_size 4 = .ok (.iload_n 2, 1) := by decide +kernel
theorem dX11_size_5 : decode cX11_size 5 = .ok (.bipush 12, 2) := by decide +kernel
theorem dX11_size_7 : decode cX11_size 7 = .ok (.if_icmp .ge 25, 3) := by decide +kernel
theorem dX11_size_10 : decode cX11_size 10 = .ok (.iload_n 1, 1) := by decide +kernel
theorem dX11_size_11 : decode cX11_size 11 = .ok (.iload_n 0, 1) := by decide +kernel
theorem dX11_size_12 : decode cX11_size 12 = .ok (.iload_n 2, 1) := by decide +kernel
theorem dX11_size_13 : decode cX11_size 13 = .ok (.invokestatic 97, 3) := by decide +kernel
theorem dX11_size_16 : decode cX11_size 16 = .ok (.ifCond .eq 7, 3) := by decide +kernel
theorem dX11_size_19 : decode cX11_size 19 = .ok (.iconst 1, 1) := by decide +kernel
theorem dX11_size_20 : decode cX11_size 20 = .ok (.goto 4, 3) := by decide +kernel
theorem dX11_size_23 : decode cX11_size 23 = .ok (.iconst 0, 1) := by decide +kernel
theorem dX11_size_24 : decode cX11_size 24 = .ok (.iadd, 1) := by decide +kernel
theorem dX11_size_25 : decode cX11_size 25 = .ok (.istore_n 1, 1) := by decide +kernel
theorem dX11_size_26 : decode cX11_size 26 = .ok (.iinc 2 1, 3) := by decide +kernel
theorem dX11_size_29 : decode cX11_size 29 = .ok (.goto (-25), 3) := by decide +kernel
theorem dX11_size_32 : decode cX11_size 32 = .ok (.iload_n 1, 1) := by decide +kernel
theorem dX11_size_33 : decode cX11_size 33 = .ok (.ireturn, 1) := by decide +kernel
theorem dX11_table_0 : decode cX11_table 0 = .ok (.iload_n 1, 1) := by decide +kernel
theorem dX11_table_1 : decode cX11_table 1 = .ok (.iconst 0, 1) := by decide +kernel
theorem dX11_table_2 : decode cX11_table 2 = .ok (.iconst 3, 1) := by decide +kernel
theorem dX11_table_3 : decode cX11_table 3 = .ok (.invokestatic 89, 3) := by decide +kernel
theorem dX11_table_6 : decode cX11_table 6 = .ok (.ifCond .eq 31, 3) := by decide +kernel
theorem dX11_table_9 : decode cX11_table 9 = .ok (.aload_n 0, 1) := by decide +kernel
theorem dX11_table_10 : decode cX11_table 10 = .ok (.getfield 7, 3) := by decide +kernel
theorem dX11_table_13 : decode cX11_table 13 = .ok (.iload_n 1, 1) := by decide +kernel
theorem dX11_table_14 : decode cX11_table 14 = .ok (.iaload, 1) := by decide +kernel
theorem dX11_table_15 : decode cX11_table 15 = .ok (.ifCond .gt 22, 3) := by decide +kernel
theorem dX11_table_18 : decode cX11_table 18 = .ok (.iload_n 2, 1) := by decide +kernel
theorem dX11_table_19 : decode cX11_table 19 = .ok (.iconst 1, 1) := by decide +kernel
theorem dX11_table_20 : decode cX11_table 20 = .ok (.iconst 4, 1) := by decide +kernel
theorem dX11_table_21 : decode cX11_table 21 = .ok (.invokestatic 89, 3) := by decide +kernel
theorem dX11_table_24 : decode cX11_table 24 = .ok (.ifCond .eq 13, 3) := by decide +kernel
theorem dX11_table_27 : decode cX11_table 27 = .ok (.iload_n 3, 1) := by decide +kernel
theorem dX11_table_28 : decode cX11_table 28 = .ok (.iconst 2, 1) := by decide +kernel
theorem dX11_table_29 : decode cX11_table 29 = .ok (.bipush 8, 2) := by decide +kernel
theorem dX11_table_31 : decode cX11_table 31 = .ok (.invokestatic 89, 3) := by decide +kernel
theorem dX11_table_34 : decode cX11_table 34 = .ok (.ifCond .ne 5, 3) := by decide +kernel
theorem dX11_table_37 : decode cX11_table 37 = .ok (.iconst 0, 1) := by decide +kernel
theorem dX11_table_38 : decode cX11_table 38 = .ok (.ireturn, 1) := by decide +kernel
theorem dX11_table_39 : decode cX11_table 39 = .ok (.aload_n 0, 1) := by decide +kernel
theorem dX11_table_40 : decode cX11_table 40 = .ok (.getfield 7, 3) := by decide +kernel
theorem dX11_table_43 : decode cX11_table 43 = .ok (.iload_n 1, 1) := by decide +kernel
theorem dX11_table_44 : decode cX11_table 44 = .ok (.iload_n 2, 1) := by decide +kernel
theorem dX11_table_45 : decode cX11_table 45 = .ok (.iastore, 1) := by decide +kernel
theorem dX11_table_46 : decode cX11_table 46 = .ok (.aload_n 0, 1) := by decide +kernel
theorem dX11_table_47 : decode cX11_table 47 = .ok (.getfield 13, 3) := by decide +kernel
theorem dX11_table_50 : decode cX11_table 50 = .ok (.iload_n 1, 1) := by decide +kernel
theorem dX11_table_51 : decode cX11_table 51 = .ok (.iload_n 3, 1) := by decide +kernel
theorem dX11_table_52 : decode cX11_table 52 = .ok (.iastore, 1) := by decide +kernel
theorem dX11_table_53 : decode cX11_table 53 = .ok (.iconst 1, 1) := by decide +kernel
theorem dX11_table_54 : decode cX11_table 54 = .ok (.ireturn, 1) := by decide +kernel
theorem dX11_at_0 : decode cX11_at 0 = .ok (.aload_n 0, 1) := by decide +kernel
theorem dX11_at_1 : decode cX11_at 1 = .ok (.getfield 19, 3) := by decide +kernel
theorem dX11_at_4 : decode cX11_at 4 = .ok (.sipush 240, 3) := by decide +kernel
theorem dX11_at_7 : decode cX11_at 7 = .ok (.iload_n 1, 1) := by decide +kernel
theorem dX11_at_8 : decode cX11_at 8 = .ok (.imul, 1) := by decide +kernel
theorem dX11_at_9 : decode cX11_at 9 = .ok (.iconst 4, 1) := by decide +kernel
theorem dX11_at_10 : decode cX11_at 10 = .ok (.iload_n 2, 1) := by decide +kernel
theorem dX11_at_11 : decode cX11_at 11 = .ok (.imul, 1) := by decide +kernel
theorem dX11_at_12 : decode cX11_at 12 = .ok (.iadd, 1) := by decide +kernel
theorem dX11_at_13 : decode cX11_at 13 = .ok (.iload_n 3, 1) := by decide +kernel
theorem dX11_at_14 : decode cX11_at 14 = .ok (.iadd, 1) := by decide +kernel
theorem dX11_at_15 : decode cX11_at 15 = .ok (.iaload, 1) := by decide +kernel
theorem dX11_at_16 : decode cX11_at 16 = .ok (.ireturn, 1) := by decide +kernel
theorem dX11_put_0 : decode cX11_put 0 = .ok (.aload_n 0, 1) := by decide +kernel
theorem dX11_put_1 : decode cX11_put 1 = .ok (.iload_n 1, 1) := by decide +kernel
theorem dX11_put_2 : decode cX11_put 2 = .ok (.invokevirtual 93, 3) := by decide +kernel
theorem dX11_put_5 : decode cX11_put 5 = .ok (.ifCond .eq 14, 3) := by decide +kernel
theorem dX11_put_8 : decode cX11_put 8 = .ok (.aload_n 0, 1) := by decide +kernel
theorem dX11_put_9 : decode cX11_put 9 = .ok (.getfield 16, 3) := by decide +kernel
theorem dX11_put_12 : decode cX11_put 12 = .ok (.iload_n 1, 1) := by decide +kernel
theorem dX11_put_13 : decode cX11_put 13 = .ok (.iaload, 1) := by decide +kernel
theorem dX11_put_14 : decode cX11_put 14 = .ok (.bipush 60, 2) := by decide +kernel
theorem dX11_put_16 : decode cX11_put 16 = .ok (.if_icmp .ne 5, 3) := by decide +kernel
theorem dX11_put_19 : decode cX11_put 19 = .ok (.iconst (-1), 1) := by decide +kernel
theorem dX11_put_20 : decode cX11_put 20 = .ok (.ireturn, 1) := by decide +kernel
theorem dX11_put_21 : decode cX11_put 21 = .ok (.iconst 0, 1) := by decide +kernel
theorem dX11_put_22 : decode cX11_put 22 = .ok (.istore 6, 2) := by decide +kernel
theorem dX11_put_24 : decode cX11_put 24 = .ok (.iload 6, 2) := by decide +kernel
theorem dX11_put_26 : decode cX11_put 26 = .ok (.aload_n 0, 1) := by decide +kernel
theorem dX11_put_27 : decode cX11_put 27 = .ok (.getfield 7, 3) := by decide +kernel
theorem dX11_put_30 : decode cX11_put 30 = .ok (.iload_n 1, 1) := by decide +kernel
theorem dX11_put_31 : decode cX11_put 31 = .ok (.iaload, 1) := by decide +kernel
theorem dX11_put_32 : decode cX11_put 32 = .ok (.if_icmp .ge 53, 3) := by decide +kernel
theorem dX11_put_35 : decode cX11_put 35 = .ok (.iload 6, 2) := by decide +kernel
theorem dX11_put_37 : decode cX11_put 37 = .ok (.ifCond .ne 7, 3) := by decide +kernel
theorem dX11_put_40 : decode cX11_put 40 = .ok (.iload_n 2, 1) := by decide +kernel
theorem dX11_put_41 : decode cX11_put 41 = .ok (.goto 26, 3) := by decide +kernel
theorem dX11_put_44 : decode cX11_put 44 = .ok (.iload 6, 2) := by decide +kernel
theorem dX11_put_46 : decode cX11_put 46 = .ok (.iconst 1, 1) := by decide +kernel
theorem dX11_put_47 : decode cX11_put 47 = .ok (.if_icmp .ne 7, 3) := by decide +kernel
theorem dX11_put_50 : decode cX11_put 50 = .ok (.iload_n 3, 1) := by decide +kernel
theorem dX11_put_51 : decode cX11_put 51 = .ok (.goto 16, 3) := by decide +kernel
theorem dX11_put_54 : decode cX11_put 54 = .ok (.iload 6, 2) := by decide +kernel
theorem dX11_put_56 : decode cX11_put 56 = .ok (.iconst 2, 1) := by decide +kernel
theorem dX11_put_57 : decode cX11_put 57 = .ok (.if_icmp .ne 8, 3) := by decide +kernel
theorem dX11_put_60 : decode cX11_put 60 = .ok (.iload 4, 2) := by decide +kernel
theorem dX11_put_62 : decode cX11_put 62 = .ok (.goto 5, 3) := by decide +kernel
theorem dX11_put_65 : decode cX11_put 65 = .ok (.iload 5, 2) := by decide +kernel
theorem dX11_put_67 : decode cX11_put 67 = .ok (.iconst 0, 1) := by decide +kernel
theorem dX11_put_68 : decode cX11_put 68 = .ok (.sipush 999, 3) := by decide +kernel
theorem dX11_put_71 : decode cX11_put 71 = .ok (.invokestatic 89, 3) := by decide +kernel
theorem dX11_put_74 : decode cX11_put 74 = .ok (.ifCond .ne 5, 3) := by decide +kernel
theorem dX11_put_77 : decode cX11_put 77 = .ok (.iconst (-1), 1) := by decide +kernel
theorem dX11_put_78 : decode cX11_put 78 = .ok (.ireturn, 1) := by decide +kernel
theorem dX11_put_79 : decode cX11_put 79 = .ok (.iinc 6 1, 3) := by decide +kernel
theorem dX11_put_82 : decode cX11_put 82 = .ok (.goto (-58), 3) := by decide +kernel
theorem dX11_put_85 : decode cX11_put 85 = .ok (.iconst 0, 1) := by decide +kernel
theorem dX11_put_86 : decode cX11_put 86 = .ok (.istore 6, 2) := by decide +kernel
theorem dX11_put_88 : decode cX11_put 88 = .ok (.iload 6, 2) := by decide +kernel
theorem dX11_put_90 : decode cX11_put 90 = .ok (.aload_n 0, 1) := by decide +kernel
theorem dX11_put_91 : decode cX11_put 91 = .ok (.getfield 7, 3) := by decide +kernel
theorem dX11_put_94 : decode cX11_put 94 = .ok (.iload_n 1, 1) := by decide +kernel
theorem dX11_put_95 : decode cX11_put 95 = .ok (.iaload, 1) := by decide +kernel
theorem dX11_put_96 : decode cX11_put 96 = .ok (.if_icmp .ge 63, 3) := by decide +kernel
theorem dX11_put_99 : decode cX11_put 99 = .ok (.aload_n 0, 1) := by decide +kernel
theorem dX11_put_100 : decode cX11_put 100 = .ok (.getfield 19, 3) := by decide +kernel
theorem dX11_put_103 : decode cX11_put 103 = .ok (.sipush 240, 3) := by decide +kernel
theorem dX11_put_106 : decode cX11_put 106 = .ok (.iload_n 1, 1) := by decide +kernel
theorem dX11_put_107 : decode cX11_put 107 = .ok (.imul, 1) := by decide +kernel
theorem dX11_put_108 : decode cX11_put 108 = .ok (.iconst 4, 1) := by decide +kernel
theorem dX11_put_109 : decode cX11_put 109 = .ok (.aload_n 0, 1) := by decide +kernel
theorem dX11_put_110 : decode cX11_put 110 = .ok (.getfield 16, 3) := by decide +kernel
theorem dX11_put_113 : decode cX11_put 113 = .ok (.iload_n 1, 1) := by decide +kernel
theorem dX11_put_114 : decode cX11_put 114 = .ok (.iaload, 1) := by decide +kernel
theorem dX11_put_115 : decode cX11_put 115 = .ok (.imul, 1) := by decide +kernel
theorem dX11_put_116 : decode cX11_put 116 = .ok (.iadd, 1) := by decide +kernel
theorem dX11_put_117 : decode cX11_put 117 = .ok (.iload 6, 2) := by decide +kernel
theorem dX11_put_119 : decode cX11_put 119 = .ok (.iadd, 1) := by decide +kernel
theorem dX11_put_120 : decode cX11_put 120 = .ok (.iload 6, 2) := by decide +kernel
theorem dX11_put_122 : decode cX11_put 122 = .ok (.ifCond .ne 7, 3) := by decide +kernel
theorem dX11_put_125 : decode cX11_put 125 = .ok (.iload_n 2, 1) := by decide +kernel
theorem dX11_put_126 : decode cX11_put 126 = .ok (.goto 26, 3) := by decide +kernel
theorem dX11_put_129 : decode cX11_put 129 = .ok (.iload 6, 2) := by decide +kernel
theorem dX11_put_131 : decode cX11_put 131 = .ok (.iconst 1, 1) := by decide +kernel
theorem dX11_put_132 : decode cX11_put 132 = .ok (.if_icmp .ne 7, 3) := by decide +kernel
theorem dX11_put_135 : decode cX11_put 135 = .ok (.iload_n 3, 1) := by decide +kernel
theorem dX11_put_136 : decode cX11_put 136 = .ok (.goto 16, 3) := by decide +kernel
theorem dX11_put_139 : decode cX11_put 139 = .ok (.iload 6, 2) := by decide +kernel
theorem dX11_put_141 : decode cX11_put 141 = .ok (.iconst 2, 1) := by decide +kernel
theorem dX11_put_142 : decode cX11_put 142 = .ok (.if_icmp .ne 8, 3) := by decide +kernel
theorem dX11_put_145 : decode cX11_put 145 = .ok (.iload 4, 2) := by decide +kernel
theorem dX11_put_147 : decode cX11_put 147 = .ok (.goto 5, 3) := by decide +kernel
theorem dX11_put_150 : decode cX11_put 150 = .ok (.iload 5, 2) := by decide +kernel
theorem dX11_put_152 : decode cX11_put 152 = .ok (.iastore, 1) := by decide +kernel
theorem dX11_put_153 : decode cX11_put 153 = .ok (.iinc 6 1, 3) := by decide +kernel
theorem dX11_put_156 : decode cX11_put 156 = .ok (.goto (-68), 3) := by decide +kernel
theorem dX11_put_159 : decode cX11_put 159 = .ok (.aload_n 0, 1) := by decide +kernel
theorem dX11_put_160 : decode cX11_put 160 = .ok (.getfield 16, 3) := by decide +kernel
theorem dX11_put_163 : decode cX11_put 163 = .ok (.iload_n 1, 1) := by decide +kernel
theorem dX11_put_164 : decode cX11_put 164 = .ok (.dup2, 1) := by decide +kernel
theorem dX11_put_165 : decode cX11_put 165 = .ok (.iaload, 1) := by decide +kernel
theorem dX11_put_166 : decode cX11_put 166 = .ok (.iconst 1, 1) := by decide +kernel
theorem dX11_put_167 : decode cX11_put 167 = .ok (.iadd, 1) := by decide +kernel
theorem dX11_put_168 : decode cX11_put 168 = .ok (.iastore, 1) := by decide +kernel
theorem dX11_put_169 : decode cX11_put 169 = .ok (.aload_n 0, 1) := by decide +kernel
theorem dX11_put_170 : decode cX11_put 170 = .ok (.getfield 16, 3) := by decide +kernel
theorem dX11_put_173 : decode cX11_put 173 = .ok (.iload_n 1, 1) := by decide +kernel
theorem dX11_put_174 : decode cX11_put 174 = .ok (.iaload, 1) := by decide +kernel
theorem dX11_put_175 : decode cX11_put 175 = .ok (.iconst 1, 1) := by decide +kernel
theorem dX11_put_176 : decode cX11_put 176 = .ok (.isub, 1) := by decide +kernel
theorem dX11_put_177 : decode cX11_put 177 = .ok (.ireturn, 1) := by decide +kernel
theorem dX11_strike_0 : decode cX11_strike 0 = .ok (.aload_n 0, 1) := by decide +kernel
theorem dX11_strike_1 : decode cX11_strike 1 = .ok (.iload_n 1, 1) := by decide +kernel
theorem dX11_strike_2 : decode cX11_strike 2 = .ok (.invokevirtual 93, 3) := by decide +kernel
theorem dX11_strike_5 : decode cX11_strike 5 = .ok (.ifCond .eq 19, 3) := by decide +kernel
theorem dX11_strike_8 : decode cX11_strike 8 = .ok (.iload_n 2, 1) := by decide +kernel
theorem dX11_strike_9 : decode cX11_strike 9 = .ok (.iconst 0, 1) := by decide +kernel
theorem dX11_strike_10 : decode cX11_strike 10 = .ok (.aload_n 0, 1) := by decide +kernel
theorem dX11_strike_11 : decode cX11_strike 11 = .ok (.getfield 16, 3) := by decide +kernel
theorem dX11_strike_14 : decode cX11_strike 14 = .ok (.iload_n 1, 1) := by decide +kernel
theorem dX11_strike_15 : decode cX11_strike 15 = .ok (.iaload, 1) := by decide +kernel
theorem dX11_strike_16 : decode cX11_strike 16 = .ok (.iconst 1, 1) := by decide +kernel
theorem dX11_strike_17 : decode cX11_strike 17 = .ok (.isub, 1) := by decide +kernel
theorem dX11_strike_18 : decode cX11_strike 18 = .ok (.invokestatic 89, 3) := by decide +kernel
theorem dX11_strike_21 : decode cX11_strike 21 = .ok (.ifCond .ne 5, 3) := by decide +kernel
theorem dX11_strike_24 : decode cX11_strike 24 = .ok (.iconst 0, 1) := by decide +kernel
theorem dX11_strike_25 : decode cX11_strike 25 = .ok (.ireturn, 1) := by decide +kernel
theorem dX11_strike_26 : decode cX11_strike 26 = .ok (.aload_n 0, 1) := by decide +kernel
theorem dX11_strike_27 : decode cX11_strike 27 = .ok (.getfield 16, 3) := by decide +kernel
theorem dX11_strike_30 : decode cX11_strike 30 = .ok (.iload_n 1, 1) := by decide +kernel
theorem dX11_strike_31 : decode cX11_strike 31 = .ok (.dup2, 1) := by decide +kernel
theorem dX11_strike_32 : decode cX11_strike 32 = .ok (.iaload, 1) := by decide +kernel
theorem dX11_strike_33 : decode cX11_strike 33 = .ok (.iconst 1, 1) := by decide +kernel
theorem dX11_strike_34 : decode cX11_strike 34 = .ok (.isub, 1) := by decide +kernel
theorem dX11_strike_35 : decode cX11_strike 35 = .ok (.iastore, 1) := by decide +kernel
theorem dX11_strike_36 : decode cX11_strike 36 = .ok (.sipush 240, 3) := by decide +kernel
theorem dX11_strike_39 : decode cX11_strike 39 = .ok (.iload_n 1, 1) := by decide +kernel
theorem dX11_strike_40 : decode cX11_strike 40 = .ok (.imul, 1) := by decide +kernel
theorem dX11_strike_41 : decode cX11_strike 41 = .ok (.iconst 4, 1) := by decide +kernel
theorem dX11_strike_42 : decode cX11_strike 42 = .ok (.iload_n 2, 1) := by decide +kernel
theorem dX11_strike_43 : decode cX11_strike 43 = .ok (.imul, 1) := by decide +kernel
theorem dX11_strike_44 : decode cX11_strike 44 = .ok (.iadd, 1) := by decide +kernel
theorem dX11_strike_45 : decode cX11_strike 45 = .ok (.istore_n 3, 1) := by decide +kernel
theorem dX11_strike_46 : decode cX11_strike 46 = .ok (.iload_n 3, 1) := by decide +kernel
theorem dX11_strike_47 : decode cX11_strike 47 = .ok (.sipush 240, 3) := by decide +kernel
theorem dX11_strike_50 : decode cX11_strike 50 = .ok (.iload_n 1, 1) := by decide +kernel
theorem dX11_strike_51 : decode cX11_strike 51 = .ok (.imul, 1) := by decide +kernel
theorem dX11_strike_52 : decode cX11_strike 52 = .ok (.iconst 4, 1) := by decide +kernel
theorem dX11_strike_53 : decode cX11_strike 53 = .ok (.aload_n 0, 1) := by decide +kernel
theorem dX11_strike_54 : decode cX11_strike 54 = .ok (.getfield 16, 3) := by decide +kernel
theorem dX11_strike_57 : decode cX11_strike 57 = .ok (.iload_n 1, 1) := by decide +kernel
theorem dX11_strike_58 : decode cX11_strike 58 = .ok (.iaload, 1) := by decide +kernel
theorem dX11_strike_59 : decode cX11_strike 59 = .ok (.imul, 1) := by decide +kernel
theorem dX11_strike_60 : decode cX11_strike 60 = .ok (.iadd, 1) := by decide +kernel
theorem dX11_strike_61 : decode cX11_strike 61 = .ok (.if_icmp .ge 23, 3) := by decide +kernel
theorem dX11_strike_64 : decode cX11_strike 64 = .ok (.aload_n 0, 1) := by decide +kernel
theorem dX11_strike_65 : decode cX11_strike 65 = .ok (.getfield 19, 3) := by decide +kernel
theorem dX11_strike_68 : decode cX11_strike 68 = .ok (.iload_n 3, 1) := by decide +kernel
theorem dX11_strike_69 : decode cX11_strike 69 = .ok (.aload_n 0, 1) := by decide +kernel
theorem dX11_strike_70 : decode cX11_strike 70 = .ok (.getfield 19, 3) := by decide +kernel
theorem dX11_strike_73 : decode cX11_strike 73 = .ok (.iload_n 3, 1) := by decide +kernel
theorem dX11_strike_74 : decode cX11_strike 74 = .ok (.iconst 4, 1) := by decide +kernel
theorem dX11_strike_75 : decode cX11_strike 75 = .ok (.iadd, 1) := by decide +kernel
theorem dX11_strike_76 : decode cX11_strike 76 = .ok (.iaload, 1) := by decide +kernel
theorem dX11_strike_77 : decode cX11_strike 77 = .ok (.iastore, 1) := by decide +kernel
theorem dX11_strike_78 : decode cX11_strike 78 = .ok (.iinc 3 1, 3) := by decide +kernel
theorem dX11_strike_81 : decode cX11_strike 81 = .ok (.goto (-35), 3) := by decide +kernel
theorem dX11_strike_84 : decode cX11_strike 84 = .ok (.iconst 1, 1) := by decide +kernel
theorem dX11_strike_85 : decode cX11_strike 85 = .ok (.ireturn, 1) := by decide +kernel
theorem dX11_recount_0 : decode cX11_recount 0 = .ok (.aload_n 0, 1) := by decide +kernel
theorem dX11_recount_1 : decode cX11_recount 1 = .ok (.iload_n 1, 1) := by decide +kernel
theorem dX11_recount_2 : decode cX11_recount 2 = .ok (.invokevirtual 93, 3) := by decide +kernel
theorem dX11_recount_5 : decode cX11_recount 5 = .ok (.ifCond .ne 5, 3) := by decide +kernel
theorem dX11_recount_8 : decode cX11_recount 8 = .ok (.iconst (-1), 1) := by decide +kernel
theorem dX11_recount_9 : decode cX11_recount 9 = .ok (.ireturn, 1) := by decide +kernel
theorem dX11_recount_10 : decode cX11_recount 10 = .ok (.aload_n 0, 1) := by decide +kernel
theorem dX11_recount_11 : decode cX11_recount 11 = .ok (.getfield 22, 3) := by decide +kernel
theorem dX11_recount_14 : decode cX11_recount 14 = .ok (.iload_n 1, 1) := by decide +kernel
theorem dX11_recount_15 : decode cX11_recount 15 = .ok (.aload_n 0, 1) := by decide +kernel
theorem dX11_recount_16 : decode cX11_recount 16 = .ok (.getfield 16, 3) := by decide +kernel
theorem dX11_recount_19 : decode cX11_recount 19 = .ok (.iload_n 1, 1) := by decide +kernel
theorem dX11_recount_20 : decode cX11_recount 20 = .ok (.iaload, 1) := by decide +kernel
theorem dX11_recount_21 : decode cX11_recount 21 = .ok (.iastore, 1) := by decide +kernel
theorem dX11_recount_22 : decode cX11_recount 22 = .ok (.iconst 0, 1) := by decide +kernel
theorem dX11_recount_23 : decode cX11_recount 23 = .ok (.istore_n 2, 1) := by decide +kernel
theorem dX11_recount_24 : decode cX11_recount 24 = .ok (.iload_n 2, 1) := by decide +kernel
theorem dX11_recount_25 : decode cX11_recount 25 = .ok (.aload_n 0, 1) := by decide +kernel
theorem dX11_recount_26 : decode cX11_recount 26 = .ok (.getfield 7, 3) := by decide +kernel
theorem dX11_recount_29 : decode cX11_recount 29 = .ok (.iload_n 1, 1) := by decide +kernel
theorem dX11_recount_30 : decode cX11_recount 30 = .ok (.iaload, 1) := by decide +kernel
theorem dX11_recount_31 : decode cX11_recount 31 = .ok (.if_icmp .ge 195, 3) := by decide +kernel
theorem dX11_recount_34 : decode cX11_recount 34 = .ok (.iconst 4, 1) := by decide +kernel
theorem dX11_recount_35 : decode cX11_recount 35 = .ok (.iload_n 1, 1) := by decide +kernel
theorem dX11_recount_36 : decode cX11_recount 36 = .ok (.imul, 1) := by decide +kernel
theorem dX11_recount_37 : decode cX11_recount 37 = .ok (.iload_n 2, 1) := by decide +kernel
theorem dX11_recount_38 : decode cX11_recount 38 = .ok (.iadd, 1) := by decide +kernel
theorem dX11_recount_39 : decode cX11_recount 39 = .ok (.istore_n 3, 1) := by decide +kernel
theorem dX11_recount_40 : decode cX11_recount 40 = .ok (.aload_n 0, 1) := by decide +kernel
theorem dX11_recount_41 : decode cX11_recount 41 = .ok (.getfield 25, 3) := by decide +kernel
theorem dX11_recount_44 : decode cX11_recount 44 = .ok (.iload_n 3, 1) := by decide +kernel
theorem dX11_recount_45 : decode cX11_recount 45 = .ok (.iconst 0, 1) := by decide +kernel
theorem dX11_recount_46 : decode cX11_recount 46 = .ok (.iastore, 1) := by decide +kernel
theorem dX11_recount_47 : decode cX11_recount 47 = .ok (.aload_n 0, 1) := by decide +kernel
theorem dX11_recount_48 : decode cX11_recount 48 = .ok (.getfield 28, 3) := by decide +kernel
theorem dX11_recount_51 : decode cX11_recount 51 = .ok (.iload_n 3, 1) := by decide +kernel
theorem dX11_recount_52 : decode cX11_recount 52 = .ok (.iconst 0, 1) := by decide +kernel
theorem dX11_recount_53 : decode cX11_recount 53 = .ok (.iastore, 1) := by decide +kernel
theorem dX11_recount_54 : decode cX11_recount 54 = .ok (.aload_n 0, 1) := by decide +kernel
theorem dX11_recount_55 : decode cX11_recount 55 = .ok (.getfield 31, 3) := by decide +kernel
theorem dX11_recount_58 : decode cX11_recount 58 = .ok (.iload_n 3, 1) := by decide +kernel
theorem dX11_recount_59 : decode cX11_recount 59 = .ok (.iconst 0, 1) := by decide +kernel
theorem dX11_recount_60 : decode cX11_recount 60 = .ok (.iastore, 1) := by decide +kernel
theorem dX11_recount_61 : decode cX11_recount 61 = .ok (.iconst 0, 1) := by decide +kernel
theorem dX11_recount_62 : decode cX11_recount 62 = .ok (.istore 4, 2) := by decide +kernel
theorem dX11_recount_64 : decode cX11_recount 64 = .ok (.iload 4, 2) := by decide +kernel
theorem dX11_recount_66 : decode cX11_recount 66 = .ok (.aload_n 0, 1) := by decide +kernel
theorem dX11_recount_67 : decode cX11_recount 67 = .ok (.getfield 16, 3) := by decide +kernel
theorem dX11_recount_70 : decode cX11_recount 70 = .ok (.iload_n 1, 1) := by decide +kernel
theorem dX11_recount_71 : decode cX11_recount 71 = .ok (.iaload, 1) := by decide +kernel
theorem dX11_recount_72 : decode cX11_recount 72 = .ok (.if_icmp .ge 148, 3) := by decide +kernel
theorem dX11_recount_75 : decode cX11_recount 75 = .ok (.aload_n 0, 1) := by decide +kernel
theorem dX11_recount_76 : decode cX11_recount 76 = .ok (.iload_n 1, 1) := by decide +kernel
theorem dX11_recount_77 : decode cX11_recount 77 = .ok (.iload 4, 2) := by decide +kernel
theorem dX11_recount_79 : decode cX11_recount 79 = .ok (.iload_n 2, 1) := by decide +kernel
theorem dX11_recount_80 : decode cX11_recount 80 = .ok (.invokevirtual 101, 3) := by decide +kernel
theorem dX11_recount_83 : decode cX11_recount 83 = .ok (.istore 5, 2) := by decide +kernel
theorem dX11_recount_85 : decode cX11_recount 85 = .ok (.iconst 1, 1) := by decide +kernel
theorem dX11_recount_86 : decode cX11_recount 86 = .ok (.istore 6, 2) := by decide +kernel
theorem dX11_recount_88 : decode cX11_recount 88 = .ok (.iconst 0, 1) := by decide +kernel
theorem dX11_recount_89 : decode cX11_recount 89 = .ok (.istore 7, 2) := by decide +kernel
theorem dX11_recount_91 : decode cX11_recount 91 = .ok (.iload 7, 2) := by decide +kernel
theorem dX11_recount_93 : decode cX11_recount 93 = .ok (.iload 4, 2) := by decide +kernel
theorem dX11_recount_95 : decode cX11_recount 95 = .ok (.if_icmp .ge 34, 3) := by decide +kernel
theorem dX11_recount_98 : decode cX11_recount 98 = .ok (.iload 6, 2) := by decide +kernel
theorem dX11_recount_100 : decode cX11_recount 100 = .ok (.ifCond .eq 20, 3) := by decide +kernel
theorem dX11_recount_103 : decode cX11_recount 103 = .ok (.aload_n 0, 1) := by decide +kernel
theorem dX11_recount_104 : decode cX11_recount 104 = .ok (.iload_n 1, 1) := by decide +kernel
theorem dX11_recount_105 : decode cX11_recount 105 = .ok (.iload 7, 2) := by decide +kernel
theorem dX11_recount_107 : decode cX11_recount 107 = .ok (.iload_n 2, 1) := by decide +kernel
theorem dX11_recount_108 : decode cX11_recount 108 = .ok (.invokevirtual 101, 3) := by decide +kernel
theorem dX11_recount_111 : decode cX11_recount 111 = .ok (.iload 5, 2) := by decide +kernel
theorem dX11_recount_113 : decode cX11_recount 113 = .ok (.if_icmp .eq 7, 3) := by decide +kernel
theorem dX11_recount_116 : decode cX11_recount 116 = .ok (.iconst 1, 1) := by decide +kernel
theorem dX11_recount_117 : decode cX11_recount 117 = .ok (.goto 4, 3) := by decide +kernel
theorem dX11_recount_120 : decode cX11_recount 120 = .ok (.iconst 0, 1) := by decide +kernel
theorem dX11_recount_121 : decode cX11_recount 121 = .ok (.istore 6, 2) := by decide +kernel
theorem dX11_recount_123 : decode cX11_recount 123 = .ok (.iinc 7 1, 3) := by decide +kernel
theorem dX11_recount_126 : decode cX11_recount 126 = .ok (.goto (-35), 3) := by decide +kernel
theorem dX11_recount_129 : decode cX11_recount 129 = .ok (.aload_n 0, 1) := by decide +kernel
theorem dX11_recount_130 : decode cX11_recount 130 = .ok (.getfield 25, 3) := by decide +kernel
theorem dX11_recount_133 : decode cX11_recount 133 = .ok (.iload_n 3, 1) := by decide +kernel
theorem dX11_recount_134 : decode cX11_recount 134 = .ok (.dup2, 1) := by decide +kernel
theorem dX11_recount_135 : decode cX11_recount 135 = .ok (.iaload, 1) := by decide +kernel
theorem dX11_recount_136 : decode cX11_recount 136 = .ok (.iload 6, 2) := by decide +kernel
theorem dX11_recount_138 : decode cX11_recount 138 = .ok (.ifCond .eq 7, 3) := by decide +kernel
theorem dX11_recount_141 : decode cX11_recount 141 = .ok (.iconst 1, 1) := by decide +kernel
theorem dX11_recount_142 : decode cX11_recount 142 = .ok (.goto 4, 3) := by decide +kernel
theorem dX11_recount_145 : decode cX11_recount 145 = .ok (.iconst 0, 1) := by decide +kernel
theorem dX11_recount_146 : decode cX11_recount 146 = .ok (.iadd, 1) := by decide +kernel
theorem dX11_recount_147 : decode cX11_recount 147 = .ok (.iastore, 1) := by decide +kernel
theorem dX11_recount_148 : decode cX11_recount 148 = .ok (.aload_n 0, 1) := by decide +kernel
theorem dX11_recount_149 : decode cX11_recount 149 = .ok (.getfield 28, 3) := by decide +kernel
theorem dX11_recount_152 : decode cX11_recount 152 = .ok (.iload_n 3, 1) := by decide +kernel
theorem dX11_recount_153 : decode cX11_recount 153 = .ok (.iload 4, 2) := by decide +kernel
theorem dX11_recount_155 : decode cX11_recount 155 = .ok (.ifCond .eq 14, 3) := by decide +kernel
theorem dX11_recount_158 : decode cX11_recount 158 = .ok (.iload 5, 2) := by decide +kernel
theorem dX11_recount_160 : decode cX11_recount 160 = .ok (.aload_n 0, 1) := by decide +kernel
theorem dX11_recount_161 : decode cX11_recount 161 = .ok (.getfield 28, 3) := by decide +kernel
theorem dX11_recount_164 : decode cX11_recount 164 = .ok (.iload_n 3, 1) := by decide +kernel
theorem dX11_recount_165 : decode cX11_recount 165 = .ok (.iaload, 1) := by decide +kernel
theorem dX11_recount_166 : decode cX11_recount 166 = .ok (.if_icmp .ge 8, 3) := by decide +kernel
theorem dX11_recount_169 : decode cX11_recount 169 = .ok (.iload 5, 2) := by decide +kernel
theorem dX11_recount_171 : decode cX11_recount 171 = .ok (.goto 9, 3) := by decide +kernel
theorem dX11_recount_174 : decode cX11_recount 174 = .ok (.aload_n 0, 1) := by decide +kernel
theorem dX11_recount_175 : decode cX11_recount 175 = .ok (.getfield 28, 3) := by decide +kernel
theorem dX11_recount_178 : decode cX11_recount 178 = .ok (.iload_n 3, 1) := by decide +kernel
theorem dX11_recount_179 : decode cX11_recount 179 = .ok (.iaload, 1) := by decide +kernel
theorem dX11_recount_180 : decode cX11_recount 180 = .ok (.iastore, 1) := by decide +kernel
theorem dX11_recount_181 : decode cX11_recount 181 = .ok (.aload_n 0, 1) := by decide +kernel
theorem dX11_recount_182 : decode cX11_recount 182 = .ok (.getfield 31, 3) := by decide +kernel
theorem dX11_recount_185 : decode cX11_recount 185 = .ok (.iload_n 3, 1) := by decide +kernel
theorem dX11_recount_186 : decode cX11_recount 186 = .ok (.iload 4, 2) := by decide +kernel
theorem dX11_recount_188 : decode cX11_recount 188 = .ok (.ifCond .eq 14, 3) := by decide +kernel
theorem dX11_recount_191 : decode cX11_recount 191 = .ok (.iload 5, 2) := by decide +kernel
theorem dX11_recount_193 : decode cX11_recount 193 = .ok (.aload_n 0, 1) := by decide +kernel
theorem dX11_recount_194 : decode cX11_recount 194 = .ok (.getfield 31, 3) := by decide +kernel
theorem dX11_recount_197 : decode cX11_recount 197 = .ok (.iload_n 3, 1) := by decide +kernel
theorem dX11_recount_198 : decode cX11_recount 198 = .ok (.iaload, 1) := by decide +kernel
theorem dX11_recount_199 : decode cX11_recount 199 = .ok (.if_icmp .le 8, 3) := by decide +kernel
theorem dX11_recount_202 : decode cX11_recount 202 = .ok (.iload 5, 2) := by decide +kernel
theorem dX11_recount_204 : decode cX11_recount 204 = .ok (.goto 9, 3) := by decide +kernel
theorem dX11_recount_207 : decode cX11_recount 207 = .ok (.aload_n 0, 1) := by decide +kernel
theorem dX11_recount_208 : decode cX11_recount 208 = .ok (.getfield 31, 3) := by decide +kernel
theorem dX11_recount_211 : decode cX11_recount 211 = .ok (.iload_n 3, 1) := by decide +kernel
theorem dX11_recount_212 : decode cX11_recount 212 = .ok (.iaload, 1) := by decide +kernel
theorem dX11_recount_213 : decode cX11_recount 213 = .ok (.iastore, 1) := by decide +kernel
theorem dX11_recount_214 : decode cX11_recount 214 = .ok (.iinc 4 1, 3) := by decide +kernel
theorem dX11_recount_217 : decode cX11_recount 217 = .ok (.goto (-153), 3) := by decide +kernel
theorem dX11_recount_220 : decode cX11_recount 220 = .ok (.iinc 2 1, 3) := by decide +kernel
theorem dX11_recount_223 : decode cX11_recount 223 = .ok (.goto (-199), 3) := by decide +kernel
theorem dX11_recount_226 : decode cX11_recount 226 = .ok (.aload_n 0, 1) := by decide +kernel
theorem dX11_recount_227 : decode cX11_recount 227 = .ok (.getfield 22, 3) := by decide +kernel
theorem dX11_recount_230 : decode cX11_recount 230 = .ok (.iload_n 1, 1) := by decide +kernel
end
section
theorem dX11_recount_231 : decode cX11_recount 231 = .ok (.iaload, 1) := by decide +kernel
theorem dX11_recount_232 : decode cX11_recount 232 = .ok (.ireturn, 1) := by decide +kernel
theorem dX11_pages_0 : decode cX11_pages 0 = .ok (.aload_n 0, 1) := by decide +kernel
theorem dX11_pages_1 : decode cX11_pages 1 = .ok (.getfield 22, 3) := by decide +kernel
theorem dX11_pages_4 : decode cX11_pages 4 = .ok (.iload_n 1, 1) := by decide +kernel
theorem dX11_pages_5 : decode cX11_pages 5 = .ok (.iaload, 1) := by decide +kernel
theorem dX11_pages_6 : decode cX11_pages 6 = .ok (.aload_n 0, 1) := by decide +kernel
theorem dX11_pages_7 : decode cX11_pages 7 = .ok (.getfield 13, 3) := by decide +kernel
theorem dX11_pages_10 : decode cX11_pages 10 = .ok (.iload_n 1, 1) := by decide +kernel
theorem dX11_pages_11 : decode cX11_pages 11 = .ok (.iaload, 1) := by decide +kernel
theorem dX11_pages_12 : decode cX11_pages 12 = .ok (.invokestatic 105, 3) := by decide +kernel
theorem dX11_pages_15 : decode cX11_pages 15 = .ok (.ireturn, 1) := by decide +kernel
theorem dX11_counts_0 : decode cX11_counts 0 = .ok (.aload_n 0, 1) := by decide +kernel
theorem dX11_counts_1 : decode cX11_counts 1 = .ok (.iload_n 1, 1) := by decide +kernel
theorem dX11_counts_2 : decode cX11_counts 2 = .ok (.invokevirtual 93, 3) := by decide +kernel
theorem dX11_counts_5 : decode cX11_counts 5 = .ok (.ifCond .ne 5, 3) := by decide +kernel
theorem dX11_counts_8 : decode cX11_counts 8 = .ok (.iconst (-1), 1) := by decide +kernel
theorem dX11_counts_9 : decode cX11_counts 9 = .ok (.ireturn, 1) := by decide +kernel
theorem dX11_counts_10 : decode cX11_counts 10 = .ok (.iload_n 3, 1) := by decide +kernel
theorem dX11_counts_11 : decode cX11_counts 11 = .ok (.tableswitch 129 0 5 #[37, 44, 50, 74, 98, 122], 37) := by decide +kernel
theorem dX11_counts_48 : decode cX11_counts 48 = .ok (.aload_n 0, 1) := by decide +kernel
theorem dX11_counts_49 : decode cX11_counts 49 = .ok (.getfield 22, 3) := by decide +kernel
theorem dX11_counts_52 : decode cX11_counts 52 = .ok (.iload_n 1, 1) := by decide +kernel
theorem dX11_counts_53 : decode cX11_counts 53 = .ok (.iaload, 1) := by decide +kernel
theorem dX11_counts_54 : decode cX11_counts 54 = .ok (.ireturn, 1) := by decide +kernel
theorem dX11_counts_55 : decode cX11_counts 55 = .ok (.aload_n 0, 1) := by decide +kernel
theorem dX11_counts_56 : decode cX11_counts 56 = .ok (.iload_n 1, 1) := by decide +kernel
theorem dX11_counts_57 : decode cX11_counts 57 = .ok (.invokevirtual 109, 3) := by decide +kernel
theorem dX11_counts_60 : decode cX11_counts 60 = .ok (.ireturn, 1) := by decide +kernel
theorem dX11_counts_61 : decode cX11_counts 61 = .ok (.aload_n 0, 1) := by decide +kernel
theorem dX11_counts_62 : decode cX11_counts 62 = .ok (.iload_n 1, 1) := by decide +kernel
theorem dX11_counts_63 : decode cX11_counts 63 = .ok (.iload_n 2, 1) := by decide +kernel
theorem dX11_counts_64 : decode cX11_counts 64 = .ok (.invokevirtual 113, 3) := by decide +kernel
theorem dX11_counts_67 : decode cX11_counts 67 = .ok (.ifCond .eq 16, 3) := by decide +kernel
theorem dX11_counts_70 : decode cX11_counts 70 = .ok (.aload_n 0, 1) := by decide +kernel
theorem dX11_counts_71 : decode cX11_counts 71 = .ok (.getfield 25, 3) := by decide +kernel
theorem dX11_counts_74 : decode cX11_counts 74 = .ok (.iconst 4, 1) := by decide +kernel
theorem dX11_counts_75 : decode cX11_counts 75 = .ok (.iload_n 1, 1) := by decide +kernel
theorem dX11_counts_76 : decode cX11_counts 76 = .ok (.imul, 1) := by decide +kernel
theorem dX11_counts_77 : decode cX11_counts 77 = .ok (.iload_n 2, 1) := by decide +kernel
theorem dX11_counts_78 : decode cX11_counts 78 = .ok (.iadd, 1) := by decide +kernel
theorem dX11_counts_79 : decode cX11_counts 79 = .ok (.iaload, 1) := by decide +kernel
theorem dX11_counts_80 : decode cX11_counts 80 = .ok (.goto 4, 3) := by decide +kernel
theorem dX11_counts_83 : decode cX11_counts 83 = .ok (.iconst (-1), 1) := by decide +kernel
theorem dX11_counts_84 : decode cX11_counts 84 = .ok (.ireturn, 1) := by decide +kernel
theorem dX11_counts_85 : decode cX11_counts 85 = .ok (.aload_n 0, 1) := by decide +kernel
theorem dX11_counts_86 : decode cX11_counts 86 = .ok (.iload_n 1, 1) := by decide +kernel
theorem dX11_counts_87 : decode cX11_counts 87 = .ok (.iload_n 2, 1) := by decide +kernel
theorem dX11_counts_88 : decode cX11_counts 88 = .ok (.invokevirtual 113, 3) := by decide +kernel
theorem dX11_counts_91 : decode cX11_counts 91 = .ok (.ifCond .eq 16, 3) := by decide +kernel
theorem dX11_counts_94 : decode cX11_counts 94 = .ok (.aload_n 0, 1) := by decide +kernel
theorem dX11_counts_95 : decode cX11_counts 95 = .ok (.getfield 28, 3) := by decide +kernel
theorem dX11_counts_98 : decode cX11_counts 98 = .ok (.iconst 4, 1) := by decide +kernel
theorem dX11_counts_99 : decode cX11_counts 99 = .ok (.iload_n 1, 1) := by decide +kernel
theorem dX11_counts_100 : decode cX11_counts 100 = .ok (.imul, 1) := by decide +kernel
theorem dX11_counts_101 : decode cX11_counts 101 = .ok (.iload_n 2, 1) := by decide +kernel
theorem dX11_counts_102 : decode cX11_counts 102 = .ok (.iadd, 1) := by decide +kernel
theorem dX11_counts_103 : decode cX11_counts 103 = .ok (.iaload, 1) := by decide +kernel
theorem dX11_counts_104 : decode cX11_counts 104 = .ok (.goto 4, 3) := by decide +kernel
theorem dX11_counts_107 : decode cX11_counts 107 = .ok (.iconst (-1), 1) := by decide +kernel
theorem dX11_counts_108 : decode cX11_counts 108 = .ok (.ireturn, 1) := by decide +kernel
theorem dX11_counts_109 : decode cX11_counts 109 = .ok (.aload_n 0, 1) := by decide +kernel
theorem dX11_counts_110 : decode cX11_counts 110 = .ok (.iload_n 1, 1) := by decide +kernel
theorem dX11_counts_111 : decode cX11_counts 111 = .ok (.iload_n 2, 1) := by decide +kernel
theorem dX11_counts_112 : decode cX11_counts 112 = .ok (.invokevirtual 113, 3) := by decide +kernel
theorem dX11_counts_115 : decode cX11_counts 115 = .ok (.ifCond .eq 16, 3) := by decide +kernel
theorem dX11_counts_118 : decode cX11_counts 118 = .ok (.aload_n 0, 1) := by decide +kernel
theorem dX11_counts_119 : decode cX11_counts 119 = .ok (.getfield 31, 3) := by decide +kernel
theorem dX11_counts_122 : decode cX11_counts 122 = .ok (.iconst 4, 1) := by decide +kernel
theorem dX11_counts_123 : decode cX11_counts 123 = .ok (.iload_n 1, 1) := by decide +kernel
theorem dX11_counts_124 : decode cX11_counts 124 = .ok (.imul, 1) := by decide +kernel
theorem dX11_counts_125 : decode cX11_counts 125 = .ok (.iload_n 2, 1) := by decide +kernel
theorem dX11_counts_126 : decode cX11_counts 126 = .ok (.iadd, 1) := by decide +kernel
theorem dX11_counts_127 : decode cX11_counts 127 = .ok (.iaload, 1) := by decide +kernel
theorem dX11_counts_128 : decode cX11_counts 128 = .ok (.goto 4, 3) := by decide +kernel
theorem dX11_counts_131 : decode cX11_counts 131 = .ok (.iconst (-1), 1) := by decide +kernel
theorem dX11_counts_132 : decode cX11_counts 132 = .ok (.ireturn, 1) := by decide +kernel
theorem dX11_counts_133 : decode cX11_counts 133 = .ok (.aload_n 0, 1) := by decide +kernel
theorem dX11_counts_134 : decode cX11_counts 134 = .ok (.getfield 16, 3) := by decide +kernel
theorem dX11_counts_137 : decode cX11_counts 137 = .ok (.iload_n 1, 1) := by decide +kernel
theorem dX11_counts_138 : decode cX11_counts 138 = .ok (.iaload, 1) := by decide +kernel
theorem dX11_counts_139 : decode cX11_counts 139 = .ok (.ireturn, 1) := by decide +kernel
theorem dX11_counts_140 : decode cX11_counts 140 = .ok (.iconst (-1), 1) := by decide +kernel
theorem dX11_counts_141 : decode cX11_counts 141 = .ok (.ireturn, 1) := by decide +kernel
theorem dX11_changes_0 : decode cX11_changes 0 = .ok (.aload_n 0, 1) := by decide +kernel
theorem dX11_changes_1 : decode cX11_changes 1 = .ok (.iload_n 1, 1) := by decide +kernel
theorem dX11_changes_2 : decode cX11_changes 2 = .ok (.invokevirtual 93, 3) := by decide +kernel
theorem dX11_changes_5 : decode cX11_changes 5 = .ok (.ifCond .eq 14, 3) := by decide +kernel
theorem dX11_changes_8 : decode cX11_changes 8 = .ok (.iload_n 2, 1) := by decide +kernel
theorem dX11_changes_9 : decode cX11_changes 9 = .ok (.iconst 0, 1) := by decide +kernel
theorem dX11_changes_10 : decode cX11_changes 10 = .ok (.sipush 1000, 3) := by decide +kernel
theorem dX11_changes_13 : decode cX11_changes 13 = .ok (.invokestatic 89, 3) := by decide +kernel
theorem dX11_changes_16 : decode cX11_changes 16 = .ok (.ifCond .ne 5, 3) := by decide +kernel
theorem dX11_changes_19 : decode cX11_changes 19 = .ok (.iconst 0, 1) := by decide +kernel
theorem dX11_changes_20 : decode cX11_changes 20 = .ok (.ireturn, 1) := by decide +kernel
theorem dX11_changes_21 : decode cX11_changes 21 = .ok (.aload_n 0, 1) := by decide +kernel
theorem dX11_changes_22 : decode cX11_changes 22 = .ok (.getfield 34, 3) := by decide +kernel
theorem dX11_changes_25 : decode cX11_changes 25 = .ok (.iload_n 1, 1) := by decide +kernel
theorem dX11_changes_26 : decode cX11_changes 26 = .ok (.iload_n 2, 1) := by decide +kernel
theorem dX11_changes_27 : decode cX11_changes 27 = .ok (.iastore, 1) := by decide +kernel
theorem dX11_changes_28 : decode cX11_changes 28 = .ok (.iconst 1, 1) := by decide +kernel
theorem dX11_changes_29 : decode cX11_changes 29 = .ok (.ireturn, 1) := by decide +kernel
theorem dX11_question_0 : decode cX11_question 0 = .ok (.aload_n 0, 1) := by decide +kernel
theorem dX11_question_1 : decode cX11_question 1 = .ok (.getfield 116, 3) := by decide +kernel
theorem dX11_question_4 : decode cX11_question 4 = .ok (.bipush 24, 2) := by decide +kernel
theorem dX11_question_6 : decode cX11_question 6 = .ok (.if_icmp .eq 54, 3) := by decide +kernel
theorem dX11_question_9 : decode cX11_question 9 = .ok (.aload_n 0, 1) := by decide +kernel
theorem dX11_question_10 : decode cX11_question 10 = .ok (.iload_n 1, 1) := by decide +kernel
theorem dX11_question_11 : decode cX11_question 11 = .ok (.invokevirtual 93, 3) := by decide +kernel
theorem dX11_question_14 : decode cX11_question 14 = .ok (.ifCond .eq 46, 3) := by decide +kernel
theorem dX11_question_17 : decode cX11_question 17 = .ok (.iload_n 2, 1) := by decide +kernel
theorem dX11_question_18 : decode cX11_question 18 = .ok (.iconst 0, 1) := by decide +kernel
theorem dX11_question_19 : decode cX11_question 19 = .ok (.iconst 1, 1) := by decide +kernel
theorem dX11_question_20 : decode cX11_question 20 = .ok (.aload_n 0, 1) := by decide +kernel
theorem dX11_question_21 : decode cX11_question 21 = .ok (.getfield 7, 3) := by decide +kernel
theorem dX11_question_24 : decode cX11_question 24 = .ok (.iload_n 1, 1) := by decide +kernel
theorem dX11_question_25 : decode cX11_question 25 = .ok (.iaload, 1) := by decide +kernel
theorem dX11_question_26 : decode cX11_question 26 = .ok (.ishl, 1) := by decide +kernel
theorem dX11_question_27 : decode cX11_question 27 = .ok (.iconst 1, 1) := by decide +kernel
theorem dX11_question_28 : decode cX11_question 28 = .ok (.isub, 1) := by decide +kernel
theorem dX11_question_29 : decode cX11_question 29 = .ok (.invokestatic 89, 3) := by decide +kernel
theorem dX11_question_32 : decode cX11_question 32 = .ok (.ifCond .eq 28, 3) := by decide +kernel
theorem dX11_question_35 : decode cX11_question 35 = .ok (.iload_n 3, 1) := by decide +kernel
theorem dX11_question_36 : decode cX11_question 36 = .ok (.iconst (-1), 1) := by decide +kernel
theorem dX11_question_37 : decode cX11_question 37 = .ok (.if_icmp .eq 12, 3) := by decide +kernel
theorem dX11_question_40 : decode cX11_question 40 = .ok (.aload_n 0, 1) := by decide +kernel
theorem dX11_question_41 : decode cX11_question 41 = .ok (.iload_n 1, 1) := by decide +kernel
theorem dX11_question_42 : decode cX11_question 42 = .ok (.iload_n 3, 1) := by decide +kernel
theorem dX11_question_43 : decode cX11_question 43 = .ok (.invokevirtual 113, 3) := by decide +kernel
theorem dX11_question_46 : decode cX11_question 46 = .ok (.ifCond .eq 14, 3) := by decide +kernel
theorem dX11_question_49 : decode cX11_question 49 = .ok (.iload 4, 2) := by decide +kernel
theorem dX11_question_51 : decode cX11_question 51 = .ok (.iconst 1, 1) := by decide +kernel
theorem dX11_question_52 : decode cX11_question 52 = .ok (.bipush 100, 2) := by decide +kernel
theorem dX11_question_54 : decode cX11_question 54 = .ok (.invokestatic 89, 3) := by decide +kernel
theorem dX11_question_57 : decode cX11_question 57 = .ok (.ifCond .ne 5, 3) := by decide +kernel
theorem dX11_question_60 : decode cX11_question 60 = .ok (.iconst (-1), 1) := by decide +kernel
theorem dX11_question_61 : decode cX11_question 61 = .ok (.ireturn, 1) := by decide +kernel
theorem dX11_question_62 : decode cX11_question 62 = .ok (.aload_n 0, 1) := by decide +kernel
theorem dX11_question_63 : decode cX11_question 63 = .ok (.getfield 37, 3) := by decide +kernel
theorem dX11_question_66 : decode cX11_question 66 = .ok (.aload_n 0, 1) := by decide +kernel
theorem dX11_question_67 : decode cX11_question 67 = .ok (.getfield 116, 3) := by decide +kernel
theorem dX11_question_70 : decode cX11_question 70 = .ok (.iload_n 1, 1) := by decide +kernel
theorem dX11_question_71 : decode cX11_question 71 = .ok (.iastore, 1) := by decide +kernel
theorem dX11_question_72 : decode cX11_question 72 = .ok (.aload_n 0, 1) := by decide +kernel
theorem dX11_question_73 : decode cX11_question 73 = .ok (.getfield 40, 3) := by decide +kernel
theorem dX11_question_76 : decode cX11_question 76 = .ok (.aload_n 0, 1) := by decide +kernel
theorem dX11_question_77 : decode cX11_question 77 = .ok (.getfield 116, 3) := by decide +kernel
theorem dX11_question_80 : decode cX11_question 80 = .ok (.iload_n 2, 1) := by decide +kernel
theorem dX11_question_81 : decode cX11_question 81 = .ok (.iastore, 1) := by decide +kernel
theorem dX11_question_82 : decode cX11_question 82 = .ok (.aload_n 0, 1) := by decide +kernel
theorem dX11_question_83 : decode cX11_question 83 = .ok (.getfield 43, 3) := by decide +kernel
theorem dX11_question_86 : decode cX11_question 86 = .ok (.aload_n 0, 1) := by decide +kernel
theorem dX11_question_87 : decode cX11_question 87 = .ok (.getfield 116, 3) := by decide +kernel
theorem dX11_question_90 : decode cX11_question 90 = .ok (.iload_n 3, 1) := by decide +kernel
theorem dX11_question_91 : decode cX11_question 91 = .ok (.iastore, 1) := by decide +kernel
theorem dX11_question_92 : decode cX11_question 92 = .ok (.aload_n 0, 1) := by decide +kernel
theorem dX11_question_93 : decode cX11_question 93 = .ok (.getfield 46, 3) := by decide +kernel
theorem dX11_question_96 : decode cX11_question 96 = .ok (.aload_n 0, 1) := by decide +kernel
theorem dX11_question_97 : decode cX11_question 97 = .ok (.getfield 116, 3) := by decide +kernel
theorem dX11_question_100 : decode cX11_question 100 = .ok (.iload 4, 2) := by decide +kernel
theorem dX11_question_102 : decode cX11_question 102 = .ok (.iastore, 1) := by decide +kernel
theorem dX11_question_103 : decode cX11_question 103 = .ok (.aload_n 0, 1) := by decide +kernel
theorem dX11_question_104 : decode cX11_question 104 = .ok (.dup, 1) := by decide +kernel
theorem dX11_question_105 : decode cX11_question 105 = .ok (.getfield 116, 3) := by decide +kernel
theorem dX11_question_108 : decode cX11_question 108 = .ok (.iconst 1, 1) := by decide +kernel
theorem dX11_question_109 : decode cX11_question 109 = .ok (.iadd, 1) := by decide +kernel
theorem dX11_question_110 : decode cX11_question 110 = .ok (.putfield 116, 3) := by decide +kernel
theorem dX11_question_113 : decode cX11_question 113 = .ok (.aload_n 0, 1) := by decide +kernel
theorem dX11_question_114 : decode cX11_question 114 = .ok (.getfield 116, 3) := by decide +kernel
theorem dX11_question_117 : decode cX11_question 117 = .ok (.iconst 1, 1) := by decide +kernel
theorem dX11_question_118 : decode cX11_question 118 = .ok (.isub, 1) := by decide +kernel
theorem dX11_question_119 : decode cX11_question 119 = .ok (.ireturn, 1) := by decide +kernel
theorem dX11_isQuestion_0 : decode cX11_isQuestion 0 = .ok (.iload_n 1, 1) := by decide +kernel
theorem dX11_isQuestion_1 : decode cX11_isQuestion 1 = .ok (.iconst 0, 1) := by decide +kernel
theorem dX11_isQuestion_2 : decode cX11_isQuestion 2 = .ok (.aload_n 0, 1) := by decide +kernel
theorem dX11_isQuestion_3 : decode cX11_isQuestion 3 = .ok (.getfield 116, 3) := by decide +kernel
theorem dX11_isQuestion_6 : decode cX11_isQuestion 6 = .ok (.iconst 1, 1) := by decide +kernel
theorem dX11_isQuestion_7 : decode cX11_isQuestion 7 = .ok (.isub, 1) := by decide +kernel
theorem dX11_isQuestion_8 : decode cX11_isQuestion 8 = .ok (.invokestatic 89, 3) := by decide +kernel
theorem dX11_isQuestion_11 : decode cX11_isQuestion 11 = .ok (.ireturn, 1) := by decide +kernel
theorem dX11_test_0 : decode cX11_test 0 = .ok (.aload_n 0, 1) := by decide +kernel
theorem dX11_test_1 : decode cX11_test 1 = .ok (.iload_n 1, 1) := by decide +kernel
theorem dX11_test_2 : decode cX11_test 2 = .ok (.invokevirtual 120, 3) := by decide +kernel
theorem dX11_test_5 : decode cX11_test 5 = .ok (.ifCond .eq 40, 3) := by decide +kernel
theorem dX11_test_8 : decode cX11_test 8 = .ok (.aload_n 0, 1) := by decide +kernel
theorem dX11_test_9 : decode cX11_test 9 = .ok (.aload_n 0, 1) := by decide +kernel
theorem dX11_test_10 : decode cX11_test 10 = .ok (.getfield 37, 3) := by decide +kernel
theorem dX11_test_13 : decode cX11_test 13 = .ok (.iload_n 1, 1) := by decide +kernel
theorem dX11_test_14 : decode cX11_test 14 = .ok (.iaload, 1) := by decide +kernel
theorem dX11_test_15 : decode cX11_test 15 = .ok (.iload_n 2, 1) := by decide +kernel
theorem dX11_test_16 : decode cX11_test 16 = .ok (.invokevirtual 113, 3) := by decide +kernel
theorem dX11_test_19 : decode cX11_test 19 = .ok (.ifCond .eq 26, 3) := by decide +kernel
theorem dX11_test_22 : decode cX11_test 22 = .ok (.iload_n 3, 1) := by decide +kernel
theorem dX11_test_23 : decode cX11_test 23 = .ok (.iconst 0, 1) := by decide +kernel
theorem dX11_test_24 : decode cX11_test 24 = .ok (.sipush 999, 3) := by decide +kernel
theorem dX11_test_27 : decode cX11_test 27 = .ok (.invokestatic 89, 3) := by decide +kernel
theorem dX11_test_30 : decode cX11_test 30 = .ok (.ifCond .eq 15, 3) := by decide +kernel
theorem dX11_test_33 : decode cX11_test 33 = .ok (.iload 4, 2) := by decide +kernel
theorem dX11_test_35 : decode cX11_test 35 = .ok (.iload_n 3, 1) := by decide +kernel
theorem dX11_test_36 : decode cX11_test 36 = .ok (.sipush 999, 3) := by decide +kernel
theorem dX11_test_39 : decode cX11_test 39 = .ok (.invokestatic 89, 3) := by decide +kernel
theorem dX11_test_42 : decode cX11_test 42 = .ok (.ifCond .ne 5, 3) := by decide +kernel
theorem dX11_test_45 : decode cX11_test 45 = .ok (.iconst 0, 1) := by decide +kernel
theorem dX11_test_46 : decode cX11_test 46 = .ok (.ireturn, 1) := by decide +kernel
theorem dX11_test_47 : decode cX11_test 47 = .ok (.aload_n 0, 1) := by decide +kernel
theorem dX11_test_48 : decode cX11_test 48 = .ok (.getfield 49, 3) := by decide +kernel
theorem dX11_test_51 : decode cX11_test 51 = .ok (.iconst 4, 1) := by decide +kernel
theorem dX11_test_52 : decode cX11_test 52 = .ok (.iload_n 1, 1) := by decide +kernel
theorem dX11_test_53 : decode cX11_test 53 = .ok (.imul, 1) := by decide +kernel
theorem dX11_test_54 : decode cX11_test 54 = .ok (.iload_n 2, 1) := by decide +kernel
theorem dX11_test_55 : decode cX11_test 55 = .ok (.iadd, 1) := by decide +kernel
theorem dX11_test_56 : decode cX11_test 56 = .ok (.iconst 1, 1) := by decide +kernel
theorem dX11_test_57 : decode cX11_test 57 = .ok (.bastore, 1) := by decide +kernel
theorem dX11_test_58 : decode cX11_test 58 = .ok (.aload_n 0, 1) := by decide +kernel
theorem dX11_test_59 : decode cX11_test 59 = .ok (.getfield 53, 3) := by decide +kernel
theorem dX11_test_62 : decode cX11_test 62 = .ok (.iconst 4, 1) := by decide +kernel
theorem dX11_test_63 : decode cX11_test 63 = .ok (.iload_n 1, 1) := by decide +kernel
theorem dX11_test_64 : decode cX11_test 64 = .ok (.imul, 1) := by decide +kernel
theorem dX11_test_65 : decode cX11_test 65 = .ok (.iload_n 2, 1) := by decide +kernel
theorem dX11_test_66 : decode cX11_test 66 = .ok (.iadd, 1) := by decide +kernel
theorem dX11_test_67 : decode cX11_test 67 = .ok (.iload_n 3, 1) := by decide +kernel
theorem dX11_test_68 : decode cX11_test 68 = .ok (.iastore, 1) := by decide +kernel
theorem dX11_test_69 : decode cX11_test 69 = .ok (.aload_n 0, 1) := by decide +kernel
theorem dX11_test_70 : decode cX11_test 70 = .ok (.getfield 56, 3) := by decide +kernel
theorem dX11_test_73 : decode cX11_test 73 = .ok (.iconst 4, 1) := by decide +kernel
theorem dX11_test_74 : decode cX11_test 74 = .ok (.iload_n 1, 1) := by decide +kernel
theorem dX11_test_75 : decode cX11_test 75 = .ok (.imul, 1) := by decide +kernel
theorem dX11_test_76 : decode cX11_test 76 = .ok (.iload_n 2, 1) := by decide +kernel
theorem dX11_test_77 : decode cX11_test 77 = .ok (.iadd, 1) := by decide +kernel
theorem dX11_test_78 : decode cX11_test 78 = .ok (.iload 4, 2) := by decide +kernel
theorem dX11_test_80 : decode cX11_test 80 = .ok (.iastore, 1) := by decide +kernel
theorem dX11_test_81 : decode cX11_test 81 = .ok (.iconst 1, 1) := by decide +kernel
theorem dX11_test_82 : decode cX11_test 82 = .ok (.ireturn, 1) := by decide +kernel
theorem dX11_aid_0 : decode cX11_aid 0 = .ok (.aload_n 0, 1) := by decide +kernel
theorem dX11_aid_1 : decode cX11_aid 1 = .ok (.getfield 59, 3) := by decide +kernel
theorem dX11_aid_4 : decode cX11_aid 4 = .ok (.aload_n 0, 1) := by decide +kernel
theorem dX11_aid_5 : decode cX11_aid 5 = .ok (.getfield 123, 3) := by decide +kernel
theorem dX11_aid_8 : decode cX11_aid 8 = .ok (.iload_n 2, 1) := by decide +kernel
theorem dX11_aid_9 : decode cX11_aid 9 = .ok (.iastore, 1) := by decide +kernel
theorem dX11_aid_10 : decode cX11_aid 10 = .ok (.aload_n 0, 1) := by decide +kernel
theorem dX11_aid_11 : decode cX11_aid 11 = .ok (.getfield 62, 3) := by decide +kernel
theorem dX11_aid_14 : decode cX11_aid 14 = .ok (.aload_n 0, 1) := by decide +kernel
theorem dX11_aid_15 : decode cX11_aid 15 = .ok (.getfield 123, 3) := by decide +kernel
theorem dX11_aid_18 : decode cX11_aid 18 = .ok (.iload_n 1, 1) := by decide +kernel
theorem dX11_aid_19 : decode cX11_aid 19 = .ok (.iastore, 1) := by decide +kernel
theorem dX11_aid_20 : decode cX11_aid 20 = .ok (.aload_n 0, 1) := by decide +kernel
theorem dX11_aid_21 : decode cX11_aid 21 = .ok (.getfield 68, 3) := by decide +kernel
theorem dX11_aid_24 : decode cX11_aid 24 = .ok (.iconst 3, 1) := by decide +kernel
theorem dX11_aid_25 : decode cX11_aid 25 = .ok (.aload_n 0, 1) := by decide +kernel
theorem dX11_aid_26 : decode cX11_aid 26 = .ok (.getfield 123, 3) := by decide +kernel
theorem dX11_aid_29 : decode cX11_aid 29 = .ok (.imul, 1) := by decide +kernel
theorem dX11_aid_30 : decode cX11_aid 30 = .ok (.iload_n 3, 1) := by decide +kernel
theorem dX11_aid_31 : decode cX11_aid 31 = .ok (.iastore, 1) := by decide +kernel
theorem dX11_aid_32 : decode cX11_aid 32 = .ok (.aload_n 0, 1) := by decide +kernel
theorem dX11_aid_33 : decode cX11_aid 33 = .ok (.getfield 68, 3) := by decide +kernel
theorem dX11_aid_36 : decode cX11_aid 36 = .ok (.iconst 3, 1) := by decide +kernel
theorem dX11_aid_37 : decode cX11_aid 37 = .ok (.aload_n 0, 1) := by decide +kernel
theorem dX11_aid_38 : decode cX11_aid 38 = .ok (.getfield 123, 3) := by decide +kernel
theorem dX11_aid_41 : decode cX11_aid 41 = .ok (.imul, 1) := by decide +kernel
theorem dX11_aid_42 : decode cX11_aid 42 = .ok (.iconst 1, 1) := by decide +kernel
theorem dX11_aid_43 : decode cX11_aid 43 = .ok (.iadd, 1) := by decide +kernel
theorem dX11_aid_44 : decode cX11_aid 44 = .ok (.iload 4, 2) := by decide +kernel
theorem dX11_aid_46 : decode cX11_aid 46 = .ok (.iastore, 1) := by decide +kernel
theorem dX11_aid_47 : decode cX11_aid 47 = .ok (.aload_n 0, 1) := by decide +kernel
theorem dX11_aid_48 : decode cX11_aid 48 = .ok (.getfield 68, 3) := by decide +kernel
theorem dX11_aid_51 : decode cX11_aid 51 = .ok (.iconst 3, 1) := by decide +kernel
theorem dX11_aid_52 : decode cX11_aid 52 = .ok (.aload_n 0, 1) := by decide +kernel
theorem dX11_aid_53 : decode cX11_aid 53 = .ok (.getfield 123, 3) := by decide +kernel
theorem dX11_aid_56 : decode cX11_aid 56 = .ok (.imul, 1) := by decide +kernel
theorem dX11_aid_57 : decode cX11_aid 57 = .ok (.iconst 2, 1) := by decide +kernel
theorem dX11_aid_58 : decode cX11_aid 58 = .ok (.iadd, 1) := by decide +kernel
theorem dX11_aid_59 : decode cX11_aid 59 = .ok (.iload 5, 2) := by decide +kernel
theorem dX11_aid_61 : decode cX11_aid 61 = .ok (.iastore, 1) := by decide +kernel
theorem dX11_aid_62 : decode cX11_aid 62 = .ok (.aload_n 0, 1) := by decide +kernel
theorem dX11_aid_63 : decode cX11_aid 63 = .ok (.getfield 65, 3) := by decide +kernel
theorem dX11_aid_66 : decode cX11_aid 66 = .ok (.aload_n 0, 1) := by decide +kernel
theorem dX11_aid_67 : decode cX11_aid 67 = .ok (.getfield 123, 3) := by decide +kernel
theorem dX11_aid_70 : decode cX11_aid 70 = .ok (.iload 4, 2) := by decide +kernel
theorem dX11_aid_72 : decode cX11_aid 72 = .ok (.iconst (-1), 1) := by decide +kernel
theorem dX11_aid_73 : decode cX11_aid 73 = .ok (.if_icmp .ne 7, 3) := by decide +kernel
theorem dX11_aid_76 : decode cX11_aid 76 = .ok (.iconst 1, 1) := by decide +kernel
theorem dX11_aid_77 : decode cX11_aid 77 = .ok (.goto 14, 3) := by decide +kernel
theorem dX11_aid_80 : decode cX11_aid 80 = .ok (.iload 5, 2) := by decide +kernel
theorem dX11_aid_82 : decode cX11_aid 82 = .ok (.iconst (-1), 1) := by decide +kernel
theorem dX11_aid_83 : decode cX11_aid 83 = .ok (.if_icmp .ne 7, 3) := by decide +kernel
theorem dX11_aid_86 : decode cX11_aid 86 = .ok (.iconst 2, 1) := by decide +kernel
theorem dX11_aid_87 : decode cX11_aid 87 = .ok (.goto 4, 3) := by decide +kernel
theorem dX11_aid_90 : decode cX11_aid 90 = .ok (.iconst 3, 1) := by decide +kernel
theorem dX11_aid_91 : decode cX11_aid 91 = .ok (.iastore, 1) := by decide +kernel
theorem dX11_aid_92 : decode cX11_aid 92 = .ok (.aload_n 0, 1) := by decide +kernel
theorem dX11_aid_93 : decode cX11_aid 93 = .ok (.getfield 71, 3) := by decide +kernel
theorem dX11_aid_96 : decode cX11_aid 96 = .ok (.aload_n 0, 1) := by decide +kernel
theorem dX11_aid_97 : decode cX11_aid 97 = .ok (.getfield 123, 3) := by decide +kernel
theorem dX11_aid_100 : decode cX11_aid 100 = .ok (.iconst 0, 1) := by decide +kernel
theorem dX11_aid_101 : decode cX11_aid 101 = .ok (.iastore, 1) := by decide +kernel
theorem dX11_aid_102 : decode cX11_aid 102 = .ok (.aload_n 0, 1) := by decide +kernel
theorem dX11_aid_103 : decode cX11_aid 103 = .ok (.getfield 74, 3) := by decide +kernel
theorem dX11_aid_106 : decode cX11_aid 106 = .ok (.aload_n 0, 1) := by decide +kernel
theorem dX11_aid_107 : decode cX11_aid 107 = .ok (.getfield 123, 3) := by decide +kernel
theorem dX11_aid_110 : decode cX11_aid 110 = .ok (.iconst (-1), 1) := by decide +kernel
theorem dX11_aid_111 : decode cX11_aid 111 = .ok (.iastore, 1) := by decide +kernel
theorem dX11_aid_112 : decode cX11_aid 112 = .ok (.aload_n 0, 1) := by decide +kernel
theorem dX11_aid_113 : decode cX11_aid 113 = .ok (.dup, 1) := by decide +kernel
theorem dX11_aid_114 : decode cX11_aid 114 = .ok (.getfield 123, 3) := by decide +kernel
theorem dX11_aid_117 : decode cX11_aid 117 = .ok (.iconst 1, 1) := by decide +kernel
theorem dX11_aid_118 : decode cX11_aid 118 = .ok (.iadd, 1) := by decide +kernel
theorem dX11_aid_119 : decode cX11_aid 119 = .ok (.putfield 123, 3) := by decide +kernel
theorem dX11_aid_122 : decode cX11_aid 122 = .ok (.aload_n 0, 1) := by decide +kernel
theorem dX11_aid_123 : decode cX11_aid 123 = .ok (.getfield 123, 3) := by decide +kernel
theorem dX11_aid_126 : decode cX11_aid 126 = .ok (.iconst 1, 1) := by decide +kernel
theorem dX11_aid_127 : decode cX11_aid 127 = .ok (.isub, 1) := by decide +kernel
theorem dX11_aid_128 : decode cX11_aid 128 = .ok (.ireturn, 1) := by decide +kernel
theorem dX11_inTurn_0 : decode cX11_inTurn 0 = .ok (.aload_n 0, 1) := by decide +kernel
theorem dX11_inTurn_1 : decode cX11_inTurn 1 = .ok (.iload_n 1, 1) := by decide +kernel
theorem dX11_inTurn_2 : decode cX11_inTurn 2 = .ok (.iload_n 2, 1) := by decide +kernel
theorem dX11_inTurn_3 : decode cX11_inTurn 3 = .ok (.invokevirtual 113, 3) := by decide +kernel
theorem dX11_inTurn_6 : decode cX11_inTurn 6 = .ok (.ifCond .eq 14, 3) := by decide +kernel
theorem dX11_inTurn_9 : decode cX11_inTurn 9 = .ok (.iload_n 3, 1) := by decide +kernel
theorem dX11_inTurn_10 : decode cX11_inTurn 10 = .ok (.iconst (-1), 1) := by decide +kernel
theorem dX11_inTurn_11 : decode cX11_inTurn 11 = .ok (.if_icmp .ne 11, 3) := by decide +kernel
theorem dX11_inTurn_14 : decode cX11_inTurn 14 = .ok (.iload 4, 2) := by decide +kernel
theorem dX11_inTurn_16 : decode cX11_inTurn 16 = .ok (.iconst (-1), 1) := by decide +kernel
theorem dX11_inTurn_17 : decode cX11_inTurn 17 = .ok (.if_icmp .eq 5, 3) := by decide +kernel
theorem dX11_inTurn_20 : decode cX11_inTurn 20 = .ok (.iconst (-1), 1) := by decide +kernel
theorem dX11_inTurn_21 : decode cX11_inTurn 21 = .ok (.ireturn, 1) := by decide +kernel
theorem dX11_inTurn_22 : decode cX11_inTurn 22 = .ok (.iload_n 3, 1) := by decide +kernel
theorem dX11_inTurn_23 : decode cX11_inTurn 23 = .ok (.iconst (-1), 1) := by decide +kernel
theorem dX11_inTurn_24 : decode cX11_inTurn 24 = .ok (.if_icmp .eq 19, 3) := by decide +kernel
theorem dX11_inTurn_27 : decode cX11_inTurn 27 = .ok (.aload_n 0, 1) := by decide +kernel
theorem dX11_inTurn_28 : decode cX11_inTurn 28 = .ok (.iload_n 1, 1) := by decide +kernel
theorem dX11_inTurn_29 : decode cX11_inTurn 29 = .ok (.iload_n 3, 1) := by decide +kernel
theorem dX11_inTurn_30 : decode cX11_inTurn 30 = .ok (.invokevirtual 113, 3) := by decide +kernel
theorem dX11_inTurn_33 : decode cX11_inTurn 33 = .ok (.ifCond .eq 8, 3) := by decide +kernel
theorem dX11_inTurn_36 : decode cX11_inTurn 36 = .ok (.iload_n 3, 1) := by decide +kernel
theorem dX11_inTurn_37 : decode cX11_inTurn 37 = .ok (.iload_n 2, 1) := by decide +kernel
theorem dX11_inTurn_38 : decode cX11_inTurn 38 = .ok (.if_icmp .ne 5, 3) := by decide +kernel
theorem dX11_inTurn_41 : decode cX11_inTurn 41 = .ok (.iconst (-1), 1) := by decide +kernel
theorem dX11_inTurn_42 : decode cX11_inTurn 42 = .ok (.ireturn, 1) := by decide +kernel
theorem dX11_inTurn_43 : decode cX11_inTurn 43 = .ok (.iload 4, 2) := by decide +kernel
theorem dX11_inTurn_45 : decode cX11_inTurn 45 = .ok (.iconst (-1), 1) := by decide +kernel
theorem dX11_inTurn_46 : decode cX11_inTurn 46 = .ok (.if_icmp .eq 27, 3) := by decide +kernel
theorem dX11_inTurn_49 : decode cX11_inTurn 49 = .ok (.aload_n 0, 1) := by decide +kernel
theorem dX11_inTurn_50 : decode cX11_inTurn 50 = .ok (.iload_n 1, 1) := by decide +kernel
theorem dX11_inTurn_51 : decode cX11_inTurn 51 = .ok (.iload 4, 2) := by decide +kernel
theorem dX11_inTurn_53 : decode cX11_inTurn 53 = .ok (.invokevirtual 113, 3) := by decide +kernel
theorem dX11_inTurn_56 : decode cX11_inTurn 56 = .ok (.ifCond .eq 15, 3) := by decide +kernel
theorem dX11_inTurn_59 : decode cX11_inTurn 59 = .ok (.iload 4, 2) := by decide +kernel
theorem dX11_inTurn_61 : decode cX11_inTurn 61 = .ok (.iload_n 2, 1) := by decide +kernel
theorem dX11_inTurn_62 : decode cX11_inTurn 62 = .ok (.if_icmp .eq 9, 3) := by decide +kernel
theorem dX11_inTurn_65 : decode cX11_inTurn 65 = .ok (.iload 4, 2) := by decide +kernel
theorem dX11_inTurn_67 : decode cX11_inTurn 67 = .ok (.iload_n 3, 1) := by decide +kernel
theorem dX11_inTurn_68 : decode cX11_inTurn 68 = .ok (.if_icmp .ne 5, 3) := by decide +kernel
theorem dX11_inTurn_71 : decode cX11_inTurn 71 = .ok (.iconst (-1), 1) := by decide +kernel
theorem dX11_inTurn_72 : decode cX11_inTurn 72 = .ok (.ireturn, 1) := by decide +kernel
theorem dX11_inTurn_73 : decode cX11_inTurn 73 = .ok (.iconst 1, 1) := by decide +kernel
theorem dX11_inTurn_74 : decode cX11_inTurn 74 = .ok (.iload_n 2, 1) := by decide +kernel
theorem dX11_inTurn_75 : decode cX11_inTurn 75 = .ok (.ishl, 1) := by decide +kernel
theorem dX11_inTurn_76 : decode cX11_inTurn 76 = .ok (.iload_n 3, 1) := by decide +kernel
theorem dX11_inTurn_77 : decode cX11_inTurn 77 = .ok (.iconst (-1), 1) := by decide +kernel
theorem dX11_inTurn_78 : decode cX11_inTurn 78 = .ok (.if_icmp .ne 7, 3) := by decide +kernel
theorem dX11_inTurn_81 : decode cX11_inTurn 81 = .ok (.iconst 0, 1) := by decide +kernel
theorem dX11_inTurn_82 : decode cX11_inTurn 82 = .ok (.goto 6, 3) := by decide +kernel
theorem dX11_inTurn_85 : decode cX11_inTurn 85 = .ok (.iconst 1, 1) := by decide +kernel
theorem dX11_inTurn_86 : decode cX11_inTurn 86 = .ok (.iload_n 3, 1) := by decide +kernel
theorem dX11_inTurn_87 : decode cX11_inTurn 87 = .ok (.ishl, 1) := by decide +kernel
theorem dX11_inTurn_88 : decode cX11_inTurn 88 = .ok (.ior, 1) := by decide +kernel
theorem dX11_inTurn_89 : decode cX11_inTurn 89 = .ok (.iload 4, 2) := by decide +kernel
theorem dX11_inTurn_91 : decode cX11_inTurn 91 = .ok (.iconst (-1), 1) := by decide +kernel
theorem dX11_inTurn_92 : decode cX11_inTurn 92 = .ok (.if_icmp .ne 7, 3) := by decide +kernel
theorem dX11_inTurn_95 : decode cX11_inTurn 95 = .ok (.iconst 0, 1) := by decide +kernel
theorem dX11_inTurn_96 : decode cX11_inTurn 96 = .ok (.goto 7, 3) := by decide +kernel
theorem dX11_inTurn_99 : decode cX11_inTurn 99 = .ok (.iconst 1, 1) := by decide +kernel
theorem dX11_inTurn_100 : decode cX11_inTurn 100 = .ok (.iload 4, 2) := by decide +kernel
theorem dX11_inTurn_102 : decode cX11_inTurn 102 = .ok (.ishl, 1) := by decide +kernel
theorem dX11_inTurn_103 : decode cX11_inTurn 103 = .ok (.ior, 1) := by decide +kernel
theorem dX11_inTurn_104 : decode cX11_inTurn 104 = .ok (.ireturn, 1) := by decide +kernel
theorem dX11_order_0 : decode cX11_order 0 = .ok (.aload_n 0, 1) := by decide +kernel
theorem dX11_order_1 : decode cX11_order 1 = .ok (.iload_n 1, 1) := by decide +kernel
theorem dX11_order_2 : decode cX11_order 2 = .ok (.iload_n 3, 1) := by decide +kernel
theorem dX11_order_3 : decode cX11_order 3 = .ok (.iload 4, 2) := by decide +kernel
theorem dX11_order_5 : decode cX11_order 5 = .ok (.iload 5, 2) := by decide +kernel
theorem dX11_order_7 : decode cX11_order 7 = .ok (.invokevirtual 126, 3) := by decide +kernel
theorem dX11_order_10 : decode cX11_order 10 = .ok (.istore 7, 2) := by decide +kernel
theorem dX11_order_12 : decode cX11_order 12 = .ok (.aload_n 0, 1) := by decide +kernel
theorem dX11_order_13 : decode cX11_order 13 = .ok (.getfield 123, 3) := by decide +kernel
theorem dX11_order_16 : decode cX11_order 16 = .ok (.bipush 12, 2) := by decide +kernel
theorem dX11_order_18 : decode cX11_order 18 = .ok (.if_icmp .eq 22, 3) := by decide +kernel
theorem dX11_order_21 : decode cX11_order 21 = .ok (.iload 7, 2) := by decide +kernel
theorem dX11_order_23 : decode cX11_order 23 = .ok (.ifCond .lt 17, 3) := by decide +kernel
theorem dX11_order_26 : decode cX11_order 26 = .ok (.iload_n 2, 1) := by decide +kernel
theorem dX11_order_27 : decode cX11_order 27 = .ok (.ifCond .eq 15, 3) := by decide +kernel
theorem dX11_order_30 : decode cX11_order 30 = .ok (.iload_n 2, 1) := by decide +kernel
theorem dX11_order_31 : decode cX11_order 31 = .ok (.iconst 1, 1) := by decide +kernel
theorem dX11_order_32 : decode cX11_order 32 = .ok (.if_icmp .eq 10, 3) := by decide +kernel
theorem dX11_order_35 : decode cX11_order 35 = .ok (.iload_n 2, 1) := by decide +kernel
theorem dX11_order_36 : decode cX11_order 36 = .ok (.iconst 4, 1) := by decide +kernel
theorem dX11_order_37 : decode cX11_order 37 = .ok (.if_icmp .eq 5, 3) := by decide +kernel
theorem dX11_order_40 : decode cX11_order 40 = .ok (.iconst (-1), 1) := by decide +kernel
theorem dX11_order_41 : decode cX11_order 41 = .ok (.ireturn, 1) := by decide +kernel
theorem dX11_order_42 : decode cX11_order 42 = .ok (.iload_n 2, 1) := by decide +kernel
theorem dX11_order_43 : decode cX11_order 43 = .ok (.iconst 1, 1) := by decide +kernel
theorem dX11_order_44 : decode cX11_order 44 = .ok (.if_icmp .ne 34, 3) := by decide +kernel
theorem dX11_order_47 : decode cX11_order 47 = .ok (.iload 6, 2) := by decide +kernel
theorem dX11_order_49 : decode cX11_order 49 = .ok (.iconst 0, 1) := by decide +kernel
theorem dX11_order_50 : decode cX11_order 50 = .ok (.iconst 1, 1) := by decide +kernel
theorem dX11_order_51 : decode cX11_order 51 = .ok (.aload_n 0, 1) := by decide +kernel
theorem dX11_order_52 : decode cX11_order 52 = .ok (.getfield 7, 3) := by decide +kernel
theorem dX11_order_55 : decode cX11_order 55 = .ok (.iload_n 1, 1) := by decide +kernel
theorem dX11_order_56 : decode cX11_order 56 = .ok (.iaload, 1) := by decide +kernel
theorem dX11_order_57 : decode cX11_order 57 = .ok (.ishl, 1) := by decide +kernel
theorem dX11_order_58 : decode cX11_order 58 = .ok (.iconst 1, 1) := by decide +kernel
theorem dX11_order_59 : decode cX11_order 59 = .ok (.isub, 1) := by decide +kernel
theorem dX11_order_60 : decode cX11_order 60 = .ok (.invokestatic 89, 3) := by decide +kernel
theorem dX11_order_63 : decode cX11_order 63 = .ok (.ifCond .eq 13, 3) := by decide +kernel
theorem dX11_order_66 : decode cX11_order 66 = .ok (.iload 6, 2) := by decide +kernel
theorem dX11_order_68 : decode cX11_order 68 = .ok (.iload 7, 2) := by decide +kernel
theorem dX11_order_70 : decode cX11_order 70 = .ok (.iconst (-1), 1) := by decide +kernel
theorem dX11_order_71 : decode cX11_order 71 = .ok (.ixor, 1) := by decide +kernel
theorem dX11_order_72 : decode cX11_order 72 = .ok (.iand, 1) := by decide +kernel
theorem dX11_order_73 : decode cX11_order 73 = .ok (.ifCond .ne 5, 3) := by decide +kernel
theorem dX11_order_76 : decode cX11_order 76 = .ok (.iconst (-1), 1) := by decide +kernel
theorem dX11_order_77 : decode cX11_order 77 = .ok (.ireturn, 1) := by decide +kernel
theorem dX11_order_78 : decode cX11_order 78 = .ok (.aload_n 0, 1) := by decide +kernel
theorem dX11_order_79 : decode cX11_order 79 = .ok (.iload_n 1, 1) := by decide +kernel
theorem dX11_order_80 : decode cX11_order 80 = .ok (.iload_n 2, 1) := by decide +kernel
theorem dX11_order_81 : decode cX11_order 81 = .ok (.iload_n 3, 1) := by decide +kernel
theorem dX11_order_82 : decode cX11_order 82 = .ok (.iload 4, 2) := by decide +kernel
theorem dX11_order_84 : decode cX11_order 84 = .ok (.iload 5, 2) := by decide +kernel
theorem dX11_order_86 : decode cX11_order 86 = .ok (.invokevirtual 130, 3) := by decide +kernel
theorem dX11_order_89 : decode cX11_order 89 = .ok (.istore 8, 2) := by decide +kernel
theorem dX11_order_91 : decode cX11_order 91 = .ok (.aload_n 0, 1) := by decide +kernel
theorem dX11_order_92 : decode cX11_order 92 = .ok (.getfield 71, 3) := by decide +kernel
theorem dX11_order_95 : decode cX11_order 95 = .ok (.iload 8, 2) := by decide +kernel
theorem dX11_order_97 : decode cX11_order 97 = .ok (.iload_n 2, 1) := by decide +kernel
theorem dX11_order_98 : decode cX11_order 98 = .ok (.iconst 1, 1) := by decide +kernel
theorem dX11_order_99 : decode cX11_order 99 = .ok (.if_icmp .ne 11, 3) := by decide +kernel
theorem dX11_order_102 : decode cX11_order 102 = .ok (.iload 6, 2) := by decide +kernel
theorem dX11_order_104 : decode cX11_order 104 = .ok (.iload 7, 2) := by decide +kernel
theorem dX11_order_106 : decode cX11_order 106 = .ok (.ior, 1) := by decide +kernel
theorem dX11_order_107 : decode cX11_order 107 = .ok (.goto 5, 3) := by decide +kernel
theorem dX11_order_110 : decode cX11_order 110 = .ok (.iload 7, 2) := by decide +kernel
theorem dX11_order_112 : decode cX11_order 112 = .ok (.iastore, 1) := by decide +kernel
theorem dX11_order_113 : decode cX11_order 113 = .ok (.iload 8, 2) := by decide +kernel
theorem dX11_order_115 : decode cX11_order 115 = .ok (.ireturn, 1) := by decide +kernel
theorem dX11_part_0 : decode cX11_part 0 = .ok (.aload_n 0, 1) := by decide +kernel
theorem dX11_part_1 : decode cX11_part 1 = .ok (.getfield 123, 3) := by decide +kernel
theorem dX11_part_4 : decode cX11_part 4 = .ok (.bipush 12, 2) := by decide +kernel
theorem dX11_part_6 : decode cX11_part 6 = .ok (.if_icmp .eq 49, 3) := by decide +kernel
theorem dX11_part_9 : decode cX11_part 9 = .ok (.aload_n 0, 1) := by decide +kernel
theorem dX11_part_10 : decode cX11_part 10 = .ok (.iload_n 1, 1) := by decide +kernel
theorem dX11_part_11 : decode cX11_part 11 = .ok (.iload_n 2, 1) := by decide +kernel
theorem dX11_part_12 : decode cX11_part 12 = .ok (.iload_n 3, 1) := by decide +kernel
theorem dX11_part_13 : decode cX11_part 13 = .ok (.iconst (-1), 1) := by decide +kernel
theorem dX11_part_14 : decode cX11_part 14 = .ok (.invokevirtual 126, 3) := by decide +kernel
theorem dX11_part_17 : decode cX11_part 17 = .ok (.ifCond .lt 38, 3) := by decide +kernel
theorem dX11_part_20 : decode cX11_part 20 = .ok (.aload_n 0, 1) := by decide +kernel
theorem dX11_part_21 : decode cX11_part 21 = .ok (.iload_n 1, 1) := by decide +kernel
theorem dX11_part_22 : decode cX11_part 22 = .ok (.iload 4, 2) := by decide +kernel
theorem dX11_part_24 : decode cX11_part 24 = .ok (.invokevirtual 113, 3) := by decide +kernel
theorem dX11_part_27 : decode cX11_part 27 = .ok (.ifCond .eq 28, 3) := by decide +kernel
theorem dX11_part_30 : decode cX11_part 30 = .ok (.iload 5, 2) := by decide +kernel
theorem dX11_part_32 : decode cX11_part 32 = .ok (.iconst 0, 1) := by decide +kernel
theorem dX11_part_33 : decode cX11_part 33 = .ok (.sipush 999, 3) := by decide +kernel
theorem dX11_part_36 : decode cX11_part 36 = .ok (.invokestatic 89, 3) := by decide +kernel
theorem dX11_part_39 : decode cX11_part 39 = .ok (.ifCond .eq 16, 3) := by decide +kernel
theorem dX11_part_42 : decode cX11_part 42 = .ok (.iload 6, 2) := by decide +kernel
theorem dX11_part_44 : decode cX11_part 44 = .ok (.iload 5, 2) := by decide +kernel
theorem dX11_part_46 : decode cX11_part 46 = .ok (.sipush 999, 3) := by decide +kernel
theorem dX11_part_49 : decode cX11_part 49 = .ok (.invokestatic 89, 3) := by decide +kernel
theorem dX11_part_52 : decode cX11_part 52 = .ok (.ifCond .ne 5, 3) := by decide +kernel
theorem dX11_part_55 : decode cX11_part 55 = .ok (.iconst (-1), 1) := by decide +kernel
theorem dX11_part_56 : decode cX11_part 56 = .ok (.ireturn, 1) := by decide +kernel
theorem dX11_part_57 : decode cX11_part 57 = .ok (.aload_n 0, 1) := by decide +kernel
theorem dX11_part_58 : decode cX11_part 58 = .ok (.iload_n 1, 1) := by decide +kernel
theorem dX11_part_59 : decode cX11_part 59 = .ok (.iconst 2, 1) := by decide +kernel
theorem dX11_part_60 : decode cX11_part 60 = .ok (.iload_n 2, 1) := by decide +kernel
theorem dX11_part_61 : decode cX11_part 61 = .ok (.iload_n 3, 1) := by decide +kernel
theorem dX11_part_62 : decode cX11_part 62 = .ok (.iconst (-1), 1) := by decide +kernel
theorem dX11_part_63 : decode cX11_part 63 = .ok (.invokevirtual 130, 3) := by decide +kernel
theorem dX11_part_66 : decode cX11_part 66 = .ok (.istore 7, 2) := by decide +kernel
theorem dX11_part_68 : decode cX11_part 68 = .ok (.aload_n 0, 1) := by decide +kernel
theorem dX11_part_69 : decode cX11_part 69 = .ok (.getfield 74, 3) := by decide +kernel
theorem dX11_part_72 : decode cX11_part 72 = .ok (.iload 7, 2) := by decide +kernel
theorem dX11_part_74 : decode cX11_part 74 = .ok (.iload 4, 2) := by decide +kernel
theorem dX11_part_76 : decode cX11_part 76 = .ok (.iastore, 1) := by decide +kernel
theorem dX11_part_77 : decode cX11_part 77 = .ok (.aload_n 0, 1) := by decide +kernel
theorem dX11_part_78 : decode cX11_part 78 = .ok (.getfield 77, 3) := by decide +kernel
theorem dX11_part_81 : decode cX11_part 81 = .ok (.iload 7, 2) := by decide +kernel
theorem dX11_part_83 : decode cX11_part 83 = .ok (.iload 5, 2) := by decide +kernel
theorem dX11_part_85 : decode cX11_part 85 = .ok (.iastore, 1) := by decide +kernel
theorem dX11_part_86 : decode cX11_part 86 = .ok (.aload_n 0, 1) := by decide +kernel
theorem dX11_part_87 : decode cX11_part 87 = .ok (.getfield 80, 3) := by decide +kernel
theorem dX11_part_90 : decode cX11_part 90 = .ok (.iload 7, 2) := by decide +kernel
theorem dX11_part_92 : decode cX11_part 92 = .ok (.iload 6, 2) := by decide +kernel
theorem dX11_part_94 : decode cX11_part 94 = .ok (.iastore, 1) := by decide +kernel
theorem dX11_part_95 : decode cX11_part 95 = .ok (.iload 7, 2) := by decide +kernel
theorem dX11_part_97 : decode cX11_part 97 = .ok (.ireturn, 1) := by decide +kernel
theorem dX11_sums_0 : decode cX11_sums 0 = .ok (.aload_n 0, 1) := by decide +kernel
theorem dX11_sums_1 : decode cX11_sums 1 = .ok (.getfield 123, 3) := by decide +kernel
theorem dX11_sums_4 : decode cX11_sums 4 = .ok (.bipush 12, 2) := by decide +kernel
theorem dX11_sums_6 : decode cX11_sums 6 = .ok (.if_icmp .eq 42, 3) := by decide +kernel
theorem dX11_sums_9 : decode cX11_sums 9 = .ok (.aload_n 0, 1) := by decide +kernel
theorem dX11_sums_10 : decode cX11_sums 10 = .ok (.iload_n 1, 1) := by decide +kernel
theorem dX11_sums_11 : decode cX11_sums 11 = .ok (.iload_n 3, 1) := by decide +kernel
theorem dX11_sums_12 : decode cX11_sums 12 = .ok (.invokevirtual 113, 3) := by decide +kernel
theorem dX11_sums_15 : decode cX11_sums 15 = .ok (.ifCond .eq 33, 3) := by decide +kernel
theorem dX11_sums_18 : decode cX11_sums 18 = .ok (.iload_n 2, 1) := by decide +kernel
theorem dX11_sums_19 : decode cX11_sums 19 = .ok (.iconst 0, 1) := by decide +kernel
theorem dX11_sums_20 : decode cX11_sums 20 = .ok (.iconst 1, 1) := by decide +kernel
theorem dX11_sums_21 : decode cX11_sums 21 = .ok (.aload_n 0, 1) := by decide +kernel
theorem dX11_sums_22 : decode cX11_sums 22 = .ok (.getfield 7, 3) := by decide +kernel
theorem dX11_sums_25 : decode cX11_sums 25 = .ok (.iload_n 1, 1) := by decide +kernel
theorem dX11_sums_26 : decode cX11_sums 26 = .ok (.iaload, 1) := by decide +kernel
theorem dX11_sums_27 : decode cX11_sums 27 = .ok (.ishl, 1) := by decide +kernel
theorem dX11_sums_28 : decode cX11_sums 28 = .ok (.iconst 1, 1) := by decide +kernel
theorem dX11_sums_29 : decode cX11_sums 29 = .ok (.isub, 1) := by decide +kernel
theorem dX11_sums_30 : decode cX11_sums 30 = .ok (.invokestatic 89, 3) := by decide +kernel
theorem dX11_sums_33 : decode cX11_sums 33 = .ok (.ifCond .eq 15, 3) := by decide +kernel
theorem dX11_sums_36 : decode cX11_sums 36 = .ok (.iload_n 2, 1) := by decide +kernel
theorem dX11_sums_37 : decode cX11_sums 37 = .ok (.invokestatic 134, 3) := by decide +kernel
theorem dX11_sums_40 : decode cX11_sums 40 = .ok (.iconst 1, 1) := by decide +kernel
theorem dX11_sums_41 : decode cX11_sums 41 = .ok (.iconst 2, 1) := by decide +kernel
theorem dX11_sums_42 : decode cX11_sums 42 = .ok (.invokestatic 89, 3) := by decide +kernel
theorem dX11_sums_45 : decode cX11_sums 45 = .ok (.ifCond .ne 5, 3) := by decide +kernel
theorem dX11_sums_48 : decode cX11_sums 48 = .ok (.iconst (-1), 1) := by decide +kernel
theorem dX11_sums_49 : decode cX11_sums 49 = .ok (.ireturn, 1) := by decide +kernel
theorem dX11_sums_50 : decode cX11_sums 50 = .ok (.aload_n 0, 1) := by decide +kernel
theorem dX11_sums_51 : decode cX11_sums 51 = .ok (.iload_n 1, 1) := by decide +kernel
theorem dX11_sums_52 : decode cX11_sums 52 = .ok (.iconst 3, 1) := by decide +kernel
theorem dX11_sums_53 : decode cX11_sums 53 = .ok (.iconst (-1), 1) := by decide +kernel
theorem dX11_sums_54 : decode cX11_sums 54 = .ok (.iconst (-1), 1) := by decide +kernel
theorem dX11_sums_55 : decode cX11_sums 55 = .ok (.iconst (-1), 1) := by decide +kernel
theorem dX11_sums_56 : decode cX11_sums 56 = .ok (.invokevirtual 130, 3) := by decide +kernel
theorem dX11_sums_59 : decode cX11_sums 59 = .ok (.istore 4, 2) := by decide +kernel
theorem dX11_sums_61 : decode cX11_sums 61 = .ok (.aload_n 0, 1) := by decide +kernel
theorem dX11_sums_62 : decode cX11_sums 62 = .ok (.getfield 65, 3) := by decide +kernel
theorem dX11_sums_65 : decode cX11_sums 65 = .ok (.iload 4, 2) := by decide +kernel
theorem dX11_sums_67 : decode cX11_sums 67 = .ok (.iconst 0, 1) := by decide +kernel
theorem dX11_sums_68 : decode cX11_sums 68 = .ok (.iastore, 1) := by decide +kernel
theorem dX11_sums_69 : decode cX11_sums 69 = .ok (.aload_n 0, 1) := by decide +kernel
theorem dX11_sums_70 : decode cX11_sums 70 = .ok (.getfield 71, 3) := by decide +kernel
theorem dX11_sums_73 : decode cX11_sums 73 = .ok (.iload 4, 2) := by decide +kernel
theorem dX11_sums_75 : decode cX11_sums 75 = .ok (.iload_n 2, 1) := by decide +kernel
theorem dX11_sums_76 : decode cX11_sums 76 = .ok (.iastore, 1) := by decide +kernel
theorem dX11_sums_77 : decode cX11_sums 77 = .ok (.aload_n 0, 1) := by decide +kernel
theorem dX11_sums_78 : decode cX11_sums 78 = .ok (.getfield 74, 3) := by decide +kernel
theorem dX11_sums_81 : decode cX11_sums 81 = .ok (.iload 4, 2) := by decide +kernel
theorem dX11_sums_83 : decode cX11_sums 83 = .ok (.iload_n 3, 1) := by decide +kernel
theorem dX11_sums_84 : decode cX11_sums 84 = .ok (.iastore, 1) := by decide +kernel
theorem dX11_sums_85 : decode cX11_sums 85 = .ok (.iload 4, 2) := by decide +kernel
theorem dX11_sums_87 : decode cX11_sums 87 = .ok (.ireturn, 1) := by decide +kernel
theorem dX11_isAid_0 : decode cX11_isAid 0 = .ok (.iload_n 1, 1) := by decide +kernel
theorem dX11_isAid_1 : decode cX11_isAid 1 = .ok (.iconst 0, 1) := by decide +kernel
theorem dX11_isAid_2 : decode cX11_isAid 2 = .ok (.aload_n 0, 1) := by decide +kernel
theorem dX11_isAid_3 : decode cX11_isAid 3 = .ok (.getfield 123, 3) := by decide +kernel
theorem dX11_isAid_6 : decode cX11_isAid 6 = .ok (.iconst 1, 1) := by decide +kernel
theorem dX11_isAid_7 : decode cX11_isAid 7 = .ok (.isub, 1) := by decide +kernel
theorem dX11_isAid_8 : decode cX11_isAid 8 = .ok (.invokestatic 89, 3) := by decide +kernel
theorem dX11_isAid_11 : decode cX11_isAid 11 = .ok (.ireturn, 1) := by decide +kernel
theorem dX11_build_0 : decode cX11_build 0 = .ok (.aload_n 0, 1) := by decide +kernel
theorem dX11_build_1 : decode cX11_build 1 = .ok (.iload_n 1, 1) := by decide +kernel
theorem dX11_build_2 : decode cX11_build 2 = .ok (.invokevirtual 137, 3) := by decide +kernel
theorem dX11_build_5 : decode cX11_build 5 = .ok (.ifCond .eq 34, 3) := by decide +kernel
theorem dX11_build_8 : decode cX11_build 8 = .ok (.aload_n 0, 1) := by decide +kernel
theorem dX11_build_9 : decode cX11_build 9 = .ok (.getfield 140, 3) := by decide +kernel
theorem dX11_build_12 : decode cX11_build 12 = .ok (.iload_n 1, 1) := by decide +kernel
theorem dX11_build_13 : decode cX11_build 13 = .ok (.invokestatic 97, 3) := by decide +kernel
theorem dX11_build_16 : decode cX11_build 16 = .ok (.iload_n 2, 1) := by decide +kernel
theorem dX11_build_17 : decode cX11_build 17 = .ok (.if_icmp .eq 22, 3) := by decide +kernel
theorem dX11_build_20 : decode cX11_build 20 = .ok (.iload_n 2, 1) := by decide +kernel
theorem dX11_build_21 : decode cX11_build 21 = .ok (.ifCond .eq 20, 3) := by decide +kernel
theorem dX11_build_24 : decode cX11_build 24 = .ok (.aload_n 0, 1) := by decide +kernel
theorem dX11_build_25 : decode cX11_build 25 = .ok (.aload_n 0, 1) := by decide +kernel
theorem dX11_build_26 : decode cX11_build 26 = .ok (.getfield 140, 3) := by decide +kernel
theorem dX11_build_29 : decode cX11_build 29 = .ok (.iconst 1, 1) := by decide +kernel
theorem dX11_build_30 : decode cX11_build 30 = .ok (.iload_n 1, 1) := by decide +kernel
theorem dX11_build_31 : decode cX11_build 31 = .ok (.ishl, 1) := by decide +kernel
theorem dX11_build_32 : decode cX11_build 32 = .ok (.ior, 1) := by decide +kernel
theorem dX11_build_33 : decode cX11_build 33 = .ok (.invokevirtual 143, 3) := by decide +kernel
theorem dX11_build_36 : decode cX11_build 36 = .ok (.ifCond .ne 5, 3) := by decide +kernel
theorem dX11_build_39 : decode cX11_build 39 = .ok (.iconst 0, 1) := by decide +kernel
theorem dX11_build_40 : decode cX11_build 40 = .ok (.ireturn, 1) := by decide +kernel
theorem dX11_build_41 : decode cX11_build 41 = .ok (.aload_n 0, 1) := by decide +kernel
theorem dX11_build_42 : decode cX11_build 42 = .ok (.dup, 1) := by decide +kernel
theorem dX11_build_43 : decode cX11_build 43 = .ok (.getfield 140, 3) := by decide +kernel
theorem dX11_build_46 : decode cX11_build 46 = .ok (.iconst 1, 1) := by decide +kernel
theorem dX11_build_47 : decode cX11_build 47 = .ok (.iload_n 1, 1) := by decide +kernel
theorem dX11_build_48 : decode cX11_build 48 = .ok (.ishl, 1) := by decide +kernel
theorem dX11_build_49 : decode cX11_build 49 = .ok (.ixor, 1) := by decide +kernel
theorem dX11_build_50 : decode cX11_build 50 = .ok (.putfield 140, 3) := by decide +kernel
theorem dX11_build_53 : decode cX11_build 53 = .ok (.iconst 1, 1) := by decide +kernel
theorem dX11_build_54 : decode cX11_build 54 = .ok (.ireturn, 1) := by decide +kernel
theorem dX11_isSet_0 : decode cX11_isSet 0 = .ok (.iload_n 1, 1) := by decide +kernel
theorem dX11_isSet_1 : decode cX11_isSet 1 = .ok (.ifCond .lt 12, 3) := by decide +kernel
theorem dX11_isSet_4 : decode cX11_isSet 4 = .ok (.iload_n 1, 1) := by decide +kernel
theorem dX11_isSet_5 : decode cX11_isSet 5 = .ok (.aload_n 0, 1) := by decide +kernel
theorem dX11_isSet_6 : decode cX11_isSet 6 = .ok (.getfield 123, 3) := by decide +kernel
theorem dX11_isSet_9 : decode cX11_isSet 9 = .ok (.ishr, 1) := by decide +kernel
theorem dX11_isSet_10 : decode cX11_isSet 10 = .ok (.ifCond .eq 5, 3) := by decide +kernel
theorem dX11_isSet_13 : decode cX11_isSet 13 = .ok (.iconst 0, 1) := by decide +kernel
theorem dX11_isSet_14 : decode cX11_isSet 14 = .ok (.ireturn, 1) := by decide +kernel
theorem dX11_isSet_15 : decode cX11_isSet 15 = .ok (.iconst 0, 1) := by decide +kernel
theorem dX11_isSet_16 : decode cX11_isSet 16 = .ok (.istore_n 2, 1) := by decide +kernel
theorem dX11_isSet_17 : decode cX11_isSet 17 = .ok (.iload_n 2, 1) := by decide +kernel
theorem dX11_isSet_18 : decode cX11_isSet 18 = .ok (.aload_n 0, 1) := by decide +kernel
theorem dX11_isSet_19 : decode cX11_isSet 19 = .ok (.getfield 123, 3) := by decide +kernel
theorem dX11_isSet_22 : decode cX11_isSet 22 = .ok (.if_icmp .ge 75, 3) := by decide +kernel
theorem dX11_isSet_25 : decode cX11_isSet 25 = .ok (.iconst 0, 1) := by decide +kernel
theorem dX11_isSet_26 : decode cX11_isSet 26 = .ok (.istore_n 3, 1) := by decide +kernel
theorem dX11_isSet_27 : decode cX11_isSet 27 = .ok (.iload_n 3, 1) := by decide +kernel
theorem dX11_isSet_28 : decode cX11_isSet 28 = .ok (.iload_n 2, 1) := by decide +kernel
theorem dX11_isSet_29 : decode cX11_isSet 29 = .ok (.if_icmp .ge 62, 3) := by decide +kernel
theorem dX11_isSet_32 : decode cX11_isSet 32 = .ok (.iload_n 1, 1) := by decide +kernel
theorem dX11_isSet_33 : decode cX11_isSet 33 = .ok (.iload_n 2, 1) := by decide +kernel
theorem dX11_isSet_34 : decode cX11_isSet 34 = .ok (.invokestatic 97, 3) := by decide +kernel
theorem dX11_isSet_37 : decode cX11_isSet 37 = .ok (.ifCond .eq 48, 3) := by decide +kernel
theorem dX11_isSet_40 : decode cX11_isSet 40 = .ok (.iload_n 1, 1) := by decide +kernel
theorem dX11_isSet_41 : decode cX11_isSet 41 = .ok (.iload_n 3, 1) := by decide +kernel
theorem dX11_isSet_42 : decode cX11_isSet 42 = .ok (.invokestatic 97, 3) := by decide +kernel
theorem dX11_isSet_45 : decode cX11_isSet 45 = .ok (.ifCond .eq 40, 3) := by decide +kernel
theorem dX11_isSet_48 : decode cX11_isSet 48 = .ok (.aload_n 0, 1) := by decide +kernel
theorem dX11_isSet_49 : decode cX11_isSet 49 = .ok (.getfield 59, 3) := by decide +kernel
theorem dX11_isSet_52 : decode cX11_isSet 52 = .ok (.iload_n 2, 1) := by decide +kernel
theorem dX11_isSet_53 : decode cX11_isSet 53 = .ok (.iaload, 1) := by decide +kernel
theorem dX11_isSet_54 : decode cX11_isSet 54 = .ok (.iconst 4, 1) := by decide +kernel
theorem dX11_isSet_55 : decode cX11_isSet 55 = .ok (.if_icmp .ne 30, 3) := by decide +kernel
theorem dX11_isSet_58 : decode cX11_isSet 58 = .ok (.aload_n 0, 1) := by decide +kernel
theorem dX11_isSet_59 : decode cX11_isSet 59 = .ok (.getfield 59, 3) := by decide +kernel
theorem dX11_isSet_62 : decode cX11_isSet 62 = .ok (.iload_n 3, 1) := by decide +kernel
theorem dX11_isSet_63 : decode cX11_isSet 63 = .ok (.iaload, 1) := by decide +kernel
theorem dX11_isSet_64 : decode cX11_isSet 64 = .ok (.iconst 4, 1) := by decide +kernel
theorem dX11_isSet_65 : decode cX11_isSet 65 = .ok (.if_icmp .ne 20, 3) := by decide +kernel
theorem dX11_isSet_68 : decode cX11_isSet 68 = .ok (.aload_n 0, 1) := by decide +kernel
theorem dX11_isSet_69 : decode cX11_isSet 69 = .ok (.getfield 62, 3) := by decide +kernel
theorem dX11_isSet_72 : decode cX11_isSet 72 = .ok (.iload_n 2, 1) := by decide +kernel
theorem dX11_isSet_73 : decode cX11_isSet 73 = .ok (.iaload, 1) := by decide +kernel
theorem dX11_isSet_74 : decode cX11_isSet 74 = .ok (.aload_n 0, 1) := by decide +kernel
theorem dX11_isSet_75 : decode cX11_isSet 75 = .ok (.getfield 62, 3) := by decide +kernel
theorem dX11_isSet_78 : decode cX11_isSet 78 = .ok (.iload_n 3, 1) := by decide +kernel
theorem dX11_isSet_79 : decode cX11_isSet 79 = .ok (.iaload, 1) := by decide +kernel
theorem dX11_isSet_80 : decode cX11_isSet 80 = .ok (.if_icmp .ne 5, 3) := by decide +kernel
theorem dX11_isSet_83 : decode cX11_isSet 83 = .ok (.iconst 0, 1) := by decide +kernel
theorem dX11_isSet_84 : decode cX11_isSet 84 = .ok (.ireturn, 1) := by decide +kernel
theorem dX11_isSet_85 : decode cX11_isSet 85 = .ok (.iinc 3 1, 3) := by decide +kernel
theorem dX11_isSet_88 : decode cX11_isSet 88 = .ok (.goto (-61), 3) := by decide +kernel
theorem dX11_isSet_91 : decode cX11_isSet 91 = .ok (.iinc 2 1, 3) := by decide +kernel
theorem dX11_isSet_94 : decode cX11_isSet 94 = .ok (.goto (-77), 3) := by decide +kernel
theorem dX11_isSet_97 : decode cX11_isSet 97 = .ok (.iconst 1, 1) := by decide +kernel
theorem dX11_isSet_98 : decode cX11_isSet 98 = .ok (.ireturn, 1) := by decide +kernel
theorem dX11_passes_0 : decode cX11_passes 0 = .ok (.iconst 4, 1) := by decide +kernel
theorem dX11_passes_1 : decode cX11_passes 1 = .ok (.iload_n 2, 1) := by decide +kernel
theorem dX11_passes_2 : decode cX11_passes 2 = .ok (.imul, 1) := by decide +kernel
theorem dX11_passes_3 : decode cX11_passes 3 = .ok (.iload_n 3, 1) := by decide +kernel
theorem dX11_passes_4 : decode cX11_passes 4 = .ok (.iadd, 1) := by decide +kernel
theorem dX11_passes_5 : decode cX11_passes 5 = .ok (.istore 6, 2) := by decide +kernel
theorem dX11_passes_7 : decode cX11_passes 7 = .ok (.iload 4, 2) := by decide +kernel
theorem dX11_passes_9 : decode cX11_passes 9 = .ok (.aload_n 0, 1) := by decide +kernel
theorem dX11_passes_10 : decode cX11_passes 10 = .ok (.getfield 28, 3) := by decide +kernel
theorem dX11_passes_13 : decode cX11_passes 13 = .ok (.iload 6, 2) := by decide +kernel
theorem dX11_passes_15 : decode cX11_passes 15 = .ok (.iaload, 1) := by decide +kernel
theorem dX11_passes_16 : decode cX11_passes 16 = .ok (.if_icmp .le 8, 3) := by decide +kernel
theorem dX11_passes_19 : decode cX11_passes 19 = .ok (.iload 4, 2) := by decide +kernel
theorem dX11_passes_21 : decode cX11_passes 21 = .ok (.goto 10, 3) := by decide +kernel
theorem dX11_passes_24 : decode cX11_passes 24 = .ok (.aload_n 0, 1) := by decide +kernel
theorem dX11_passes_25 : decode cX11_passes 25 = .ok (.getfield 28, 3) := by decide +kernel
theorem dX11_passes_28 : decode cX11_passes 28 = .ok (.iload 6, 2) := by decide +kernel
theorem dX11_passes_30 : decode cX11_passes 30 = .ok (.iaload, 1) := by decide +kernel
theorem dX11_passes_31 : decode cX11_passes 31 = .ok (.istore 7, 2) := by decide +kernel
theorem dX11_passes_33 : decode cX11_passes 33 = .ok (.iload 5, 2) := by decide +kernel
theorem dX11_passes_35 : decode cX11_passes 35 = .ok (.aload_n 0, 1) := by decide +kernel
theorem dX11_passes_36 : decode cX11_passes 36 = .ok (.getfield 31, 3) := by decide +kernel
theorem dX11_passes_39 : decode cX11_passes 39 = .ok (.iload 6, 2) := by decide +kernel
theorem dX11_passes_41 : decode cX11_passes 41 = .ok (.iaload, 1) := by decide +kernel
theorem dX11_passes_42 : decode cX11_passes 42 = .ok (.if_icmp .ge 8, 3) := by decide +kernel
theorem dX11_passes_45 : decode cX11_passes 45 = .ok (.iload 5, 2) := by decide +kernel
theorem dX11_passes_47 : decode cX11_passes 47 = .ok (.goto 10, 3) := by decide +kernel
theorem dX11_passes_50 : decode cX11_passes 50 = .ok (.aload_n 0, 1) := by decide +kernel
theorem dX11_passes_51 : decode cX11_passes 51 = .ok (.getfield 31, 3) := by decide +kernel
theorem dX11_passes_54 : decode cX11_passes 54 = .ok (.iload 6, 2) := by decide +kernel
theorem dX11_passes_56 : decode cX11_passes 56 = .ok (.iaload, 1) := by decide +kernel
theorem dX11_passes_57 : decode cX11_passes 57 = .ok (.istore 8, 2) := by decide +kernel
theorem dX11_passes_59 : decode cX11_passes 59 = .ok (.iload_n 1, 1) := by decide +kernel
theorem dX11_passes_60 : decode cX11_passes 60 = .ok (.ifCond .eq 10, 3) := by decide +kernel
theorem dX11_passes_63 : decode cX11_passes 63 = .ok (.iload 7, 2) := by decide +kernel
theorem dX11_passes_65 : decode cX11_passes 65 = .ok (.iload 8, 2) := by decide +kernel
theorem dX11_passes_67 : decode cX11_passes 67 = .ok (.if_icmp .le 5, 3) := by decide +kernel
theorem dX11_passes_70 : decode cX11_passes 70 = .ok (.iconst 0, 1) := by decide +kernel
theorem dX11_passes_71 : decode cX11_passes 71 = .ok (.ireturn, 1) := by decide +kernel
theorem dX11_passes_72 : decode cX11_passes 72 = .ok (.iload 4, 2) := by decide +kernel
theorem dX11_passes_74 : decode cX11_passes 74 = .ok (.iload 5, 2) := by decide +kernel
theorem dX11_passes_76 : decode cX11_passes 76 = .ok (.if_icmp .ne 17, 3) := by decide +kernel
theorem dX11_passes_79 : decode cX11_passes 79 = .ok (.iload_n 1, 1) := by decide +kernel
theorem dX11_passes_80 : decode cX11_passes 80 = .ok (.aload_n 0, 1) := by decide +kernel
theorem dX11_passes_81 : decode cX11_passes 81 = .ok (.getfield 25, 3) := by decide +kernel
theorem dX11_passes_84 : decode cX11_passes 84 = .ok (.iload 6, 2) := by decide +kernel
theorem dX11_passes_86 : decode cX11_passes 86 = .ok (.iaload, 1) := by decide +kernel
theorem dX11_passes_87 : decode cX11_passes 87 = .ok (.invokestatic 105, 3) := by decide +kernel
theorem dX11_passes_90 : decode cX11_passes 90 = .ok (.goto 32, 3) := by decide +kernel
theorem dX11_passes_93 : decode cX11_passes 93 = .ok (.iload_n 1, 1) := by decide +kernel
theorem dX11_passes_94 : decode cX11_passes 94 = .ok (.iload 8, 2) := by decide +kernel
theorem dX11_passes_96 : decode cX11_passes 96 = .ok (.iload 7, 2) := by decide +kernel
theorem dX11_passes_98 : decode cX11_passes 98 = .ok (.isub, 1) := by decide +kernel
theorem dX11_passes_99 : decode cX11_passes 99 = .ok (.iconst 1, 1) := by decide +kernel
theorem dX11_passes_100 : decode cX11_passes 100 = .ok (.iadd, 1) := by decide +kernel
theorem dX11_passes_101 : decode cX11_passes 101 = .ok (.imul, 1) := by decide +kernel
theorem dX11_passes_102 : decode cX11_passes 102 = .ok (.aload_n 0, 1) := by decide +kernel
theorem dX11_passes_103 : decode cX11_passes 103 = .ok (.getfield 31, 3) := by decide +kernel
theorem dX11_passes_106 : decode cX11_passes 106 = .ok (.iload 6, 2) := by decide +kernel
theorem dX11_passes_108 : decode cX11_passes 108 = .ok (.iaload, 1) := by decide +kernel
theorem dX11_passes_109 : decode cX11_passes 109 = .ok (.aload_n 0, 1) := by decide +kernel
theorem dX11_passes_110 : decode cX11_passes 110 = .ok (.getfield 28, 3) := by decide +kernel
theorem dX11_passes_113 : decode cX11_passes 113 = .ok (.iload 6, 2) := by decide +kernel
theorem dX11_passes_115 : decode cX11_passes 115 = .ok (.iaload, 1) := by decide +kernel
theorem dX11_passes_116 : decode cX11_passes 116 = .ok (.isub, 1) := by decide +kernel
theorem dX11_passes_117 : decode cX11_passes 117 = .ok (.iconst 1, 1) := by decide +kernel
theorem dX11_passes_118 : decode cX11_passes 118 = .ok (.iadd, 1) := by decide +kernel
theorem dX11_passes_119 : decode cX11_passes 119 = .ok (.invokestatic 105, 3) := by decide +kernel
theorem dX11_passes_122 : decode cX11_passes 122 = .ok (.ireturn, 1) := by decide +kernel
theorem dX11_uses_0 : decode cX11_uses 0 = .ok (.iconst 0, 1) := by decide +kernel
theorem dX11_uses_1 : decode cX11_uses 1 = .ok (.istore_n 3, 1) := by decide +kernel
theorem dX11_uses_2 : decode cX11_uses 2 = .ok (.iload_n 3, 1) := by decide +kernel
theorem dX11_uses_3 : decode cX11_uses 3 = .ok (.aload_n 0, 1) := by decide +kernel
theorem dX11_uses_4 : decode cX11_uses 4 = .ok (.getfield 65, 3) := by decide +kernel
theorem dX11_uses_7 : decode cX11_uses 7 = .ok (.iload_n 2, 1) := by decide +kernel
theorem dX11_uses_8 : decode cX11_uses 8 = .ok (.iaload, 1) := by decide +kernel
theorem dX11_uses_9 : decode cX11_uses 9 = .ok (.if_icmp .ge 56, 3) := by decide +kernel
theorem dX11_uses_12 : decode cX11_uses 12 = .ok (.iconst 4, 1) := by decide +kernel
theorem dX11_uses_13 : decode cX11_uses 13 = .ok (.iload_n 1, 1) := by decide +kernel
theorem dX11_uses_14 : decode cX11_uses 14 = .ok (.imul, 1) := by decide +kernel
theorem dX11_uses_15 : decode cX11_uses 15 = .ok (.aload_n 0, 1) := by decide +kernel
theorem dX11_uses_16 : decode cX11_uses 16 = .ok (.getfield 68, 3) := by decide +kernel
theorem dX11_uses_19 : decode cX11_uses 19 = .ok (.iconst 3, 1) := by decide +kernel
theorem dX11_uses_20 : decode cX11_uses 20 = .ok (.iload_n 2, 1) := by decide +kernel
theorem dX11_uses_21 : decode cX11_uses 21 = .ok (.imul, 1) := by decide +kernel
theorem dX11_uses_22 : decode cX11_uses 22 = .ok (.iload_n 3, 1) := by decide +kernel
theorem dX11_uses_23 : decode cX11_uses 23 = .ok (.iadd, 1) := by decide +kernel
theorem dX11_uses_24 : decode cX11_uses 24 = .ok (.iaload, 1) := by decide +kernel
theorem dX11_uses_25 : decode cX11_uses 25 = .ok (.iadd, 1) := by decide +kernel
theorem dX11_uses_26 : decode cX11_uses 26 = .ok (.istore 4, 2) := by decide +kernel
theorem dX11_uses_28 : decode cX11_uses 28 = .ok (.aload_n 0, 1) := by decide +kernel
theorem dX11_uses_29 : decode cX11_uses 29 = .ok (.getfield 49, 3) := by decide +kernel
theorem dX11_uses_32 : decode cX11_uses 32 = .ok (.iload 4, 2) := by decide +kernel
theorem dX11_uses_34 : decode cX11_uses 34 = .ok (.baload, 1) := by decide +kernel
theorem dX11_uses_35 : decode cX11_uses 35 = .ok (.ifCond .ne 5, 3) := by decide +kernel
theorem dX11_uses_38 : decode cX11_uses 38 = .ok (.iload_n 3, 1) := by decide +kernel
theorem dX11_uses_39 : decode cX11_uses 39 = .ok (.ireturn, 1) := by decide +kernel
theorem dX11_uses_40 : decode cX11_uses 40 = .ok (.iinc 3 1, 3) := by decide +kernel
theorem dX11_uses_43 : decode cX11_uses 43 = .ok (.aload_n 0, 1) := by decide +kernel
theorem dX11_uses_44 : decode cX11_uses 44 = .ok (.getfield 53, 3) := by decide +kernel
theorem dX11_uses_47 : decode cX11_uses 47 = .ok (.iload 4, 2) := by decide +kernel
theorem dX11_uses_49 : decode cX11_uses 49 = .ok (.iaload, 1) := by decide +kernel
theorem dX11_uses_50 : decode cX11_uses 50 = .ok (.aload_n 0, 1) := by decide +kernel
theorem dX11_uses_51 : decode cX11_uses 51 = .ok (.getfield 56, 3) := by decide +kernel
theorem dX11_uses_54 : decode cX11_uses 54 = .ok (.iload 4, 2) := by decide +kernel
theorem dX11_uses_56 : decode cX11_uses 56 = .ok (.iaload, 1) := by decide +kernel
theorem dX11_uses_57 : decode cX11_uses 57 = .ok (.if_icmp .eq 5, 3) := by decide +kernel
theorem dX11_uses_60 : decode cX11_uses 60 = .ok (.iload_n 3, 1) := by decide +kernel
theorem dX11_uses_61 : decode cX11_uses 61 = .ok (.ireturn, 1) := by decide +kernel
theorem dX11_uses_62 : decode cX11_uses 62 = .ok (.goto (-60), 3) := by decide +kernel
theorem dX11_uses_65 : decode cX11_uses 65 = .ok (.iload_n 3, 1) := by decide +kernel
theorem dX11_uses_66 : decode cX11_uses 66 = .ok (.ireturn, 1) := by decide +kernel
theorem dX11_own_0 : decode cX11_own 0 = .ok (.aload_n 0, 1) := by decide +kernel
theorem dX11_own_1 : decode cX11_own 1 = .ok (.getfield 59, 3) := by decide +kernel
theorem dX11_own_4 : decode cX11_own 4 = .ok (.iload_n 1, 1) := by decide +kernel
theorem dX11_own_5 : decode cX11_own 5 = .ok (.iaload, 1) := by decide +kernel
theorem dX11_own_6 : decode cX11_own 6 = .ok (.iconst 2, 1) := by decide +kernel
theorem dX11_own_7 : decode cX11_own 7 = .ok (.if_icmp .ne 45, 3) := by decide +kernel
theorem dX11_own_10 : decode cX11_own 10 = .ok (.aload_n 0, 1) := by decide +kernel
theorem dX11_own_11 : decode cX11_own 11 = .ok (.aload_n 0, 1) := by decide +kernel
theorem dX11_own_12 : decode cX11_own 12 = .ok (.getfield 22, 3) := by decide +kernel
theorem dX11_own_15 : decode cX11_own 15 = .ok (.aload_n 0, 1) := by decide +kernel
theorem dX11_own_16 : decode cX11_own 16 = .ok (.getfield 62, 3) := by decide +kernel
theorem dX11_own_19 : decode cX11_own 19 = .ok (.iload_n 1, 1) := by decide +kernel
theorem dX11_own_20 : decode cX11_own 20 = .ok (.iaload, 1) := by decide +kernel
theorem dX11_own_21 : decode cX11_own 21 = .ok (.iaload, 1) := by decide +kernel
theorem dX11_own_22 : decode cX11_own 22 = .ok (.aload_n 0, 1) := by decide +kernel
theorem dX11_own_23 : decode cX11_own 23 = .ok (.getfield 62, 3) := by decide +kernel
theorem dX11_own_26 : decode cX11_own 26 = .ok (.iload_n 1, 1) := by decide +kernel
theorem dX11_own_27 : decode cX11_own 27 = .ok (.iaload, 1) := by decide +kernel
theorem dX11_own_28 : decode cX11_own 28 = .ok (.aload_n 0, 1) := by decide +kernel
theorem dX11_own_29 : decode cX11_own 29 = .ok (.getfield 74, 3) := by decide +kernel
theorem dX11_own_32 : decode cX11_own 32 = .ok (.iload_n 1, 1) := by decide +kernel
theorem dX11_own_33 : decode cX11_own 33 = .ok (.iaload, 1) := by decide +kernel
theorem dX11_own_34 : decode cX11_own 34 = .ok (.aload_n 0, 1) := by decide +kernel
theorem dX11_own_35 : decode cX11_own 35 = .ok (.getfield 77, 3) := by decide +kernel
theorem dX11_own_38 : decode cX11_own 38 = .ok (.iload_n 1, 1) := by decide +kernel
theorem dX11_own_39 : decode cX11_own 39 = .ok (.iaload, 1) := by decide +kernel
theorem dX11_own_40 : decode cX11_own 40 = .ok (.aload_n 0, 1) := by decide +kernel
theorem dX11_own_41 : decode cX11_own 41 = .ok (.getfield 80, 3) := by decide +kernel
theorem dX11_own_44 : decode cX11_own 44 = .ok (.iload_n 1, 1) := by decide +kernel
theorem dX11_own_45 : decode cX11_own 45 = .ok (.iaload, 1) := by decide +kernel
theorem dX11_own_46 : decode cX11_own 46 = .ok (.invokevirtual 146, 3) := by decide +kernel
theorem dX11_own_49 : decode cX11_own 49 = .ok (.goto 14, 3) := by decide +kernel
theorem dX11_own_52 : decode cX11_own 52 = .ok (.aload_n 0, 1) := by decide +kernel
theorem dX11_own_53 : decode cX11_own 53 = .ok (.getfield 22, 3) := by decide +kernel
theorem dX11_own_56 : decode cX11_own 56 = .ok (.aload_n 0, 1) := by decide +kernel
theorem dX11_own_57 : decode cX11_own 57 = .ok (.getfield 62, 3) := by decide +kernel
theorem dX11_own_60 : decode cX11_own 60 = .ok (.iload_n 1, 1) := by decide +kernel
theorem dX11_own_61 : decode cX11_own 61 = .ok (.iaload, 1) := by decide +kernel
theorem dX11_own_62 : decode cX11_own 62 = .ok (.iaload, 1) := by decide +kernel
theorem dX11_own_63 : decode cX11_own 63 = .ok (.ireturn, 1) := by decide +kernel
theorem dX11_matched_0 : decode cX11_matched 0 = .ok (.aload_n 0, 1) := by decide +kernel
theorem dX11_matched_1 : decode cX11_matched 1 = .ok (.iload_n 2, 1) := by decide +kernel
theorem dX11_matched_2 : decode cX11_matched 2 = .ok (.invokevirtual 149, 3) := by decide +kernel
theorem dX11_matched_5 : decode cX11_matched 5 = .ok (.istore_n 3, 1) := by decide +kernel
theorem dX11_matched_6 : decode cX11_matched 6 = .ok (.aload_n 0, 1) := by decide +kernel
theorem dX11_matched_7 : decode cX11_matched 7 = .ok (.iload_n 1, 1) := by decide +kernel
theorem dX11_matched_8 : decode cX11_matched 8 = .ok (.iload_n 2, 1) := by decide +kernel
theorem dX11_matched_9 : decode cX11_matched 9 = .ok (.invokevirtual 152, 3) := by decide +kernel
theorem dX11_matched_12 : decode cX11_matched 12 = .ok (.istore 4, 2) := by decide +kernel
theorem dX11_matched_14 : decode cX11_matched 14 = .ok (.iconst 0, 1) := by decide +kernel
theorem dX11_matched_15 : decode cX11_matched 15 = .ok (.istore 5, 2) := by decide +kernel
theorem dX11_matched_17 : decode cX11_matched 17 = .ok (.iload 5, 2) := by decide +kernel
theorem dX11_matched_19 : decode cX11_matched 19 = .ok (.iload 4, 2) := by decide +kernel
theorem dX11_matched_21 : decode cX11_matched 21 = .ok (.if_icmp .ge 58, 3) := by decide +kernel
theorem dX11_matched_24 : decode cX11_matched 24 = .ok (.aload_n 0, 1) := by decide +kernel
theorem dX11_matched_25 : decode cX11_matched 25 = .ok (.getfield 68, 3) := by decide +kernel
theorem dX11_matched_28 : decode cX11_matched 28 = .ok (.iconst 3, 1) := by decide +kernel
theorem dX11_matched_29 : decode cX11_matched 29 = .ok (.iload_n 2, 1) := by decide +kernel
theorem dX11_matched_30 : decode cX11_matched 30 = .ok (.imul, 1) := by decide +kernel
theorem dX11_matched_31 : decode cX11_matched 31 = .ok (.iload 5, 2) := by decide +kernel
theorem dX11_matched_33 : decode cX11_matched 33 = .ok (.iadd, 1) := by decide +kernel
theorem dX11_matched_34 : decode cX11_matched 34 = .ok (.iaload, 1) := by decide +kernel
theorem dX11_matched_35 : decode cX11_matched 35 = .ok (.istore 6, 2) := by decide +kernel
theorem dX11_matched_37 : decode cX11_matched 37 = .ok (.aload_n 0, 1) := by decide +kernel
theorem dX11_matched_38 : decode cX11_matched 38 = .ok (.iload_n 3, 1) := by decide +kernel
theorem dX11_matched_39 : decode cX11_matched 39 = .ok (.aload_n 0, 1) := by decide +kernel
theorem dX11_matched_40 : decode cX11_matched 40 = .ok (.getfield 62, 3) := by decide +kernel
theorem dX11_matched_43 : decode cX11_matched 43 = .ok (.iload_n 2, 1) := by decide +kernel
theorem dX11_matched_44 : decode cX11_matched 44 = .ok (.iaload, 1) := by decide +kernel
theorem dX11_matched_45 : decode cX11_matched 45 = .ok (.iload 6, 2) := by decide +kernel
theorem dX11_matched_47 : decode cX11_matched 47 = .ok (.aload_n 0, 1) := by decide +kernel
theorem dX11_matched_48 : decode cX11_matched 48 = .ok (.getfield 53, 3) := by decide +kernel
theorem dX11_matched_51 : decode cX11_matched 51 = .ok (.iconst 4, 1) := by decide +kernel
theorem dX11_matched_52 : decode cX11_matched 52 = .ok (.iload_n 1, 1) := by decide +kernel
theorem dX11_matched_53 : decode cX11_matched 53 = .ok (.imul, 1) := by decide +kernel
theorem dX11_matched_54 : decode cX11_matched 54 = .ok (.iload 6, 2) := by decide +kernel
theorem dX11_matched_56 : decode cX11_matched 56 = .ok (.iadd, 1) := by decide +kernel
theorem dX11_matched_57 : decode cX11_matched 57 = .ok (.iaload, 1) := by decide +kernel
theorem dX11_matched_58 : decode cX11_matched 58 = .ok (.aload_n 0, 1) := by decide +kernel
theorem dX11_matched_59 : decode cX11_matched 59 = .ok (.getfield 56, 3) := by decide +kernel
theorem dX11_matched_62 : decode cX11_matched 62 = .ok (.iconst 4, 1) := by decide +kernel
theorem dX11_matched_63 : decode cX11_matched 63 = .ok (.iload_n 1, 1) := by decide +kernel
theorem dX11_matched_64 : decode cX11_matched 64 = .ok (.imul, 1) := by decide +kernel
theorem dX11_matched_65 : decode cX11_matched 65 = .ok (.iload 6, 2) := by decide +kernel
theorem dX11_matched_67 : decode cX11_matched 67 = .ok (.iadd, 1) := by decide +kernel
theorem dX11_matched_68 : decode cX11_matched 68 = .ok (.iaload, 1) := by decide +kernel
theorem dX11_matched_69 : decode cX11_matched 69 = .ok (.invokevirtual 146, 3) := by decide +kernel
theorem dX11_matched_72 : decode cX11_matched 72 = .ok (.istore_n 3, 1) := by decide +kernel
theorem dX11_matched_73 : decode cX11_matched 73 = .ok (.iinc 5 1, 3) := by decide +kernel
theorem dX11_matched_76 : decode cX11_matched 76 = .ok (.goto (-59), 3) := by decide +kernel
theorem dX11_matched_79 : decode cX11_matched 79 = .ok (.iload_n 3, 1) := by decide +kernel
theorem dX11_matched_80 : decode cX11_matched 80 = .ok (.ireturn, 1) := by decide +kernel
theorem dX11_groups_0 : decode cX11_groups 0 = .ok (.aload_n 0, 1) := by decide +kernel
theorem dX11_groups_1 : decode cX11_groups 1 = .ok (.getfield 62, 3) := by decide +kernel
theorem dX11_groups_4 : decode cX11_groups 4 = .ok (.iload_n 1, 1) := by decide +kernel
theorem dX11_groups_5 : decode cX11_groups 5 = .ok (.iaload, 1) := by decide +kernel
theorem dX11_groups_6 : decode cX11_groups 6 = .ok (.istore_n 2, 1) := by decide +kernel
theorem dX11_groups_7 : decode cX11_groups 7 = .ok (.iconst 1, 1) := by decide +kernel
theorem dX11_groups_8 : decode cX11_groups 8 = .ok (.istore_n 3, 1) := by decide +kernel
theorem dX11_groups_9 : decode cX11_groups 9 = .ok (.iconst 0, 1) := by decide +kernel
theorem dX11_groups_10 : decode cX11_groups 10 = .ok (.istore 4, 2) := by decide +kernel
theorem dX11_groups_12 : decode cX11_groups 12 = .ok (.iload 4, 2) := by decide +kernel
theorem dX11_groups_14 : decode cX11_groups 14 = .ok (.aload_n 0, 1) := by decide +kernel
theorem dX11_groups_15 : decode cX11_groups 15 = .ok (.getfield 7, 3) := by decide +kernel
theorem dX11_groups_18 : decode cX11_groups 18 = .ok (.iload_n 2, 1) := by decide +kernel
theorem dX11_groups_19 : decode cX11_groups 19 = .ok (.iaload, 1) := by decide +kernel
theorem dX11_groups_20 : decode cX11_groups 20 = .ok (.if_icmp .ge 41, 3) := by decide +kernel
theorem dX11_groups_23 : decode cX11_groups 23 = .ok (.iload_n 3, 1) := by decide +kernel
theorem dX11_groups_24 : decode cX11_groups 24 = .ok (.aload_n 0, 1) := by decide +kernel
theorem dX11_groups_25 : decode cX11_groups 25 = .ok (.getfield 71, 3) := by decide +kernel
theorem dX11_groups_28 : decode cX11_groups 28 = .ok (.iload_n 1, 1) := by decide +kernel
theorem dX11_groups_29 : decode cX11_groups 29 = .ok (.iaload, 1) := by decide +kernel
theorem dX11_groups_30 : decode cX11_groups 30 = .ok (.iload 4, 2) := by decide +kernel
theorem dX11_groups_32 : decode cX11_groups 32 = .ok (.invokestatic 97, 3) := by decide +kernel
theorem dX11_groups_35 : decode cX11_groups 35 = .ok (.ifCond .eq 17, 3) := by decide +kernel
theorem dX11_groups_38 : decode cX11_groups 38 = .ok (.aload_n 0, 1) := by decide +kernel
theorem dX11_groups_39 : decode cX11_groups 39 = .ok (.getfield 25, 3) := by decide +kernel
theorem dX11_groups_42 : decode cX11_groups 42 = .ok (.iconst 4, 1) := by decide +kernel
theorem dX11_groups_43 : decode cX11_groups 43 = .ok (.iload_n 2, 1) := by decide +kernel
theorem dX11_groups_44 : decode cX11_groups 44 = .ok (.imul, 1) := by decide +kernel
theorem dX11_groups_45 : decode cX11_groups 45 = .ok (.iload 4, 2) := by decide +kernel
theorem dX11_groups_47 : decode cX11_groups 47 = .ok (.iadd, 1) := by decide +kernel
theorem dX11_groups_48 : decode cX11_groups 48 = .ok (.iaload, 1) := by decide +kernel
theorem dX11_groups_49 : decode cX11_groups 49 = .ok (.goto 4, 3) := by decide +kernel
theorem dX11_groups_52 : decode cX11_groups 52 = .ok (.iconst 1, 1) := by decide +kernel
theorem dX11_groups_53 : decode cX11_groups 53 = .ok (.imul, 1) := by decide +kernel
theorem dX11_groups_54 : decode cX11_groups 54 = .ok (.istore_n 3, 1) := by decide +kernel
theorem dX11_groups_55 : decode cX11_groups 55 = .ok (.iinc 4 1, 3) := by decide +kernel
theorem dX11_groups_58 : decode cX11_groups 58 = .ok (.goto (-46), 3) := by decide +kernel
theorem dX11_groups_61 : decode cX11_groups 61 = .ok (.iload_n 3, 1) := by decide +kernel
theorem dX11_groups_62 : decode cX11_groups 62 = .ok (.aload_n 0, 1) := by decide +kernel
theorem dX11_groups_63 : decode cX11_groups 63 = .ok (.getfield 22, 3) := by decide +kernel
theorem dX11_groups_66 : decode cX11_groups 66 = .ok (.iload_n 2, 1) := by decide +kernel
theorem dX11_groups_67 : decode cX11_groups 67 = .ok (.iaload, 1) := by decide +kernel
theorem dX11_groups_68 : decode cX11_groups 68 = .ok (.if_icmp .ge 7, 3) := by decide +kernel
theorem dX11_groups_71 : decode cX11_groups 71 = .ok (.iload_n 3, 1) := by decide +kernel
theorem dX11_groups_72 : decode cX11_groups 72 = .ok (.goto 9, 3) := by decide +kernel
theorem dX11_groups_75 : decode cX11_groups 75 = .ok (.aload_n 0, 1) := by decide +kernel
theorem dX11_groups_76 : decode cX11_groups 76 = .ok (.getfield 22, 3) := by decide +kernel
theorem dX11_groups_79 : decode cX11_groups 79 = .ok (.iload_n 2, 1) := by decide +kernel
theorem dX11_groups_80 : decode cX11_groups 80 = .ok (.iaload, 1) := by decide +kernel
theorem dX11_groups_81 : decode cX11_groups 81 = .ok (.ireturn, 1) := by decide +kernel
theorem dX11_roomOf_0 : decode cX11_roomOf 0 = .ok (.iconst 2, 1) := by decide +kernel
theorem dX11_roomOf_1 : decode cX11_roomOf 1 = .ok (.aload_n 0, 1) := by decide +kernel
theorem dX11_roomOf_2 : decode cX11_roomOf 2 = .ok (.getfield 13, 3) := by decide +kernel
theorem dX11_roomOf_5 : decode cX11_roomOf 5 = .ok (.aload_n 0, 1) := by decide +kernel
theorem dX11_roomOf_6 : decode cX11_roomOf 6 = .ok (.getfield 62, 3) := by decide +kernel
theorem dX11_roomOf_9 : decode cX11_roomOf 9 = .ok (.iload_n 1, 1) := by decide +kernel
theorem dX11_roomOf_10 : decode cX11_roomOf 10 = .ok (.iaload, 1) := by decide +kernel
theorem dX11_roomOf_11 : decode cX11_roomOf 11 = .ok (.iaload, 1) := by decide +kernel
theorem dX11_roomOf_12 : decode cX11_roomOf 12 = .ok (.imul, 1) := by decide +kernel
theorem dX11_roomOf_13 : decode cX11_roomOf 13 = .ok (.istore_n 2, 1) := by decide +kernel
theorem dX11_roomOf_14 : decode cX11_roomOf 14 = .ok (.aload_n 0, 1) := by decide +kernel
theorem dX11_roomOf_15 : decode cX11_roomOf 15 = .ok (.getfield 59, 3) := by decide +kernel
theorem dX11_roomOf_18 : decode cX11_roomOf 18 = .ok (.iload_n 1, 1) := by decide +kernel
theorem dX11_roomOf_19 : decode cX11_roomOf 19 = .ok (.iaload, 1) := by decide +kernel
theorem dX11_roomOf_20 : decode cX11_roomOf 20 = .ok (.tableswitch 79 1 4 #[32, 79, 67, 77], 32) := by decide +kernel
theorem dX11_roomOf_52 : decode cX11_roomOf 52 = .ok (.aload_n 0, 1) := by decide +kernel
theorem dX11_roomOf_53 : decode cX11_roomOf 53 = .ok (.getfield 22, 3) := by decide +kernel
theorem dX11_roomOf_56 : decode cX11_roomOf 56 = .ok (.aload_n 0, 1) := by decide +kernel
theorem dX11_roomOf_57 : decode cX11_roomOf 57 = .ok (.getfield 62, 3) := by decide +kernel
theorem dX11_roomOf_60 : decode cX11_roomOf 60 = .ok (.iload_n 1, 1) := by decide +kernel
theorem dX11_roomOf_61 : decode cX11_roomOf 61 = .ok (.iaload, 1) := by decide +kernel
theorem dX11_roomOf_62 : decode cX11_roomOf 62 = .ok (.iaload, 1) := by decide +kernel
theorem dX11_roomOf_63 : decode cX11_roomOf 63 = .ok (.iconst 1, 1) := by decide +kernel
theorem dX11_roomOf_64 : decode cX11_roomOf 64 = .ok (.aload_n 0, 1) := by decide +kernel
theorem dX11_roomOf_65 : decode cX11_roomOf 65 = .ok (.getfield 71, 3) := by decide +kernel
theorem dX11_roomOf_68 : decode cX11_roomOf 68 = .ok (.iload_n 1, 1) := by decide +kernel
theorem dX11_roomOf_69 : decode cX11_roomOf 69 = .ok (.iaload, 1) := by decide +kernel
theorem dX11_roomOf_70 : decode cX11_roomOf 70 = .ok (.invokestatic 134, 3) := by decide +kernel
theorem dX11_roomOf_73 : decode cX11_roomOf 73 = .ok (.iadd, 1) := by decide +kernel
theorem dX11_roomOf_74 : decode cX11_roomOf 74 = .ok (.aload_n 0, 1) := by decide +kernel
theorem dX11_roomOf_75 : decode cX11_roomOf 75 = .ok (.getfield 65, 3) := by decide +kernel
theorem dX11_roomOf_78 : decode cX11_roomOf 78 = .ok (.iload_n 1, 1) := by decide +kernel
theorem dX11_roomOf_79 : decode cX11_roomOf 79 = .ok (.iaload, 1) := by decide +kernel
theorem dX11_roomOf_80 : decode cX11_roomOf 80 = .ok (.isub, 1) := by decide +kernel
theorem dX11_roomOf_81 : decode cX11_roomOf 81 = .ok (.imul, 1) := by decide +kernel
theorem dX11_roomOf_82 : decode cX11_roomOf 82 = .ok (.iload_n 2, 1) := by decide +kernel
theorem dX11_roomOf_83 : decode cX11_roomOf 83 = .ok (.invokestatic 105, 3) := by decide +kernel
theorem dX11_roomOf_86 : decode cX11_roomOf 86 = .ok (.ireturn, 1) := by decide +kernel
theorem dX11_roomOf_87 : decode cX11_roomOf 87 = .ok (.aload_n 0, 1) := by decide +kernel
theorem dX11_roomOf_88 : decode cX11_roomOf 88 = .ok (.iload_n 1, 1) := by decide +kernel
theorem dX11_roomOf_89 : decode cX11_roomOf 89 = .ok (.invokevirtual 155, 3) := by decide +kernel
theorem dX11_roomOf_92 : decode cX11_roomOf 92 = .ok (.iload_n 2, 1) := by decide +kernel
theorem dX11_roomOf_93 : decode cX11_roomOf 93 = .ok (.invokestatic 105, 3) := by decide +kernel
theorem dX11_roomOf_96 : decode cX11_roomOf 96 = .ok (.ireturn, 1) := by decide +kernel
theorem dX11_roomOf_97 : decode cX11_roomOf 97 = .ok (.iconst 0, 1) := by decide +kernel
theorem dX11_roomOf_98 : decode cX11_roomOf 98 = .ok (.ireturn, 1) := by decide +kernel
theorem dX11_roomOf_99 : decode cX11_roomOf 99 = .ok (.aload_n 0, 1) := by decide +kernel
theorem dX11_roomOf_100 : decode cX11_roomOf 100 = .ok (.iload_n 1, 1) := by decide +kernel
theorem dX11_roomOf_101 : decode cX11_roomOf 101 = .ok (.invokevirtual 149, 3) := by decide +kernel
theorem dX11_roomOf_104 : decode cX11_roomOf 104 = .ok (.iload_n 2, 1) := by decide +kernel
theorem dX11_roomOf_105 : decode cX11_roomOf 105 = .ok (.invokestatic 105, 3) := by decide +kernel
theorem dX11_roomOf_108 : decode cX11_roomOf 108 = .ok (.ireturn, 1) := by decide +kernel
theorem dX11_keeping_0 : decode cX11_keeping 0 = .ok (.aload_n 0, 1) := by decide +kernel
theorem dX11_keeping_1 : decode cX11_keeping 1 = .ok (.getfield 59, 3) := by decide +kernel
theorem dX11_keeping_4 : decode cX11_keeping 4 = .ok (.iload_n 1, 1) := by decide +kernel
theorem dX11_keeping_5 : decode cX11_keeping 5 = .ok (.iaload, 1) := by decide +kernel
theorem dX11_keeping_6 : decode cX11_keeping 6 = .ok (.tableswitch 36 1 4 #[30, 32, 36, 34], 30) := by decide +kernel
theorem dX11_keeping_36 : decode cX11_keeping 36 = .ok (.iconst 3, 1) := by decide +kernel
theorem dX11_keeping_37 : decode cX11_keeping 37 = .ok (.ireturn, 1) := by decide +kernel
theorem dX11_keeping_38 : decode cX11_keeping 38 = .ok (.iconst 1, 1) := by decide +kernel
theorem dX11_keeping_39 : decode cX11_keeping 39 = .ok (.ireturn, 1) := by decide +kernel
theorem dX11_keeping_40 : decode cX11_keeping 40 = .ok (.iconst 4, 1) := by decide +kernel
theorem dX11_keeping_41 : decode cX11_keeping 41 = .ok (.ireturn, 1) := by decide +kernel
theorem dX11_keeping_42 : decode cX11_keeping 42 = .ok (.iconst 2, 1) := by decide +kernel
theorem dX11_keeping_43 : decode cX11_keeping 43 = .ok (.ireturn, 1) := by decide +kernel
theorem dX11_tested_0 : decode cX11_tested 0 = .ok (.iconst 0, 1) := by decide +kernel
theorem dX11_tested_1 : decode cX11_tested 1 = .ok (.istore_n 2, 1) := by decide +kernel
theorem dX11_tested_2 : decode cX11_tested 2 = .ok (.iconst 0, 1) := by decide +kernel
theorem dX11_tested_3 : decode cX11_tested 3 = .ok (.istore_n 3, 1) := by decide +kernel
theorem dX11_tested_4 : decode cX11_tested 4 = .ok (.iload_n 3, 1) := by decide +kernel
theorem dX11_tested_5 : decode cX11_tested 5 = .ok (.iconst 4, 1) := by decide +kernel
theorem dX11_tested_6 : decode cX11_tested 6 = .ok (.if_icmp .ge 32, 3) := by decide +kernel
theorem dX11_tested_9 : decode cX11_tested 9 = .ok (.iload_n 2, 1) := by decide +kernel
theorem dX11_tested_10 : decode cX11_tested 10 = .ok (.aload_n 0, 1) := by decide +kernel
theorem dX11_tested_11 : decode cX11_tested 11 = .ok (.getfield 49, 3) := by decide +kernel
theorem dX11_tested_14 : decode cX11_tested 14 = .ok (.iconst 4, 1) := by decide +kernel
theorem dX11_tested_15 : decode cX11_tested 15 = .ok (.iload_n 1, 1) := by decide +kernel
theorem dX11_tested_16 : decode cX11_tested 16 = .ok (.imul, 1) := by decide +kernel
theorem dX11_tested_17 : decode cX11_tested 17 = .ok (.iload_n 3, 1) := by decide +kernel
theorem dX11_tested_18 : decode cX11_tested 18 = .ok (.iadd, 1) := by decide +kernel
theorem dX11_tested_19 : decode cX11_tested 19 = .ok (.baload, 1) := by decide +kernel
theorem dX11_tested_20 : decode cX11_tested 20 = .ok (.ifCond .eq 9, 3) := by decide +kernel
theorem dX11_tested_23 : decode cX11_tested 23 = .ok (.iconst 1, 1) := by decide +kernel
theorem dX11_tested_24 : decode cX11_tested 24 = .ok (.iload_n 3, 1) := by decide +kernel
theorem dX11_tested_25 : decode cX11_tested 25 = .ok (.ishl, 1) := by decide +kernel
theorem dX11_tested_26 : decode cX11_tested 26 = .ok (.goto 4, 3) := by decide +kernel
theorem dX11_tested_29 : decode cX11_tested 29 = .ok (.iconst 0, 1) := by decide +kernel
theorem dX11_tested_30 : decode cX11_tested 30 = .ok (.ior, 1) := by decide +kernel
theorem dX11_tested_31 : decode cX11_tested 31 = .ok (.istore_n 2, 1) := by decide +kernel
theorem dX11_tested_32 : decode cX11_tested 32 = .ok (.iinc 3 1, 3) := by decide +kernel
theorem dX11_tested_35 : decode cX11_tested 35 = .ok (.goto (-31), 3) := by decide +kernel
theorem dX11_tested_38 : decode cX11_tested 38 = .ok (.iload_n 2, 1) := by decide +kernel
theorem dX11_tested_39 : decode cX11_tested 39 = .ok (.ireturn, 1) := by decide +kernel
theorem dX11_helps_0 : decode cX11_helps 0 = .ok (.aload_n 0, 1) := by decide +kernel
theorem dX11_helps_1 : decode cX11_helps 1 = .ok (.getfield 62, 3) := by decide +kernel
theorem dX11_helps_4 : decode cX11_helps 4 = .ok (.iload_n 2, 1) := by decide +kernel
theorem dX11_helps_5 : decode cX11_helps 5 = .ok (.iaload, 1) := by decide +kernel
theorem dX11_helps_6 : decode cX11_helps 6 = .ok (.aload_n 0, 1) := by decide +kernel
theorem dX11_helps_7 : decode cX11_helps 7 = .ok (.getfield 37, 3) := by decide +kernel
theorem dX11_helps_10 : decode cX11_helps 10 = .ok (.iload_n 1, 1) := by decide +kernel
theorem dX11_helps_11 : decode cX11_helps 11 = .ok (.iaload, 1) := by decide +kernel
theorem dX11_helps_12 : decode cX11_helps 12 = .ok (.if_icmp .eq 5, 3) := by decide +kernel
theorem dX11_helps_15 : decode cX11_helps 15 = .ok (.iconst 0, 1) := by decide +kernel
theorem dX11_helps_16 : decode cX11_helps 16 = .ok (.ireturn, 1) := by decide +kernel
theorem dX11_helps_17 : decode cX11_helps 17 = .ok (.aload_n 0, 1) := by decide +kernel
theorem dX11_helps_18 : decode cX11_helps 18 = .ok (.getfield 59, 3) := by decide +kernel
theorem dX11_helps_21 : decode cX11_helps 21 = .ok (.iload_n 2, 1) := by decide +kernel
theorem dX11_helps_22 : decode cX11_helps 22 = .ok (.iaload, 1) := by decide +kernel
theorem dX11_helps_23 : decode cX11_helps 23 = .ok (.iconst 2, 1) := by decide +kernel
theorem dX11_helps_24 : decode cX11_helps 24 = .ok (.if_icmp .ne 59, 3) := by decide +kernel
theorem dX11_helps_27 : decode cX11_helps 27 = .ok (.iconst 4, 1) := by decide +kernel
theorem dX11_helps_28 : decode cX11_helps 28 = .ok (.iload_n 1, 1) := by decide +kernel
theorem dX11_helps_29 : decode cX11_helps 29 = .ok (.imul, 1) := by decide +kernel
theorem dX11_helps_30 : decode cX11_helps 30 = .ok (.aload_n 0, 1) := by decide +kernel
theorem dX11_helps_31 : decode cX11_helps 31 = .ok (.getfield 74, 3) := by decide +kernel
theorem dX11_helps_34 : decode cX11_helps 34 = .ok (.iload_n 2, 1) := by decide +kernel
theorem dX11_helps_35 : decode cX11_helps 35 = .ok (.iaload, 1) := by decide +kernel
theorem dX11_helps_36 : decode cX11_helps 36 = .ok (.iadd, 1) := by decide +kernel
theorem dX11_helps_37 : decode cX11_helps 37 = .ok (.istore_n 3, 1) := by decide +kernel
theorem dX11_helps_38 : decode cX11_helps 38 = .ok (.aload_n 0, 1) := by decide +kernel
theorem dX11_helps_39 : decode cX11_helps 39 = .ok (.getfield 49, 3) := by decide +kernel
theorem dX11_helps_42 : decode cX11_helps 42 = .ok (.iload_n 3, 1) := by decide +kernel
theorem dX11_helps_43 : decode cX11_helps 43 = .ok (.baload, 1) := by decide +kernel
theorem dX11_helps_44 : decode cX11_helps 44 = .ok (.ifCond .eq 37, 3) := by decide +kernel
theorem dX11_helps_47 : decode cX11_helps 47 = .ok (.aload_n 0, 1) := by decide +kernel
theorem dX11_helps_48 : decode cX11_helps 48 = .ok (.getfield 53, 3) := by decide +kernel
theorem dX11_helps_51 : decode cX11_helps 51 = .ok (.iload_n 3, 1) := by decide +kernel
theorem dX11_helps_52 : decode cX11_helps 52 = .ok (.iaload, 1) := by decide +kernel
theorem dX11_helps_53 : decode cX11_helps 53 = .ok (.aload_n 0, 1) := by decide +kernel
theorem dX11_helps_54 : decode cX11_helps 54 = .ok (.getfield 77, 3) := by decide +kernel
theorem dX11_helps_57 : decode cX11_helps 57 = .ok (.iload_n 2, 1) := by decide +kernel
theorem dX11_helps_58 : decode cX11_helps 58 = .ok (.iaload, 1) := by decide +kernel
theorem dX11_helps_59 : decode cX11_helps 59 = .ok (.if_icmp .lt 22, 3) := by decide +kernel
theorem dX11_helps_62 : decode cX11_helps 62 = .ok (.aload_n 0, 1) := by decide +kernel
theorem dX11_helps_63 : decode cX11_helps 63 = .ok (.getfield 56, 3) := by decide +kernel
theorem dX11_helps_66 : decode cX11_helps 66 = .ok (.iload_n 3, 1) := by decide +kernel
theorem dX11_helps_67 : decode cX11_helps 67 = .ok (.iaload, 1) := by decide +kernel
theorem dX11_helps_68 : decode cX11_helps 68 = .ok (.aload_n 0, 1) := by decide +kernel
theorem dX11_helps_69 : decode cX11_helps 69 = .ok (.getfield 80, 3) := by decide +kernel
theorem dX11_helps_72 : decode cX11_helps 72 = .ok (.iload_n 2, 1) := by decide +kernel
theorem dX11_helps_73 : decode cX11_helps 73 = .ok (.iaload, 1) := by decide +kernel
theorem dX11_helps_74 : decode cX11_helps 74 = .ok (.if_icmp .gt 7, 3) := by decide +kernel
theorem dX11_helps_77 : decode cX11_helps 77 = .ok (.iconst 1, 1) := by decide +kernel
theorem dX11_helps_78 : decode cX11_helps 78 = .ok (.goto 4, 3) := by decide +kernel
theorem dX11_helps_81 : decode cX11_helps 81 = .ok (.iconst 0, 1) := by decide +kernel
theorem dX11_helps_82 : decode cX11_helps 82 = .ok (.ireturn, 1) := by decide +kernel
theorem dX11_helps_83 : decode cX11_helps 83 = .ok (.aload_n 0, 1) := by decide +kernel
theorem dX11_helps_84 : decode cX11_helps 84 = .ok (.getfield 59, 3) := by decide +kernel
theorem dX11_helps_87 : decode cX11_helps 87 = .ok (.iload_n 2, 1) := by decide +kernel
theorem dX11_helps_88 : decode cX11_helps 88 = .ok (.iaload, 1) := by decide +kernel
theorem dX11_helps_89 : decode cX11_helps 89 = .ok (.iconst 3, 1) := by decide +kernel
theorem dX11_helps_90 : decode cX11_helps 90 = .ok (.if_icmp .ne 50, 3) := by decide +kernel
theorem dX11_helps_93 : decode cX11_helps 93 = .ok (.aload_n 0, 1) := by decide +kernel
theorem dX11_helps_94 : decode cX11_helps 94 = .ok (.getfield 40, 3) := by decide +kernel
theorem dX11_helps_97 : decode cX11_helps 97 = .ok (.iload_n 1, 1) := by decide +kernel
theorem dX11_helps_98 : decode cX11_helps 98 = .ok (.iaload, 1) := by decide +kernel
theorem dX11_helps_99 : decode cX11_helps 99 = .ok (.ifCond .ne 39, 3) := by decide +kernel
theorem dX11_helps_102 : decode cX11_helps 102 = .ok (.aload_n 0, 1) := by decide +kernel
theorem dX11_helps_103 : decode cX11_helps 103 = .ok (.getfield 43, 3) := by decide +kernel
theorem dX11_helps_106 : decode cX11_helps 106 = .ok (.iload_n 1, 1) := by decide +kernel
theorem dX11_helps_107 : decode cX11_helps 107 = .ok (.iaload, 1) := by decide +kernel
theorem dX11_helps_108 : decode cX11_helps 108 = .ok (.aload_n 0, 1) := by decide +kernel
theorem dX11_helps_109 : decode cX11_helps 109 = .ok (.getfield 74, 3) := by decide +kernel
theorem dX11_helps_112 : decode cX11_helps 112 = .ok (.iload_n 2, 1) := by decide +kernel
theorem dX11_helps_113 : decode cX11_helps 113 = .ok (.iaload, 1) := by decide +kernel
theorem dX11_helps_114 : decode cX11_helps 114 = .ok (.if_icmp .ne 24, 3) := by decide +kernel
theorem dX11_helps_117 : decode cX11_helps 117 = .ok (.aload_n 0, 1) := by decide +kernel
theorem dX11_helps_118 : decode cX11_helps 118 = .ok (.iload_n 1, 1) := by decide +kernel
theorem dX11_helps_119 : decode cX11_helps 119 = .ok (.invokevirtual 158, 3) := by decide +kernel
theorem dX11_helps_122 : decode cX11_helps 122 = .ok (.aload_n 0, 1) := by decide +kernel
theorem dX11_helps_123 : decode cX11_helps 123 = .ok (.getfield 71, 3) := by decide +kernel
theorem dX11_helps_126 : decode cX11_helps 126 = .ok (.iload_n 2, 1) := by decide +kernel
theorem dX11_helps_127 : decode cX11_helps 127 = .ok (.iaload, 1) := by decide +kernel
theorem dX11_helps_128 : decode cX11_helps 128 = .ok (.iconst (-1), 1) := by decide +kernel
theorem dX11_helps_129 : decode cX11_helps 129 = .ok (.ixor, 1) := by decide +kernel
theorem dX11_helps_130 : decode cX11_helps 130 = .ok (.iand, 1) := by decide +kernel
theorem dX11_helps_131 : decode cX11_helps 131 = .ok (.ifCond .ne 7, 3) := by decide +kernel
theorem dX11_helps_134 : decode cX11_helps 134 = .ok (.iconst 1, 1) := by decide +kernel
theorem dX11_helps_135 : decode cX11_helps 135 = .ok (.goto 4, 3) := by decide +kernel
theorem dX11_helps_138 : decode cX11_helps 138 = .ok (.iconst 0, 1) := by decide +kernel
theorem dX11_helps_139 : decode cX11_helps 139 = .ok (.ireturn, 1) := by decide +kernel
theorem dX11_helps_140 : decode cX11_helps 140 = .ok (.aload_n 0, 1) := by decide +kernel
theorem dX11_helps_141 : decode cX11_helps 141 = .ok (.iload_n 1, 1) := by decide +kernel
theorem dX11_helps_142 : decode cX11_helps 142 = .ok (.iload_n 2, 1) := by decide +kernel
theorem dX11_helps_143 : decode cX11_helps 143 = .ok (.invokevirtual 152, 3) := by decide +kernel
theorem dX11_helps_146 : decode cX11_helps 146 = .ok (.ifCond .le 7, 3) := by decide +kernel
theorem dX11_helps_149 : decode cX11_helps 149 = .ok (.iconst 1, 1) := by decide +kernel
theorem dX11_helps_150 : decode cX11_helps 150 = .ok (.goto 4, 3) := by decide +kernel
theorem dX11_helps_153 : decode cX11_helps 153 = .ok (.iconst 0, 1) := by decide +kernel
theorem dX11_helps_154 : decode cX11_helps 154 = .ok (.ireturn, 1) := by decide +kernel
theorem dX11_covers_0 : decode cX11_covers 0 = .ok (.aload_n 0, 1) := by decide +kernel
theorem dX11_covers_1 : decode cX11_covers 1 = .ok (.getfield 59, 3) := by decide +kernel
theorem dX11_covers_4 : decode cX11_covers 4 = .ok (.iload_n 2, 1) := by decide +kernel
theorem dX11_covers_5 : decode cX11_covers 5 = .ok (.iaload, 1) := by decide +kernel
theorem dX11_covers_6 : decode cX11_covers 6 = .ok (.iconst 1, 1) := by decide +kernel
theorem dX11_covers_7 : decode cX11_covers 7 = .ok (.if_icmp .ne 54, 3) := by decide +kernel
theorem dX11_covers_10 : decode cX11_covers 10 = .ok (.aload_n 0, 1) := by decide +kernel
theorem dX11_covers_11 : decode cX11_covers 11 = .ok (.getfield 40, 3) := by decide +kernel
theorem dX11_covers_14 : decode cX11_covers 14 = .ok (.iload_n 1, 1) := by decide +kernel
theorem dX11_covers_15 : decode cX11_covers 15 = .ok (.iaload, 1) := by decide +kernel
theorem dX11_covers_16 : decode cX11_covers 16 = .ok (.aload_n 0, 1) := by decide +kernel
theorem dX11_covers_17 : decode cX11_covers 17 = .ok (.iload_n 1, 1) := by decide +kernel
theorem dX11_covers_18 : decode cX11_covers 18 = .ok (.invokevirtual 158, 3) := by decide +kernel
theorem dX11_covers_21 : decode cX11_covers 21 = .ok (.ior, 1) := by decide +kernel
theorem dX11_covers_22 : decode cX11_covers 22 = .ok (.aload_n 0, 1) := by decide +kernel
theorem dX11_covers_23 : decode cX11_covers 23 = .ok (.getfield 43, 3) := by decide +kernel
theorem dX11_covers_26 : decode cX11_covers 26 = .ok (.iload_n 1, 1) := by decide +kernel
theorem dX11_covers_27 : decode cX11_covers 27 = .ok (.iaload, 1) := by decide +kernel
theorem dX11_covers_28 : decode cX11_covers 28 = .ok (.iconst (-1), 1) := by decide +kernel
theorem dX11_covers_29 : decode cX11_covers 29 = .ok (.if_icmp .ne 7, 3) := by decide +kernel
theorem dX11_covers_32 : decode cX11_covers 32 = .ok (.iconst 0, 1) := by decide +kernel
theorem dX11_covers_33 : decode cX11_covers 33 = .ok (.goto 11, 3) := by decide +kernel
theorem dX11_covers_36 : decode cX11_covers 36 = .ok (.iconst 1, 1) := by decide +kernel
theorem dX11_covers_37 : decode cX11_covers 37 = .ok (.aload_n 0, 1) := by decide +kernel
theorem dX11_covers_38 : decode cX11_covers 38 = .ok (.getfield 43, 3) := by decide +kernel
theorem dX11_covers_41 : decode cX11_covers 41 = .ok (.iload_n 1, 1) := by decide +kernel
theorem dX11_covers_42 : decode cX11_covers 42 = .ok (.iaload, 1) := by decide +kernel
theorem dX11_covers_43 : decode cX11_covers 43 = .ok (.ishl, 1) := by decide +kernel
theorem dX11_covers_44 : decode cX11_covers 44 = .ok (.ior, 1) := by decide +kernel
theorem dX11_covers_45 : decode cX11_covers 45 = .ok (.aload_n 0, 1) := by decide +kernel
theorem dX11_covers_46 : decode cX11_covers 46 = .ok (.getfield 71, 3) := by decide +kernel
theorem dX11_covers_49 : decode cX11_covers 49 = .ok (.iload_n 2, 1) := by decide +kernel
theorem dX11_covers_50 : decode cX11_covers 50 = .ok (.iaload, 1) := by decide +kernel
theorem dX11_covers_51 : decode cX11_covers 51 = .ok (.iconst (-1), 1) := by decide +kernel
theorem dX11_covers_52 : decode cX11_covers 52 = .ok (.ixor, 1) := by decide +kernel
theorem dX11_covers_53 : decode cX11_covers 53 = .ok (.iand, 1) := by decide +kernel
theorem dX11_covers_54 : decode cX11_covers 54 = .ok (.ifCond .ne 7, 3) := by decide +kernel
theorem dX11_covers_57 : decode cX11_covers 57 = .ok (.iconst 1, 1) := by decide +kernel
theorem dX11_covers_58 : decode cX11_covers 58 = .ok (.goto 4, 3) := by decide +kernel
theorem dX11_covers_61 : decode cX11_covers 61 = .ok (.iconst 0, 1) := by decide +kernel
theorem dX11_covers_62 : decode cX11_covers 62 = .ok (.ireturn, 1) := by decide +kernel
theorem dX11_costOf_0 : decode cX11_costOf 0 = .ok (.aload_n 0, 1) := by decide +kernel
theorem dX11_costOf_1 : decode cX11_costOf 1 = .ok (.getfield 62, 3) := by decide +kernel
theorem dX11_costOf_4 : decode cX11_costOf 4 = .ok (.iload_n 2, 1) := by decide +kernel
theorem dX11_costOf_5 : decode cX11_costOf 5 = .ok (.iaload, 1) := by decide +kernel
theorem dX11_costOf_6 : decode cX11_costOf 6 = .ok (.istore_n 3, 1) := by decide +kernel
theorem dX11_costOf_7 : decode cX11_costOf 7 = .ok (.aload_n 0, 1) := by decide +kernel
theorem dX11_costOf_8 : decode cX11_costOf 8 = .ok (.getfield 59, 3) := by decide +kernel
theorem dX11_costOf_11 : decode cX11_costOf 11 = .ok (.iload_n 2, 1) := by decide +kernel
theorem dX11_costOf_12 : decode cX11_costOf 12 = .ok (.iaload, 1) := by decide +kernel
theorem dX11_costOf_13 : decode cX11_costOf 13 = .ok (.iconst 3, 1) := by decide +kernel
theorem dX11_costOf_14 : decode cX11_costOf 14 = .ok (.if_icmp .ne 22, 3) := by decide +kernel
theorem dX11_costOf_17 : decode cX11_costOf 17 = .ok (.iconst 1, 1) := by decide +kernel
theorem dX11_costOf_18 : decode cX11_costOf 18 = .ok (.aload_n 0, 1) := by decide +kernel
theorem dX11_costOf_19 : decode cX11_costOf 19 = .ok (.iload_n 2, 1) := by decide +kernel
theorem dX11_costOf_20 : decode cX11_costOf 20 = .ok (.invokevirtual 155, 3) := by decide +kernel
theorem dX11_costOf_23 : decode cX11_costOf 23 = .ok (.iconst 2, 1) := by decide +kernel
theorem dX11_costOf_24 : decode cX11_costOf 24 = .ok (.aload_n 0, 1) := by decide +kernel
theorem dX11_costOf_25 : decode cX11_costOf 25 = .ok (.getfield 13, 3) := by decide +kernel
theorem dX11_costOf_28 : decode cX11_costOf 28 = .ok (.iload_n 3, 1) := by decide +kernel
theorem dX11_costOf_29 : decode cX11_costOf 29 = .ok (.iaload, 1) := by decide +kernel
theorem dX11_costOf_30 : decode cX11_costOf 30 = .ok (.imul, 1) := by decide +kernel
theorem dX11_costOf_31 : decode cX11_costOf 31 = .ok (.invokestatic 105, 3) := by decide +kernel
theorem dX11_costOf_34 : decode cX11_costOf 34 = .ok (.iadd, 1) := by decide +kernel
theorem dX11_costOf_35 : decode cX11_costOf 35 = .ok (.ireturn, 1) := by decide +kernel
theorem dX11_costOf_36 : decode cX11_costOf 36 = .ok (.aload_n 0, 1) := by decide +kernel
theorem dX11_costOf_37 : decode cX11_costOf 37 = .ok (.iload_n 1, 1) := by decide +kernel
theorem dX11_costOf_38 : decode cX11_costOf 38 = .ok (.iload_n 2, 1) := by decide +kernel
theorem dX11_costOf_39 : decode cX11_costOf 39 = .ok (.invokevirtual 161, 3) := by decide +kernel
theorem dX11_costOf_42 : decode cX11_costOf 42 = .ok (.istore 4, 2) := by decide +kernel
theorem dX11_costOf_44 : decode cX11_costOf 44 = .ok (.aload_n 0, 1) := by decide +kernel
theorem dX11_costOf_45 : decode cX11_costOf 45 = .ok (.getfield 59, 3) := by decide +kernel
theorem dX11_costOf_48 : decode cX11_costOf 48 = .ok (.iload_n 2, 1) := by decide +kernel
theorem dX11_costOf_49 : decode cX11_costOf 49 = .ok (.iaload, 1) := by decide +kernel
theorem dX11_costOf_50 : decode cX11_costOf 50 = .ok (.iconst 4, 1) := by decide +kernel
theorem dX11_costOf_51 : decode cX11_costOf 51 = .ok (.if_icmp .ne 17, 3) := by decide +kernel
theorem dX11_costOf_54 : decode cX11_costOf 54 = .ok (.iconst 1, 1) := by decide +kernel
theorem dX11_costOf_55 : decode cX11_costOf 55 = .ok (.iload 4, 2) := by decide +kernel
theorem dX11_costOf_57 : decode cX11_costOf 57 = .ok (.aload_n 0, 1) := by decide +kernel
theorem dX11_costOf_58 : decode cX11_costOf 58 = .ok (.getfield 13, 3) := by decide +kernel
theorem dX11_costOf_61 : decode cX11_costOf 61 = .ok (.iload_n 3, 1) := by decide +kernel
theorem dX11_costOf_62 : decode cX11_costOf 62 = .ok (.iaload, 1) := by decide +kernel
theorem dX11_costOf_63 : decode cX11_costOf 63 = .ok (.invokestatic 105, 3) := by decide +kernel
theorem dX11_costOf_66 : decode cX11_costOf 66 = .ok (.iadd, 1) := by decide +kernel
theorem dX11_costOf_67 : decode cX11_costOf 67 = .ok (.ireturn, 1) := by decide +kernel
theorem dX11_costOf_68 : decode cX11_costOf 68 = .ok (.aload_n 0, 1) := by decide +kernel
theorem dX11_costOf_69 : decode cX11_costOf 69 = .ok (.iload_n 1, 1) := by decide +kernel
theorem dX11_costOf_70 : decode cX11_costOf 70 = .ok (.iload_n 2, 1) := by decide +kernel
theorem dX11_costOf_71 : decode cX11_costOf 71 = .ok (.invokevirtual 164, 3) := by decide +kernel
theorem dX11_costOf_74 : decode cX11_costOf 74 = .ok (.ifCond .eq 7, 3) := by decide +kernel
theorem dX11_costOf_77 : decode cX11_costOf 77 = .ok (.iconst 0, 1) := by decide +kernel
theorem dX11_costOf_78 : decode cX11_costOf 78 = .ok (.goto 23, 3) := by decide +kernel
theorem dX11_costOf_81 : decode cX11_costOf 81 = .ok (.iload 4, 2) := by decide +kernel
theorem dX11_costOf_83 : decode cX11_costOf 83 = .ok (.aload_n 0, 1) := by decide +kernel
theorem dX11_costOf_84 : decode cX11_costOf 84 = .ok (.iload_n 3, 1) := by decide +kernel
theorem dX11_costOf_85 : decode cX11_costOf 85 = .ok (.invokevirtual 109, 3) := by decide +kernel
theorem dX11_costOf_88 : decode cX11_costOf 88 = .ok (.if_icmp .ge 8, 3) := by decide +kernel
theorem dX11_costOf_91 : decode cX11_costOf 91 = .ok (.iload 4, 2) := by decide +kernel
theorem dX11_costOf_93 : decode cX11_costOf 93 = .ok (.goto 8, 3) := by decide +kernel
theorem dX11_costOf_96 : decode cX11_costOf 96 = .ok (.aload_n 0, 1) := by decide +kernel
theorem dX11_costOf_97 : decode cX11_costOf 97 = .ok (.iload_n 3, 1) := by decide +kernel
theorem dX11_costOf_98 : decode cX11_costOf 98 = .ok (.invokevirtual 109, 3) := by decide +kernel
theorem dX11_costOf_101 : decode cX11_costOf 101 = .ok (.istore 5, 2) := by decide +kernel
theorem dX11_costOf_103 : decode cX11_costOf 103 = .ok (.iconst 1, 1) := by decide +kernel
theorem dX11_costOf_104 : decode cX11_costOf 104 = .ok (.iload 4, 2) := by decide +kernel
theorem dX11_costOf_106 : decode cX11_costOf 106 = .ok (.iconst 2, 1) := by decide +kernel
theorem dX11_costOf_107 : decode cX11_costOf 107 = .ok (.aload_n 0, 1) := by decide +kernel
theorem dX11_costOf_108 : decode cX11_costOf 108 = .ok (.getfield 13, 3) := by decide +kernel
theorem dX11_costOf_111 : decode cX11_costOf 111 = .ok (.iload_n 3, 1) := by decide +kernel
theorem dX11_costOf_112 : decode cX11_costOf 112 = .ok (.iaload, 1) := by decide +kernel
theorem dX11_costOf_113 : decode cX11_costOf 113 = .ok (.imul, 1) := by decide +kernel
theorem dX11_costOf_114 : decode cX11_costOf 114 = .ok (.invokestatic 105, 3) := by decide +kernel
theorem dX11_costOf_117 : decode cX11_costOf 117 = .ok (.iadd, 1) := by decide +kernel
theorem dX11_costOf_118 : decode cX11_costOf 118 = .ok (.iload 5, 2) := by decide +kernel
theorem dX11_costOf_120 : decode cX11_costOf 120 = .ok (.iadd, 1) := by decide +kernel
theorem dX11_costOf_121 : decode cX11_costOf 121 = .ok (.ireturn, 1) := by decide +kernel
theorem dX11_cost_0 : decode cX11_cost 0 = .ok (.aload_n 0, 1) := by decide +kernel
theorem dX11_cost_1 : decode cX11_cost 1 = .ok (.iload_n 1, 1) := by decide +kernel
theorem dX11_cost_2 : decode cX11_cost 2 = .ok (.invokevirtual 120, 3) := by decide +kernel
theorem dX11_cost_5 : decode cX11_cost 5 = .ok (.ifCond .ne 5, 3) := by decide +kernel
theorem dX11_cost_8 : decode cX11_cost 8 = .ok (.iconst (-1), 1) := by decide +kernel
theorem dX11_cost_9 : decode cX11_cost 9 = .ok (.ireturn, 1) := by decide +kernel
theorem dX11_cost_10 : decode cX11_cost 10 = .ok (.iload_n 2, 1) := by decide +kernel
theorem dX11_cost_11 : decode cX11_cost 11 = .ok (.iconst (-1), 1) := by decide +kernel
theorem dX11_cost_12 : decode cX11_cost 12 = .ok (.if_icmp .ne 14, 3) := by decide +kernel
theorem dX11_cost_15 : decode cX11_cost 15 = .ok (.aload_n 0, 1) := by decide +kernel
theorem dX11_cost_16 : decode cX11_cost 16 = .ok (.aload_n 0, 1) := by decide +kernel
theorem dX11_cost_17 : decode cX11_cost 17 = .ok (.getfield 37, 3) := by decide +kernel
theorem dX11_cost_20 : decode cX11_cost 20 = .ok (.iload_n 1, 1) := by decide +kernel
theorem dX11_cost_21 : decode cX11_cost 21 = .ok (.iaload, 1) := by decide +kernel
theorem dX11_cost_22 : decode cX11_cost 22 = .ok (.invokevirtual 109, 3) := by decide +kernel
theorem dX11_cost_25 : decode cX11_cost 25 = .ok (.ireturn, 1) := by decide +kernel
theorem dX11_cost_26 : decode cX11_cost 26 = .ok (.aload_n 0, 1) := by decide +kernel
theorem dX11_cost_27 : decode cX11_cost 27 = .ok (.iload_n 2, 1) := by decide +kernel
theorem dX11_cost_28 : decode cX11_cost 28 = .ok (.invokevirtual 137, 3) := by decide +kernel
theorem dX11_cost_31 : decode cX11_cost 31 = .ok (.ifCond .eq 21, 3) := by decide +kernel
theorem dX11_cost_34 : decode cX11_cost 34 = .ok (.aload_n 0, 1) := by decide +kernel
theorem dX11_cost_35 : decode cX11_cost 35 = .ok (.iload_n 1, 1) := by decide +kernel
theorem dX11_cost_36 : decode cX11_cost 36 = .ok (.iload_n 2, 1) := by decide +kernel
theorem dX11_cost_37 : decode cX11_cost 37 = .ok (.invokevirtual 167, 3) := by decide +kernel
theorem dX11_cost_40 : decode cX11_cost 40 = .ok (.ifCond .eq 12, 3) := by decide +kernel
theorem dX11_cost_43 : decode cX11_cost 43 = .ok (.aload_n 0, 1) := by decide +kernel
theorem dX11_cost_44 : decode cX11_cost 44 = .ok (.iload_n 1, 1) := by decide +kernel
theorem dX11_cost_45 : decode cX11_cost 45 = .ok (.iload_n 2, 1) := by decide +kernel
theorem dX11_cost_46 : decode cX11_cost 46 = .ok (.invokevirtual 170, 3) := by decide +kernel
theorem dX11_cost_49 : decode cX11_cost 49 = .ok (.goto 4, 3) := by decide +kernel
theorem dX11_cost_52 : decode cX11_cost 52 = .ok (.iconst (-1), 1) := by decide +kernel
theorem dX11_cost_53 : decode cX11_cost 53 = .ok (.ireturn, 1) := by decide +kernel
theorem dX11_planOf_0 : decode cX11_planOf 0 = .ok (.iconst (-1), 1) := by decide +kernel
theorem dX11_planOf_1 : decode cX11_planOf 1 = .ok (.istore_n 3, 1) := by decide +kernel
theorem dX11_planOf_2 : decode cX11_planOf 2 = .ok (.iconst 0, 1) := by decide +kernel
theorem dX11_planOf_3 : decode cX11_planOf 3 = .ok (.istore 4, 2) := by decide +kernel
theorem dX11_planOf_5 : decode cX11_planOf 5 = .ok (.iload 4, 2) := by decide +kernel
theorem dX11_planOf_7 : decode cX11_planOf 7 = .ok (.aload_n 0, 1) := by decide +kernel
theorem dX11_planOf_8 : decode cX11_planOf 8 = .ok (.getfield 123, 3) := by decide +kernel
theorem dX11_planOf_11 : decode cX11_planOf 11 = .ok (.if_icmp .ge 47, 3) := by decide +kernel
theorem dX11_planOf_14 : decode cX11_planOf 14 = .ok (.iload_n 2, 1) := by decide +kernel
theorem dX11_planOf_15 : decode cX11_planOf 15 = .ok (.iload 4, 2) := by decide +kernel
theorem dX11_planOf_17 : decode cX11_planOf 17 = .ok (.invokestatic 97, 3) := by decide +kernel
theorem dX11_planOf_20 : decode cX11_planOf 20 = .ok (.ifCond .eq 32, 3) := by decide +kernel
theorem dX11_planOf_23 : decode cX11_planOf 23 = .ok (.aload_n 0, 1) := by decide +kernel
theorem dX11_planOf_24 : decode cX11_planOf 24 = .ok (.iload_n 1, 1) := by decide +kernel
theorem dX11_planOf_25 : decode cX11_planOf 25 = .ok (.iload 4, 2) := by decide +kernel
theorem dX11_planOf_27 : decode cX11_planOf 27 = .ok (.invokevirtual 167, 3) := by decide +kernel
theorem dX11_planOf_30 : decode cX11_planOf 30 = .ok (.ifCond .eq 22, 3) := by decide +kernel
theorem dX11_planOf_33 : decode cX11_planOf 33 = .ok (.aload_n 0, 1) := by decide +kernel
theorem dX11_planOf_34 : decode cX11_planOf 34 = .ok (.iload_n 1, 1) := by decide +kernel
theorem dX11_planOf_35 : decode cX11_planOf 35 = .ok (.iload 4, 2) := by decide +kernel
theorem dX11_planOf_37 : decode cX11_planOf 37 = .ok (.invokevirtual 170, 3) := by decide +kernel
theorem dX11_planOf_40 : decode cX11_planOf 40 = .ok (.aload_n 0, 1) := by decide +kernel
theorem dX11_planOf_41 : decode cX11_planOf 41 = .ok (.iload_n 1, 1) := by decide +kernel
theorem dX11_planOf_42 : decode cX11_planOf 42 = .ok (.iload_n 3, 1) := by decide +kernel
theorem dX11_planOf_43 : decode cX11_planOf 43 = .ok (.invokevirtual 173, 3) := by decide +kernel
theorem dX11_planOf_46 : decode cX11_planOf 46 = .ok (.if_icmp .ge 6, 3) := by decide +kernel
theorem dX11_planOf_49 : decode cX11_planOf 49 = .ok (.iload 4, 2) := by decide +kernel
theorem dX11_planOf_51 : decode cX11_planOf 51 = .ok (.istore_n 3, 1) := by decide +kernel
theorem dX11_planOf_52 : decode cX11_planOf 52 = .ok (.iinc 4 1, 3) := by decide +kernel
theorem dX11_planOf_55 : decode cX11_planOf 55 = .ok (.goto (-50), 3) := by decide +kernel
theorem dX11_planOf_58 : decode cX11_planOf 58 = .ok (.iload_n 3, 1) := by decide +kernel
theorem dX11_planOf_59 : decode cX11_planOf 59 = .ok (.ireturn, 1) := by decide +kernel
theorem dX11_plan_0 : decode cX11_plan 0 = .ok (.aload_n 0, 1) := by decide +kernel
theorem dX11_plan_1 : decode cX11_plan 1 = .ok (.iload_n 1, 1) := by decide +kernel
theorem dX11_plan_2 : decode cX11_plan 2 = .ok (.invokevirtual 120, 3) := by decide +kernel
theorem dX11_plan_5 : decode cX11_plan 5 = .ok (.ifCond .eq 15, 3) := by decide +kernel
theorem dX11_plan_8 : decode cX11_plan 8 = .ok (.aload_n 0, 1) := by decide +kernel
theorem dX11_plan_9 : decode cX11_plan 9 = .ok (.iload_n 1, 1) := by decide +kernel
theorem dX11_plan_10 : decode cX11_plan 10 = .ok (.aload_n 0, 1) := by decide +kernel
theorem dX11_plan_11 : decode cX11_plan 11 = .ok (.getfield 140, 3) := by decide +kernel
theorem dX11_plan_14 : decode cX11_plan 14 = .ok (.invokevirtual 176, 3) := by decide +kernel
theorem dX11_plan_17 : decode cX11_plan 17 = .ok (.goto 5, 3) := by decide +kernel
theorem dX11_plan_20 : decode cX11_plan 20 = .ok (.bipush (-2), 2) := by decide +kernel
theorem dX11_plan_22 : decode cX11_plan 22 = .ok (.ireturn, 1) := by decide +kernel
theorem dX11_passesNow_0 : decode cX11_passesNow 0 = .ok (.aload_n 0, 1) := by decide +kernel
theorem dX11_passesNow_1 : decode cX11_passesNow 1 = .ok (.iload_n 1, 1) := by decide +kernel
theorem dX11_passesNow_2 : decode cX11_passesNow 2 = .ok (.iload_n 2, 1) := by decide +kernel
theorem dX11_passesNow_3 : decode cX11_passesNow 3 = .ok (.iload_n 3, 1) := by decide +kernel
theorem dX11_passesNow_4 : decode cX11_passesNow 4 = .ok (.invokevirtual 101, 3) := by decide +kernel
theorem dX11_passesNow_7 : decode cX11_passesNow 7 = .ok (.iload 4, 2) := by decide +kernel
theorem dX11_passesNow_9 : decode cX11_passesNow 9 = .ok (.iload 5, 2) := by decide +kernel
theorem dX11_passesNow_11 : decode cX11_passesNow 11 = .ok (.invokestatic 89, 3) := by decide +kernel
theorem dX11_passesNow_14 : decode cX11_passesNow 14 = .ok (.ireturn, 1) := by decide +kernel
theorem dX11_answers_0 : decode cX11_answers 0 = .ok (.iconst 0, 1) := by decide +kernel
theorem dX11_answers_1 : decode cX11_answers 1 = .ok (.istore_n 3, 1) := by decide +kernel
theorem dX11_answers_2 : decode cX11_answers 2 = .ok (.iload_n 3, 1) := by decide +kernel
theorem dX11_answers_3 : decode cX11_answers 3 = .ok (.iconst 4, 1) := by decide +kernel
theorem dX11_answers_4 : decode cX11_answers 4 = .ok (.if_icmp .ge 59, 3) := by decide +kernel
theorem dX11_answers_7 : decode cX11_answers 7 = .ok (.aload_n 0, 1) := by decide +kernel
theorem dX11_answers_8 : decode cX11_answers 8 = .ok (.getfield 49, 3) := by decide +kernel
theorem dX11_answers_11 : decode cX11_answers 11 = .ok (.iconst 4, 1) := by decide +kernel
theorem dX11_answers_12 : decode cX11_answers 12 = .ok (.iload_n 1, 1) := by decide +kernel
theorem dX11_answers_13 : decode cX11_answers 13 = .ok (.imul, 1) := by decide +kernel
theorem dX11_answers_14 : decode cX11_answers 14 = .ok (.iload_n 3, 1) := by decide +kernel
theorem dX11_answers_15 : decode cX11_answers 15 = .ok (.iadd, 1) := by decide +kernel
theorem dX11_answers_16 : decode cX11_answers 16 = .ok (.baload, 1) := by decide +kernel
theorem dX11_answers_17 : decode cX11_answers 17 = .ok (.ifCond .eq 40, 3) := by decide +kernel
theorem dX11_answers_20 : decode cX11_answers 20 = .ok (.aload_n 0, 1) := by decide +kernel
theorem dX11_answers_21 : decode cX11_answers 21 = .ok (.aload_n 0, 1) := by decide +kernel
theorem dX11_answers_22 : decode cX11_answers 22 = .ok (.getfield 37, 3) := by decide +kernel
theorem dX11_answers_25 : decode cX11_answers 25 = .ok (.iload_n 1, 1) := by decide +kernel
theorem dX11_answers_26 : decode cX11_answers 26 = .ok (.iaload, 1) := by decide +kernel
theorem dX11_answers_27 : decode cX11_answers 27 = .ok (.iload_n 2, 1) := by decide +kernel
theorem dX11_answers_28 : decode cX11_answers 28 = .ok (.iload_n 3, 1) := by decide +kernel
theorem dX11_answers_29 : decode cX11_answers 29 = .ok (.aload_n 0, 1) := by decide +kernel
theorem dX11_answers_30 : decode cX11_answers 30 = .ok (.getfield 53, 3) := by decide +kernel
theorem dX11_answers_33 : decode cX11_answers 33 = .ok (.iconst 4, 1) := by decide +kernel
theorem dX11_answers_34 : decode cX11_answers 34 = .ok (.iload_n 1, 1) := by decide +kernel
theorem dX11_answers_35 : decode cX11_answers 35 = .ok (.imul, 1) := by decide +kernel
theorem dX11_answers_36 : decode cX11_answers 36 = .ok (.iload_n 3, 1) := by decide +kernel
theorem dX11_answers_37 : decode cX11_answers 37 = .ok (.iadd, 1) := by decide +kernel
theorem dX11_answers_38 : decode cX11_answers 38 = .ok (.iaload, 1) := by decide +kernel
theorem dX11_answers_39 : decode cX11_answers 39 = .ok (.aload_n 0, 1) := by decide +kernel
theorem dX11_answers_40 : decode cX11_answers 40 = .ok (.getfield 56, 3) := by decide +kernel
theorem dX11_answers_43 : decode cX11_answers 43 = .ok (.iconst 4, 1) := by decide +kernel
theorem dX11_answers_44 : decode cX11_answers 44 = .ok (.iload_n 1, 1) := by decide +kernel
theorem dX11_answers_45 : decode cX11_answers 45 = .ok (.imul, 1) := by decide +kernel
theorem dX11_answers_46 : decode cX11_answers 46 = .ok (.iload_n 3, 1) := by decide +kernel
theorem dX11_answers_47 : decode cX11_answers 47 = .ok (.iadd, 1) := by decide +kernel
theorem dX11_answers_48 : decode cX11_answers 48 = .ok (.iaload, 1) := by decide +kernel
theorem dX11_answers_49 : decode cX11_answers 49 = .ok (.invokevirtual 179, 3) := by decide +kernel
theorem dX11_answers_52 : decode cX11_answers 52 = .ok (.ifCond .ne 5, 3) := by decide +kernel
theorem dX11_answers_55 : decode cX11_answers 55 = .ok (.iconst 0, 1) := by decide +kernel
theorem dX11_answers_56 : decode cX11_answers 56 = .ok (.ireturn, 1) := by decide +kernel
theorem dX11_answers_57 : decode cX11_answers 57 = .ok (.iinc 3 1, 3) := by decide +kernel
theorem dX11_answers_60 : decode cX11_answers 60 = .ok (.goto (-58), 3) := by decide +kernel
theorem dX11_answers_63 : decode cX11_answers 63 = .ok (.iconst 1, 1) := by decide +kernel
theorem dX11_answers_64 : decode cX11_answers 64 = .ok (.ireturn, 1) := by decide +kernel
theorem dX11_matchesNow_0 : decode cX11_matchesNow 0 = .ok (.aload_n 0, 1) := by decide +kernel
theorem dX11_matchesNow_1 : decode cX11_matchesNow 1 = .ok (.getfield 37, 3) := by decide +kernel
theorem dX11_matchesNow_4 : decode cX11_matchesNow 4 = .ok (.iload_n 1, 1) := by decide +kernel
theorem dX11_matchesNow_5 : decode cX11_matchesNow 5 = .ok (.iaload, 1) := by decide +kernel
theorem dX11_matchesNow_6 : decode cX11_matchesNow 6 = .ok (.istore 4, 2) := by decide +kernel
theorem dX11_matchesNow_8 : decode cX11_matchesNow 8 = .ok (.aload_n 0, 1) := by decide +kernel
theorem dX11_matchesNow_9 : decode cX11_matchesNow 9 = .ok (.getfield 59, 3) := by decide +kernel
theorem dX11_matchesNow_12 : decode cX11_matchesNow 12 = .ok (.iload_n 2, 1) := by decide +kernel
theorem dX11_matchesNow_13 : decode cX11_matchesNow 13 = .ok (.iaload, 1) := by decide +kernel
theorem dX11_matchesNow_14 : decode cX11_matchesNow 14 = .ok (.iconst 2, 1) := by decide +kernel
theorem dX11_matchesNow_15 : decode cX11_matchesNow 15 = .ok (.if_icmp .ne 33, 3) := by decide +kernel
theorem dX11_matchesNow_18 : decode cX11_matchesNow 18 = .ok (.aload_n 0, 1) := by decide +kernel
theorem dX11_matchesNow_19 : decode cX11_matchesNow 19 = .ok (.iload 4, 2) := by decide +kernel
theorem dX11_matchesNow_21 : decode cX11_matchesNow 21 = .ok (.iload_n 3, 1) := by decide +kernel
theorem dX11_matchesNow_22 : decode cX11_matchesNow 22 = .ok (.aload_n 0, 1) := by decide +kernel
theorem dX11_matchesNow_23 : decode cX11_matchesNow 23 = .ok (.getfield 74, 3) := by decide +kernel
theorem dX11_matchesNow_26 : decode cX11_matchesNow 26 = .ok (.iload_n 2, 1) := by decide +kernel
theorem dX11_matchesNow_27 : decode cX11_matchesNow 27 = .ok (.iaload, 1) := by decide +kernel
theorem dX11_matchesNow_28 : decode cX11_matchesNow 28 = .ok (.aload_n 0, 1) := by decide +kernel
theorem dX11_matchesNow_29 : decode cX11_matchesNow 29 = .ok (.getfield 77, 3) := by decide +kernel
theorem dX11_matchesNow_32 : decode cX11_matchesNow 32 = .ok (.iload_n 2, 1) := by decide +kernel
theorem dX11_matchesNow_33 : decode cX11_matchesNow 33 = .ok (.iaload, 1) := by decide +kernel
theorem dX11_matchesNow_34 : decode cX11_matchesNow 34 = .ok (.aload_n 0, 1) := by decide +kernel
theorem dX11_matchesNow_35 : decode cX11_matchesNow 35 = .ok (.getfield 80, 3) := by decide +kernel
theorem dX11_matchesNow_38 : decode cX11_matchesNow 38 = .ok (.iload_n 2, 1) := by decide +kernel
theorem dX11_matchesNow_39 : decode cX11_matchesNow 39 = .ok (.iaload, 1) := by decide +kernel
theorem dX11_matchesNow_40 : decode cX11_matchesNow 40 = .ok (.invokevirtual 179, 3) := by decide +kernel
theorem dX11_matchesNow_43 : decode cX11_matchesNow 43 = .ok (.ifCond .ne 5, 3) := by decide +kernel
theorem dX11_matchesNow_46 : decode cX11_matchesNow 46 = .ok (.iconst 0, 1) := by decide +kernel
theorem dX11_matchesNow_47 : decode cX11_matchesNow 47 = .ok (.ireturn, 1) := by decide +kernel
theorem dX11_matchesNow_48 : decode cX11_matchesNow 48 = .ok (.aload_n 0, 1) := by decide +kernel
theorem dX11_matchesNow_49 : decode cX11_matchesNow 49 = .ok (.iload_n 1, 1) := by decide +kernel
theorem dX11_matchesNow_50 : decode cX11_matchesNow 50 = .ok (.iload_n 2, 1) := by decide +kernel
theorem dX11_matchesNow_51 : decode cX11_matchesNow 51 = .ok (.invokevirtual 152, 3) := by decide +kernel
theorem dX11_matchesNow_54 : decode cX11_matchesNow 54 = .ok (.istore 5, 2) := by decide +kernel
theorem dX11_matchesNow_56 : decode cX11_matchesNow 56 = .ok (.iconst 0, 1) := by decide +kernel
theorem dX11_matchesNow_57 : decode cX11_matchesNow 57 = .ok (.istore 6, 2) := by decide +kernel
theorem dX11_matchesNow_59 : decode cX11_matchesNow 59 = .ok (.iload 6, 2) := by decide +kernel
theorem dX11_matchesNow_61 : decode cX11_matchesNow 61 = .ok (.iload 5, 2) := by decide +kernel
theorem dX11_matchesNow_63 : decode cX11_matchesNow 63 = .ok (.if_icmp .ge 58, 3) := by decide +kernel
theorem dX11_matchesNow_66 : decode cX11_matchesNow 66 = .ok (.aload_n 0, 1) := by decide +kernel
theorem dX11_matchesNow_67 : decode cX11_matchesNow 67 = .ok (.getfield 68, 3) := by decide +kernel
theorem dX11_matchesNow_70 : decode cX11_matchesNow 70 = .ok (.iconst 3, 1) := by decide +kernel
theorem dX11_matchesNow_71 : decode cX11_matchesNow 71 = .ok (.iload_n 2, 1) := by decide +kernel
theorem dX11_matchesNow_72 : decode cX11_matchesNow 72 = .ok (.imul, 1) := by decide +kernel
theorem dX11_matchesNow_73 : decode cX11_matchesNow 73 = .ok (.iload 6, 2) := by decide +kernel
theorem dX11_matchesNow_75 : decode cX11_matchesNow 75 = .ok (.iadd, 1) := by decide +kernel
theorem dX11_matchesNow_76 : decode cX11_matchesNow 76 = .ok (.iaload, 1) := by decide +kernel
theorem dX11_matchesNow_77 : decode cX11_matchesNow 77 = .ok (.istore 7, 2) := by decide +kernel
theorem dX11_matchesNow_79 : decode cX11_matchesNow 79 = .ok (.aload_n 0, 1) := by decide +kernel
theorem dX11_matchesNow_80 : decode cX11_matchesNow 80 = .ok (.iload 4, 2) := by decide +kernel
theorem dX11_matchesNow_82 : decode cX11_matchesNow 82 = .ok (.iload_n 3, 1) := by decide +kernel
theorem dX11_matchesNow_83 : decode cX11_matchesNow 83 = .ok (.iload 7, 2) := by decide +kernel
theorem dX11_matchesNow_85 : decode cX11_matchesNow 85 = .ok (.aload_n 0, 1) := by decide +kernel
theorem dX11_matchesNow_86 : decode cX11_matchesNow 86 = .ok (.getfield 53, 3) := by decide +kernel
theorem dX11_matchesNow_89 : decode cX11_matchesNow 89 = .ok (.iconst 4, 1) := by decide +kernel
theorem dX11_matchesNow_90 : decode cX11_matchesNow 90 = .ok (.iload_n 1, 1) := by decide +kernel
theorem dX11_matchesNow_91 : decode cX11_matchesNow 91 = .ok (.imul, 1) := by decide +kernel
theorem dX11_matchesNow_92 : decode cX11_matchesNow 92 = .ok (.iload 7, 2) := by decide +kernel
theorem dX11_matchesNow_94 : decode cX11_matchesNow 94 = .ok (.iadd, 1) := by decide +kernel
theorem dX11_matchesNow_95 : decode cX11_matchesNow 95 = .ok (.iaload, 1) := by decide +kernel
theorem dX11_matchesNow_96 : decode cX11_matchesNow 96 = .ok (.aload_n 0, 1) := by decide +kernel
theorem dX11_matchesNow_97 : decode cX11_matchesNow 97 = .ok (.getfield 56, 3) := by decide +kernel
theorem dX11_matchesNow_100 : decode cX11_matchesNow 100 = .ok (.iconst 4, 1) := by decide +kernel
theorem dX11_matchesNow_101 : decode cX11_matchesNow 101 = .ok (.iload_n 1, 1) := by decide +kernel
theorem dX11_matchesNow_102 : decode cX11_matchesNow 102 = .ok (.imul, 1) := by decide +kernel
theorem dX11_matchesNow_103 : decode cX11_matchesNow 103 = .ok (.iload 7, 2) := by decide +kernel
theorem dX11_matchesNow_105 : decode cX11_matchesNow 105 = .ok (.iadd, 1) := by decide +kernel
theorem dX11_matchesNow_106 : decode cX11_matchesNow 106 = .ok (.iaload, 1) := by decide +kernel
theorem dX11_matchesNow_107 : decode cX11_matchesNow 107 = .ok (.invokevirtual 179, 3) := by decide +kernel
theorem dX11_matchesNow_110 : decode cX11_matchesNow 110 = .ok (.ifCond .ne 5, 3) := by decide +kernel
theorem dX11_matchesNow_113 : decode cX11_matchesNow 113 = .ok (.iconst 0, 1) := by decide +kernel
theorem dX11_matchesNow_114 : decode cX11_matchesNow 114 = .ok (.ireturn, 1) := by decide +kernel
theorem dX11_matchesNow_115 : decode cX11_matchesNow 115 = .ok (.iinc 6 1, 3) := by decide +kernel
theorem dX11_matchesNow_118 : decode cX11_matchesNow 118 = .ok (.goto (-59), 3) := by decide +kernel
theorem dX11_matchesNow_121 : decode cX11_matchesNow 121 = .ok (.iconst 1, 1) := by decide +kernel
theorem dX11_matchesNow_122 : decode cX11_matchesNow 122 = .ok (.ireturn, 1) := by decide +kernel
theorem dX11_alike_0 : decode cX11_alike 0 = .ok (.iconst 0, 1) := by decide +kernel
theorem dX11_alike_1 : decode cX11_alike 1 = .ok (.istore 5, 2) := by decide +kernel
theorem dX11_alike_3 : decode cX11_alike 3 = .ok (.iload 5, 2) := by decide +kernel
theorem dX11_alike_5 : decode cX11_alike 5 = .ok (.aload_n 0, 1) := by decide +kernel
theorem dX11_alike_6 : decode cX11_alike 6 = .ok (.getfield 7, 3) := by decide +kernel
theorem dX11_alike_9 : decode cX11_alike 9 = .ok (.iload_n 1, 1) := by decide +kernel
theorem dX11_alike_10 : decode cX11_alike 10 = .ok (.iaload, 1) := by decide +kernel
theorem dX11_alike_11 : decode cX11_alike 11 = .ok (.if_icmp .ge 40, 3) := by decide +kernel
theorem dX11_alike_14 : decode cX11_alike 14 = .ok (.iload 4, 2) := by decide +kernel
theorem dX11_alike_16 : decode cX11_alike 16 = .ok (.iload 5, 2) := by decide +kernel
theorem dX11_alike_18 : decode cX11_alike 18 = .ok (.invokestatic 97, 3) := by decide +kernel
theorem dX11_alike_21 : decode cX11_alike 21 = .ok (.ifCond .eq 24, 3) := by decide +kernel
theorem dX11_alike_24 : decode cX11_alike 24 = .ok (.aload_n 0, 1) := by decide +kernel
theorem dX11_alike_25 : decode cX11_alike 25 = .ok (.iload_n 1, 1) := by decide +kernel
theorem dX11_alike_26 : decode cX11_alike 26 = .ok (.iload_n 2, 1) := by decide +kernel
theorem dX11_alike_27 : decode cX11_alike 27 = .ok (.iload 5, 2) := by decide +kernel
theorem dX11_alike_29 : decode cX11_alike 29 = .ok (.invokevirtual 101, 3) := by decide +kernel
theorem dX11_alike_32 : decode cX11_alike 32 = .ok (.aload_n 0, 1) := by decide +kernel
theorem dX11_alike_33 : decode cX11_alike 33 = .ok (.iload_n 1, 1) := by decide +kernel
theorem dX11_alike_34 : decode cX11_alike 34 = .ok (.iload_n 3, 1) := by decide +kernel
theorem dX11_alike_35 : decode cX11_alike 35 = .ok (.iload 5, 2) := by decide +kernel
theorem dX11_alike_37 : decode cX11_alike 37 = .ok (.invokevirtual 101, 3) := by decide +kernel
theorem dX11_alike_40 : decode cX11_alike 40 = .ok (.if_icmp .eq 5, 3) := by decide +kernel
theorem dX11_alike_43 : decode cX11_alike 43 = .ok (.iconst 0, 1) := by decide +kernel
theorem dX11_alike_44 : decode cX11_alike 44 = .ok (.ireturn, 1) := by decide +kernel
theorem dX11_alike_45 : decode cX11_alike 45 = .ok (.iinc 5 1, 3) := by decide +kernel
theorem dX11_alike_48 : decode cX11_alike 48 = .ok (.goto (-45), 3) := by decide +kernel
theorem dX11_alike_51 : decode cX11_alike 51 = .ok (.iconst 1, 1) := by decide +kernel
theorem dX11_alike_52 : decode cX11_alike 52 = .ok (.ireturn, 1) := by decide +kernel
theorem dX11_fetched_0 : decode cX11_fetched 0 = .ok (.aload_n 0, 1) := by decide +kernel
theorem dX11_fetched_1 : decode cX11_fetched 1 = .ok (.getfield 37, 3) := by decide +kernel
theorem dX11_fetched_4 : decode cX11_fetched 4 = .ok (.iload_n 1, 1) := by decide +kernel
theorem dX11_fetched_5 : decode cX11_fetched 5 = .ok (.iaload, 1) := by decide +kernel
theorem dX11_fetched_6 : decode cX11_fetched 6 = .ok (.istore_n 2, 1) := by decide +kernel
theorem dX11_fetched_7 : decode cX11_fetched 7 = .ok (.aload_n 0, 1) := by decide +kernel
theorem dX11_fetched_8 : decode cX11_fetched 8 = .ok (.iload_n 1, 1) := by decide +kernel
theorem dX11_fetched_9 : decode cX11_fetched 9 = .ok (.aload_n 0, 1) := by decide +kernel
theorem dX11_fetched_10 : decode cX11_fetched 10 = .ok (.getfield 140, 3) := by decide +kernel
theorem dX11_fetched_13 : decode cX11_fetched 13 = .ok (.invokevirtual 176, 3) := by decide +kernel
theorem dX11_fetched_16 : decode cX11_fetched 16 = .ok (.istore_n 3, 1) := by decide +kernel
theorem dX11_fetched_17 : decode cX11_fetched 17 = .ok (.iload_n 3, 1) := by decide +kernel
theorem dX11_fetched_18 : decode cX11_fetched 18 = .ok (.iconst (-1), 1) := by decide +kernel
theorem dX11_fetched_19 : decode cX11_fetched 19 = .ok (.if_icmp .ne 19, 3) := by decide +kernel
theorem dX11_fetched_22 : decode cX11_fetched 22 = .ok (.aload_n 0, 1) := by decide +kernel
theorem dX11_fetched_23 : decode cX11_fetched 23 = .ok (.getfield 16, 3) := by decide +kernel
theorem dX11_fetched_26 : decode cX11_fetched 26 = .ok (.iload_n 2, 1) := by decide +kernel
theorem dX11_fetched_27 : decode cX11_fetched 27 = .ok (.iaload, 1) := by decide +kernel
theorem dX11_fetched_28 : decode cX11_fetched 28 = .ok (.aload_n 0, 1) := by decide +kernel
theorem dX11_fetched_29 : decode cX11_fetched 29 = .ok (.getfield 13, 3) := by decide +kernel
theorem dX11_fetched_32 : decode cX11_fetched 32 = .ok (.iload_n 2, 1) := by decide +kernel
theorem dX11_fetched_33 : decode cX11_fetched 33 = .ok (.iaload, 1) := by decide +kernel
theorem dX11_fetched_34 : decode cX11_fetched 34 = .ok (.invokestatic 105, 3) := by decide +kernel
theorem dX11_fetched_37 : decode cX11_fetched 37 = .ok (.ireturn, 1) := by decide +kernel
theorem dX11_fetched_38 : decode cX11_fetched 38 = .ok (.iconst 0, 1) := by decide +kernel
theorem dX11_fetched_39 : decode cX11_fetched 39 = .ok (.istore 4, 2) := by decide +kernel
theorem dX11_fetched_41 : decode cX11_fetched 41 = .ok (.aload_n 0, 1) := by decide +kernel
theorem dX11_fetched_42 : decode cX11_fetched 42 = .ok (.getfield 59, 3) := by decide +kernel
theorem dX11_fetched_45 : decode cX11_fetched 45 = .ok (.iload_n 3, 1) := by decide +kernel
theorem dX11_fetched_46 : decode cX11_fetched 46 = .ok (.iaload, 1) := by decide +kernel
theorem dX11_fetched_47 : decode cX11_fetched 47 = .ok (.iconst 3, 1) := by decide +kernel
theorem dX11_fetched_48 : decode cX11_fetched 48 = .ok (.if_icmp .ne 103, 3) := by decide +kernel
theorem dX11_fetched_51 : decode cX11_fetched 51 = .ok (.iconst 0, 1) := by decide +kernel
theorem dX11_fetched_52 : decode cX11_fetched 52 = .ok (.istore 5, 2) := by decide +kernel
theorem dX11_fetched_54 : decode cX11_fetched 54 = .ok (.iload 5, 2) := by decide +kernel
theorem dX11_fetched_56 : decode cX11_fetched 56 = .ok (.aload_n 0, 1) := by decide +kernel
theorem dX11_fetched_57 : decode cX11_fetched 57 = .ok (.getfield 16, 3) := by decide +kernel
theorem dX11_fetched_60 : decode cX11_fetched 60 = .ok (.iload_n 2, 1) := by decide +kernel
theorem dX11_fetched_61 : decode cX11_fetched 61 = .ok (.iaload, 1) := by decide +kernel
theorem dX11_fetched_62 : decode cX11_fetched 62 = .ok (.if_icmp .ge 73, 3) := by decide +kernel
theorem dX11_fetched_65 : decode cX11_fetched 65 = .ok (.iconst 1, 1) := by decide +kernel
theorem dX11_fetched_66 : decode cX11_fetched 66 = .ok (.istore 6, 2) := by decide +kernel
theorem dX11_fetched_68 : decode cX11_fetched 68 = .ok (.iconst 0, 1) := by decide +kernel
theorem dX11_fetched_69 : decode cX11_fetched 69 = .ok (.istore 7, 2) := by decide +kernel
theorem dX11_fetched_71 : decode cX11_fetched 71 = .ok (.iload 7, 2) := by decide +kernel
theorem dX11_fetched_73 : decode cX11_fetched 73 = .ok (.iload 5, 2) := by decide +kernel
theorem dX11_fetched_75 : decode cX11_fetched 75 = .ok (.if_icmp .ge 39, 3) := by decide +kernel
theorem dX11_fetched_78 : decode cX11_fetched 78 = .ok (.iload 6, 2) := by decide +kernel
theorem dX11_fetched_80 : decode cX11_fetched 80 = .ok (.ifCond .eq 25, 3) := by decide +kernel
theorem dX11_fetched_83 : decode cX11_fetched 83 = .ok (.aload_n 0, 1) := by decide +kernel
theorem dX11_fetched_84 : decode cX11_fetched 84 = .ok (.iload_n 2, 1) := by decide +kernel
theorem dX11_fetched_85 : decode cX11_fetched 85 = .ok (.iload 5, 2) := by decide +kernel
theorem dX11_fetched_87 : decode cX11_fetched 87 = .ok (.iload 7, 2) := by decide +kernel
theorem dX11_fetched_89 : decode cX11_fetched 89 = .ok (.aload_n 0, 1) := by decide +kernel
theorem dX11_fetched_90 : decode cX11_fetched 90 = .ok (.getfield 71, 3) := by decide +kernel
theorem dX11_fetched_93 : decode cX11_fetched 93 = .ok (.iload_n 3, 1) := by decide +kernel
theorem dX11_fetched_94 : decode cX11_fetched 94 = .ok (.iaload, 1) := by decide +kernel
theorem dX11_fetched_95 : decode cX11_fetched 95 = .ok (.invokevirtual 183, 3) := by decide +kernel
theorem dX11_fetched_98 : decode cX11_fetched 98 = .ok (.ifCond .ne 7, 3) := by decide +kernel
theorem dX11_fetched_101 : decode cX11_fetched 101 = .ok (.iconst 1, 1) := by decide +kernel
theorem dX11_fetched_102 : decode cX11_fetched 102 = .ok (.goto 4, 3) := by decide +kernel
theorem dX11_fetched_105 : decode cX11_fetched 105 = .ok (.iconst 0, 1) := by decide +kernel
theorem dX11_fetched_106 : decode cX11_fetched 106 = .ok (.istore 6, 2) := by decide +kernel
theorem dX11_fetched_108 : decode cX11_fetched 108 = .ok (.iinc 7 1, 3) := by decide +kernel
theorem dX11_fetched_111 : decode cX11_fetched 111 = .ok (.goto (-40), 3) := by decide +kernel
theorem dX11_fetched_114 : decode cX11_fetched 114 = .ok (.iload 4, 2) := by decide +kernel
theorem dX11_fetched_116 : decode cX11_fetched 116 = .ok (.iload 6, 2) := by decide +kernel
theorem dX11_fetched_118 : decode cX11_fetched 118 = .ok (.ifCond .eq 7, 3) := by decide +kernel
theorem dX11_fetched_121 : decode cX11_fetched 121 = .ok (.iconst 1, 1) := by decide +kernel
theorem dX11_fetched_122 : decode cX11_fetched 122 = .ok (.goto 4, 3) := by decide +kernel
theorem dX11_fetched_125 : decode cX11_fetched 125 = .ok (.iconst 0, 1) := by decide +kernel
theorem dX11_fetched_126 : decode cX11_fetched 126 = .ok (.iadd, 1) := by decide +kernel
theorem dX11_fetched_127 : decode cX11_fetched 127 = .ok (.istore 4, 2) := by decide +kernel
theorem dX11_fetched_129 : decode cX11_fetched 129 = .ok (.iinc 5 1, 3) := by decide +kernel
theorem dX11_fetched_132 : decode cX11_fetched 132 = .ok (.goto (-78), 3) := by decide +kernel
theorem dX11_fetched_135 : decode cX11_fetched 135 = .ok (.iconst 1, 1) := by decide +kernel
theorem dX11_fetched_136 : decode cX11_fetched 136 = .ok (.iload 4, 2) := by decide +kernel
theorem dX11_fetched_138 : decode cX11_fetched 138 = .ok (.iconst 2, 1) := by decide +kernel
theorem dX11_fetched_139 : decode cX11_fetched 139 = .ok (.aload_n 0, 1) := by decide +kernel
theorem dX11_fetched_140 : decode cX11_fetched 140 = .ok (.getfield 13, 3) := by decide +kernel
theorem dX11_fetched_143 : decode cX11_fetched 143 = .ok (.iload_n 2, 1) := by decide +kernel
theorem dX11_fetched_144 : decode cX11_fetched 144 = .ok (.iaload, 1) := by decide +kernel
theorem dX11_fetched_145 : decode cX11_fetched 145 = .ok (.imul, 1) := by decide +kernel
theorem dX11_fetched_146 : decode cX11_fetched 146 = .ok (.invokestatic 105, 3) := by decide +kernel
theorem dX11_fetched_149 : decode cX11_fetched 149 = .ok (.iadd, 1) := by decide +kernel
theorem dX11_fetched_150 : decode cX11_fetched 150 = .ok (.ireturn, 1) := by decide +kernel
theorem dX11_fetched_151 : decode cX11_fetched 151 = .ok (.iconst (-1), 1) := by decide +kernel
theorem dX11_fetched_152 : decode cX11_fetched 152 = .ok (.istore 5, 2) := by decide +kernel
theorem dX11_fetched_154 : decode cX11_fetched 154 = .ok (.iconst 0, 1) := by decide +kernel
theorem dX11_fetched_155 : decode cX11_fetched 155 = .ok (.istore 6, 2) := by decide +kernel
theorem dX11_fetched_157 : decode cX11_fetched 157 = .ok (.iconst 0, 1) := by decide +kernel
theorem dX11_fetched_158 : decode cX11_fetched 158 = .ok (.istore 7, 2) := by decide +kernel
theorem dX11_fetched_160 : decode cX11_fetched 160 = .ok (.iload 7, 2) := by decide +kernel
theorem dX11_fetched_162 : decode cX11_fetched 162 = .ok (.aload_n 0, 1) := by decide +kernel
theorem dX11_fetched_163 : decode cX11_fetched 163 = .ok (.getfield 16, 3) := by decide +kernel
theorem dX11_fetched_166 : decode cX11_fetched 166 = .ok (.iload_n 2, 1) := by decide +kernel
theorem dX11_fetched_167 : decode cX11_fetched 167 = .ok (.iaload, 1) := by decide +kernel
theorem dX11_fetched_168 : decode cX11_fetched 168 = .ok (.if_icmp .ge 61, 3) := by decide +kernel
theorem dX11_fetched_171 : decode cX11_fetched 171 = .ok (.aload_n 0, 1) := by decide +kernel
theorem dX11_fetched_172 : decode cX11_fetched 172 = .ok (.iload_n 1, 1) := by decide +kernel
theorem dX11_fetched_173 : decode cX11_fetched 173 = .ok (.iload_n 3, 1) := by decide +kernel
theorem dX11_fetched_174 : decode cX11_fetched 174 = .ok (.iload 7, 2) := by decide +kernel
theorem dX11_fetched_176 : decode cX11_fetched 176 = .ok (.invokevirtual 187, 3) := by decide +kernel
theorem dX11_fetched_179 : decode cX11_fetched 179 = .ok (.ifCond .ne 6, 3) := by decide +kernel
theorem dX11_fetched_182 : decode cX11_fetched 182 = .ok (.goto 41, 3) := by decide +kernel
theorem dX11_fetched_185 : decode cX11_fetched 185 = .ok (.iinc 4 1, 3) := by decide +kernel
theorem dX11_fetched_188 : decode cX11_fetched 188 = .ok (.iload 6, 2) := by decide +kernel
theorem dX11_fetched_190 : decode cX11_fetched 190 = .ok (.iload 7, 2) := by decide +kernel
theorem dX11_fetched_192 : decode cX11_fetched 192 = .ok (.aload_n 0, 1) := by decide +kernel
theorem dX11_fetched_193 : decode cX11_fetched 193 = .ok (.getfield 13, 3) := by decide +kernel
theorem dX11_fetched_196 : decode cX11_fetched 196 = .ok (.iload_n 2, 1) := by decide +kernel
theorem dX11_fetched_197 : decode cX11_fetched 197 = .ok (.iaload, 1) := by decide +kernel
theorem dX11_fetched_198 : decode cX11_fetched 198 = .ok (.idiv, 1) := by decide +kernel
theorem dX11_fetched_199 : decode cX11_fetched 199 = .ok (.iload 5, 2) := by decide +kernel
theorem dX11_fetched_201 : decode cX11_fetched 201 = .ok (.if_icmp .eq 7, 3) := by decide +kernel
theorem dX11_fetched_204 : decode cX11_fetched 204 = .ok (.iconst 1, 1) := by decide +kernel
theorem dX11_fetched_205 : decode cX11_fetched 205 = .ok (.goto 4, 3) := by decide +kernel
theorem dX11_fetched_208 : decode cX11_fetched 208 = .ok (.iconst 0, 1) := by decide +kernel
theorem dX11_fetched_209 : decode cX11_fetched 209 = .ok (.iadd, 1) := by decide +kernel
theorem dX11_fetched_210 : decode cX11_fetched 210 = .ok (.istore 6, 2) := by decide +kernel
theorem dX11_fetched_212 : decode cX11_fetched 212 = .ok (.iload 7, 2) := by decide +kernel
theorem dX11_fetched_214 : decode cX11_fetched 214 = .ok (.aload_n 0, 1) := by decide +kernel
theorem dX11_fetched_215 : decode cX11_fetched 215 = .ok (.getfield 13, 3) := by decide +kernel
theorem dX11_fetched_218 : decode cX11_fetched 218 = .ok (.iload_n 2, 1) := by decide +kernel
theorem dX11_fetched_219 : decode cX11_fetched 219 = .ok (.iaload, 1) := by decide +kernel
theorem dX11_fetched_220 : decode cX11_fetched 220 = .ok (.idiv, 1) := by decide +kernel
theorem dX11_fetched_221 : decode cX11_fetched 221 = .ok (.istore 5, 2) := by decide +kernel
theorem dX11_fetched_223 : decode cX11_fetched 223 = .ok (.iinc 7 1, 3) := by decide +kernel
theorem dX11_fetched_226 : decode cX11_fetched 226 = .ok (.goto (-66), 3) := by decide +kernel
theorem dX11_fetched_229 : decode cX11_fetched 229 = .ok (.aload_n 0, 1) := by decide +kernel
theorem dX11_fetched_230 : decode cX11_fetched 230 = .ok (.getfield 59, 3) := by decide +kernel
theorem dX11_fetched_233 : decode cX11_fetched 233 = .ok (.iload_n 3, 1) := by decide +kernel
theorem dX11_fetched_234 : decode cX11_fetched 234 = .ok (.iaload, 1) := by decide +kernel
theorem dX11_fetched_235 : decode cX11_fetched 235 = .ok (.iconst 4, 1) := by decide +kernel
theorem dX11_fetched_236 : decode cX11_fetched 236 = .ok (.if_icmp .ne 17, 3) := by decide +kernel
theorem dX11_fetched_239 : decode cX11_fetched 239 = .ok (.iconst 1, 1) := by decide +kernel
theorem dX11_fetched_240 : decode cX11_fetched 240 = .ok (.iload 4, 2) := by decide +kernel
theorem dX11_fetched_242 : decode cX11_fetched 242 = .ok (.aload_n 0, 1) := by decide +kernel
theorem dX11_fetched_243 : decode cX11_fetched 243 = .ok (.getfield 13, 3) := by decide +kernel
theorem dX11_fetched_246 : decode cX11_fetched 246 = .ok (.iload_n 2, 1) := by decide +kernel
theorem dX11_fetched_247 : decode cX11_fetched 247 = .ok (.iaload, 1) := by decide +kernel
theorem dX11_fetched_248 : decode cX11_fetched 248 = .ok (.invokestatic 105, 3) := by decide +kernel
theorem dX11_fetched_251 : decode cX11_fetched 251 = .ok (.iadd, 1) := by decide +kernel
theorem dX11_fetched_252 : decode cX11_fetched 252 = .ok (.ireturn, 1) := by decide +kernel
theorem dX11_fetched_253 : decode cX11_fetched 253 = .ok (.iconst 1, 1) := by decide +kernel
theorem dX11_fetched_254 : decode cX11_fetched 254 = .ok (.iload 4, 2) := by decide +kernel
theorem dX11_fetched_256 : decode cX11_fetched 256 = .ok (.iconst 2, 1) := by decide +kernel
theorem dX11_fetched_257 : decode cX11_fetched 257 = .ok (.aload_n 0, 1) := by decide +kernel
theorem dX11_fetched_258 : decode cX11_fetched 258 = .ok (.getfield 13, 3) := by decide +kernel
theorem dX11_fetched_261 : decode cX11_fetched 261 = .ok (.iload_n 2, 1) := by decide +kernel
theorem dX11_fetched_262 : decode cX11_fetched 262 = .ok (.iaload, 1) := by decide +kernel
theorem dX11_fetched_263 : decode cX11_fetched 263 = .ok (.imul, 1) := by decide +kernel
theorem dX11_fetched_264 : decode cX11_fetched 264 = .ok (.invokestatic 105, 3) := by decide +kernel
theorem dX11_fetched_267 : decode cX11_fetched 267 = .ok (.iadd, 1) := by decide +kernel
theorem dX11_fetched_268 : decode cX11_fetched 268 = .ok (.aload_n 0, 1) := by decide +kernel
theorem dX11_fetched_269 : decode cX11_fetched 269 = .ok (.iload_n 1, 1) := by decide +kernel
theorem dX11_fetched_270 : decode cX11_fetched 270 = .ok (.iload_n 3, 1) := by decide +kernel
theorem dX11_fetched_271 : decode cX11_fetched 271 = .ok (.invokevirtual 164, 3) := by decide +kernel
theorem dX11_fetched_274 : decode cX11_fetched 274 = .ok (.ifCond .eq 7, 3) := by decide +kernel
theorem dX11_fetched_277 : decode cX11_fetched 277 = .ok (.iconst 0, 1) := by decide +kernel
theorem dX11_fetched_278 : decode cX11_fetched 278 = .ok (.goto 5, 3) := by decide +kernel
theorem dX11_fetched_281 : decode cX11_fetched 281 = .ok (.iload 6, 2) := by decide +kernel
theorem dX11_fetched_283 : decode cX11_fetched 283 = .ok (.iadd, 1) := by decide +kernel
theorem dX11_fetched_284 : decode cX11_fetched 284 = .ok (.ireturn, 1) := by decide +kernel
theorem dX11_run_0 : decode cX11_run 0 = .ok (.aload_n 0, 1) := by decide +kernel
theorem dX11_run_1 : decode cX11_run 1 = .ok (.iload_n 1, 1) := by decide +kernel
theorem dX11_run_2 : decode cX11_run 2 = .ok (.invokevirtual 120, 3) := by decide +kernel
theorem dX11_run_5 : decode cX11_run 5 = .ok (.ifCond .ne 5, 3) := by decide +kernel
theorem dX11_run_8 : decode cX11_run 8 = .ok (.iconst (-1), 1) := by decide +kernel
theorem dX11_run_9 : decode cX11_run 9 = .ok (.ireturn, 1) := by decide +kernel
theorem dX11_run_10 : decode cX11_run 10 = .ok (.aload_n 0, 1) := by decide +kernel
theorem dX11_run_11 : decode cX11_run 11 = .ok (.getfield 37, 3) := by decide +kernel
theorem dX11_run_14 : decode cX11_run 14 = .ok (.iload_n 1, 1) := by decide +kernel
theorem dX11_run_15 : decode cX11_run 15 = .ok (.iaload, 1) := by decide +kernel
theorem dX11_run_16 : decode cX11_run 16 = .ok (.istore_n 3, 1) := by decide +kernel
theorem dX11_run_17 : decode cX11_run 17 = .ok (.iconst 0, 1) := by decide +kernel
theorem dX11_run_18 : decode cX11_run 18 = .ok (.istore 4, 2) := by decide +kernel
theorem dX11_run_20 : decode cX11_run 20 = .ok (.iconst 0, 1) := by decide +kernel
end
section
theorem dX11_run_21 : decode cX11_run 21 = .ok (.istore 5, 2) := by decide +kernel
theorem dX11_run_23 : decode cX11_run 23 = .ok (.iconst 0, 1) := by decide +kernel
theorem dX11_run_24 : decode cX11_run 24 = .ok (.istore 6, 2) := by decide +kernel
theorem dX11_run_26 : decode cX11_run 26 = .ok (.iload 6, 2) := by decide +kernel
theorem dX11_run_28 : decode cX11_run 28 = .ok (.aload_n 0, 1) := by decide +kernel
theorem dX11_run_29 : decode cX11_run 29 = .ok (.getfield 16, 3) := by decide +kernel
theorem dX11_run_32 : decode cX11_run 32 = .ok (.iload_n 3, 1) := by decide +kernel
theorem dX11_run_33 : decode cX11_run 33 = .ok (.iaload, 1) := by decide +kernel
theorem dX11_run_34 : decode cX11_run 34 = .ok (.if_icmp .ge 57, 3) := by decide +kernel
theorem dX11_run_37 : decode cX11_run 37 = .ok (.aload_n 0, 1) := by decide +kernel
theorem dX11_run_38 : decode cX11_run 38 = .ok (.iload_n 1, 1) := by decide +kernel
theorem dX11_run_39 : decode cX11_run 39 = .ok (.iload 6, 2) := by decide +kernel
theorem dX11_run_41 : decode cX11_run 41 = .ok (.invokevirtual 190, 3) := by decide +kernel
theorem dX11_run_44 : decode cX11_run 44 = .ok (.ifCond .ne 6, 3) := by decide +kernel
theorem dX11_run_47 : decode cX11_run 47 = .ok (.goto 38, 3) := by decide +kernel
theorem dX11_run_50 : decode cX11_run 50 = .ok (.iinc 4 1, 3) := by decide +kernel
theorem dX11_run_53 : decode cX11_run 53 = .ok (.iload 5, 2) := by decide +kernel
theorem dX11_run_55 : decode cX11_run 55 = .ok (.aload_n 0, 1) := by decide +kernel
theorem dX11_run_56 : decode cX11_run 56 = .ok (.getfield 43, 3) := by decide +kernel
theorem dX11_run_59 : decode cX11_run 59 = .ok (.iload_n 1, 1) := by decide +kernel
theorem dX11_run_60 : decode cX11_run 60 = .ok (.iaload, 1) := by decide +kernel
theorem dX11_run_61 : decode cX11_run 61 = .ok (.iconst (-1), 1) := by decide +kernel
theorem dX11_run_62 : decode cX11_run 62 = .ok (.if_icmp .ne 7, 3) := by decide +kernel
theorem dX11_run_65 : decode cX11_run 65 = .ok (.iconst 0, 1) := by decide +kernel
theorem dX11_run_66 : decode cX11_run 66 = .ok (.goto 16, 3) := by decide +kernel
theorem dX11_run_69 : decode cX11_run 69 = .ok (.aload_n 0, 1) := by decide +kernel
theorem dX11_run_70 : decode cX11_run 70 = .ok (.iload_n 3, 1) := by decide +kernel
theorem dX11_run_71 : decode cX11_run 71 = .ok (.iload 6, 2) := by decide +kernel
theorem dX11_run_73 : decode cX11_run 73 = .ok (.aload_n 0, 1) := by decide +kernel
theorem dX11_run_74 : decode cX11_run 74 = .ok (.getfield 43, 3) := by decide +kernel
theorem dX11_run_77 : decode cX11_run 77 = .ok (.iload_n 1, 1) := by decide +kernel
theorem dX11_run_78 : decode cX11_run 78 = .ok (.iaload, 1) := by decide +kernel
theorem dX11_run_79 : decode cX11_run 79 = .ok (.invokevirtual 101, 3) := by decide +kernel
theorem dX11_run_82 : decode cX11_run 82 = .ok (.iadd, 1) := by decide +kernel
theorem dX11_run_83 : decode cX11_run 83 = .ok (.istore 5, 2) := by decide +kernel
theorem dX11_run_85 : decode cX11_run 85 = .ok (.iinc 6 1, 3) := by decide +kernel
theorem dX11_run_88 : decode cX11_run 88 = .ok (.goto (-62), 3) := by decide +kernel
theorem dX11_run_91 : decode cX11_run 91 = .ok (.iload_n 2, 1) := by decide +kernel
theorem dX11_run_92 : decode cX11_run 92 = .ok (.tableswitch 59 0 3 #[32, 35, 38, 44], 32) := by decide +kernel
theorem dX11_run_124 : decode cX11_run 124 = .ok (.iload 4, 2) := by decide +kernel
theorem dX11_run_126 : decode cX11_run 126 = .ok (.ireturn, 1) := by decide +kernel
theorem dX11_run_127 : decode cX11_run 127 = .ok (.iload 5, 2) := by decide +kernel
theorem dX11_run_129 : decode cX11_run 129 = .ok (.ireturn, 1) := by decide +kernel
theorem dX11_run_130 : decode cX11_run 130 = .ok (.aload_n 0, 1) := by decide +kernel
theorem dX11_run_131 : decode cX11_run 131 = .ok (.iload_n 1, 1) := by decide +kernel
theorem dX11_run_132 : decode cX11_run 132 = .ok (.invokevirtual 193, 3) := by decide +kernel
theorem dX11_run_135 : decode cX11_run 135 = .ok (.ireturn, 1) := by decide +kernel
theorem dX11_run_136 : decode cX11_run 136 = .ok (.aload_n 0, 1) := by decide +kernel
theorem dX11_run_137 : decode cX11_run 137 = .ok (.iload_n 1, 1) := by decide +kernel
theorem dX11_run_138 : decode cX11_run 138 = .ok (.aload_n 0, 1) := by decide +kernel
theorem dX11_run_139 : decode cX11_run 139 = .ok (.iload_n 1, 1) := by decide +kernel
theorem dX11_run_140 : decode cX11_run 140 = .ok (.aload_n 0, 1) := by decide +kernel
theorem dX11_run_141 : decode cX11_run 141 = .ok (.getfield 140, 3) := by decide +kernel
theorem dX11_run_144 : decode cX11_run 144 = .ok (.invokevirtual 176, 3) := by decide +kernel
theorem dX11_run_147 : decode cX11_run 147 = .ok (.invokevirtual 173, 3) := by decide +kernel
theorem dX11_run_150 : decode cX11_run 150 = .ok (.ireturn, 1) := by decide +kernel
theorem dX11_run_151 : decode cX11_run 151 = .ok (.iconst (-1), 1) := by decide +kernel
theorem dX11_run_152 : decode cX11_run 152 = .ok (.ireturn, 1) := by decide +kernel
theorem dX11_totalOf_0 : decode cX11_totalOf 0 = .ok (.lconst 0, 1) := by decide +kernel
theorem dX11_totalOf_1 : decode cX11_totalOf 1 = .ok (.lstore_n 2, 1) := by decide +kernel
theorem dX11_totalOf_2 : decode cX11_totalOf 2 = .ok (.iconst 0, 1) := by decide +kernel
theorem dX11_totalOf_3 : decode cX11_totalOf 3 = .ok (.istore 4, 2) := by decide +kernel
theorem dX11_totalOf_5 : decode cX11_totalOf 5 = .ok (.iload 4, 2) := by decide +kernel
theorem dX11_totalOf_7 : decode cX11_totalOf 7 = .ok (.aload_n 0, 1) := by decide +kernel
theorem dX11_totalOf_8 : decode cX11_totalOf 8 = .ok (.getfield 116, 3) := by decide +kernel
theorem dX11_totalOf_11 : decode cX11_totalOf 11 = .ok (.if_icmp .ge 35, 3) := by decide +kernel
theorem dX11_totalOf_14 : decode cX11_totalOf 14 = .ok (.lload_n 2, 1) := by decide +kernel
theorem dX11_totalOf_15 : decode cX11_totalOf 15 = .ok (.aload_n 0, 1) := by decide +kernel
theorem dX11_totalOf_16 : decode cX11_totalOf 16 = .ok (.getfield 46, 3) := by decide +kernel
theorem dX11_totalOf_19 : decode cX11_totalOf 19 = .ok (.iload 4, 2) := by decide +kernel
theorem dX11_totalOf_21 : decode cX11_totalOf 21 = .ok (.iaload, 1) := by decide +kernel
theorem dX11_totalOf_22 : decode cX11_totalOf 22 = .ok (.i2l, 1) := by decide +kernel
theorem dX11_totalOf_23 : decode cX11_totalOf 23 = .ok (.aload_n 0, 1) := by decide +kernel
theorem dX11_totalOf_24 : decode cX11_totalOf 24 = .ok (.iload 4, 2) := by decide +kernel
theorem dX11_totalOf_26 : decode cX11_totalOf 26 = .ok (.aload_n 0, 1) := by decide +kernel
theorem dX11_totalOf_27 : decode cX11_totalOf 27 = .ok (.iload 4, 2) := by decide +kernel
theorem dX11_totalOf_29 : decode cX11_totalOf 29 = .ok (.iload_n 1, 1) := by decide +kernel
theorem dX11_totalOf_30 : decode cX11_totalOf 30 = .ok (.invokevirtual 176, 3) := by decide +kernel
theorem dX11_totalOf_33 : decode cX11_totalOf 33 = .ok (.invokevirtual 173, 3) := by decide +kernel
theorem dX11_totalOf_36 : decode cX11_totalOf 36 = .ok (.i2l, 1) := by decide +kernel
theorem dX11_totalOf_37 : decode cX11_totalOf 37 = .ok (.lmul, 1) := by decide +kernel
theorem dX11_totalOf_38 : decode cX11_totalOf 38 = .ok (.ladd, 1) := by decide +kernel
theorem dX11_totalOf_39 : decode cX11_totalOf 39 = .ok (.lstore_n 2, 1) := by decide +kernel
theorem dX11_totalOf_40 : decode cX11_totalOf 40 = .ok (.iinc 4 1, 3) := by decide +kernel
theorem dX11_totalOf_43 : decode cX11_totalOf 43 = .ok (.goto (-38), 3) := by decide +kernel
theorem dX11_totalOf_46 : decode cX11_totalOf 46 = .ok (.iconst 0, 1) := by decide +kernel
theorem dX11_totalOf_47 : decode cX11_totalOf 47 = .ok (.istore 4, 2) := by decide +kernel
theorem dX11_totalOf_49 : decode cX11_totalOf 49 = .ok (.iload 4, 2) := by decide +kernel
theorem dX11_totalOf_51 : decode cX11_totalOf 51 = .ok (.aload_n 0, 1) := by decide +kernel
theorem dX11_totalOf_52 : decode cX11_totalOf 52 = .ok (.getfield 123, 3) := by decide +kernel
theorem dX11_totalOf_55 : decode cX11_totalOf 55 = .ok (.if_icmp .ge 46, 3) := by decide +kernel
theorem dX11_totalOf_58 : decode cX11_totalOf 58 = .ok (.lload_n 2, 1) := by decide +kernel
theorem dX11_totalOf_59 : decode cX11_totalOf 59 = .ok (.iload_n 1, 1) := by decide +kernel
theorem dX11_totalOf_60 : decode cX11_totalOf 60 = .ok (.iload 4, 2) := by decide +kernel
theorem dX11_totalOf_62 : decode cX11_totalOf 62 = .ok (.invokestatic 97, 3) := by decide +kernel
theorem dX11_totalOf_65 : decode cX11_totalOf 65 = .ok (.ifCond .eq 27, 3) := by decide +kernel
theorem dX11_totalOf_68 : decode cX11_totalOf 68 = .ok (.aload_n 0, 1) := by decide +kernel
theorem dX11_totalOf_69 : decode cX11_totalOf 69 = .ok (.iload 4, 2) := by decide +kernel
theorem dX11_totalOf_71 : decode cX11_totalOf 71 = .ok (.invokevirtual 196, 3) := by decide +kernel
theorem dX11_totalOf_74 : decode cX11_totalOf 74 = .ok (.i2l, 1) := by decide +kernel
theorem dX11_totalOf_75 : decode cX11_totalOf 75 = .ok (.aload_n 0, 1) := by decide +kernel
theorem dX11_totalOf_76 : decode cX11_totalOf 76 = .ok (.getfield 34, 3) := by decide +kernel
theorem dX11_totalOf_79 : decode cX11_totalOf 79 = .ok (.aload_n 0, 1) := by decide +kernel
theorem dX11_totalOf_80 : decode cX11_totalOf 80 = .ok (.getfield 62, 3) := by decide +kernel
theorem dX11_totalOf_83 : decode cX11_totalOf 83 = .ok (.iload 4, 2) := by decide +kernel
theorem dX11_totalOf_85 : decode cX11_totalOf 85 = .ok (.iaload, 1) := by decide +kernel
theorem dX11_totalOf_86 : decode cX11_totalOf 86 = .ok (.iaload, 1) := by decide +kernel
theorem dX11_totalOf_87 : decode cX11_totalOf 87 = .ok (.i2l, 1) := by decide +kernel
theorem dX11_totalOf_88 : decode cX11_totalOf 88 = .ok (.lmul, 1) := by decide +kernel
theorem dX11_totalOf_89 : decode cX11_totalOf 89 = .ok (.goto 4, 3) := by decide +kernel
theorem dX11_totalOf_92 : decode cX11_totalOf 92 = .ok (.lconst 0, 1) := by decide +kernel
theorem dX11_totalOf_93 : decode cX11_totalOf 93 = .ok (.ladd, 1) := by decide +kernel
theorem dX11_totalOf_94 : decode cX11_totalOf 94 = .ok (.lstore_n 2, 1) := by decide +kernel
theorem dX11_totalOf_95 : decode cX11_totalOf 95 = .ok (.iinc 4 1, 3) := by decide +kernel
theorem dX11_totalOf_98 : decode cX11_totalOf 98 = .ok (.goto (-49), 3) := by decide +kernel
theorem dX11_totalOf_101 : decode cX11_totalOf 101 = .ok (.lload_n 2, 1) := by decide +kernel
theorem dX11_totalOf_102 : decode cX11_totalOf 102 = .ok (.lreturn, 1) := by decide +kernel
theorem dX11_roomOfSet_0 : decode cX11_roomOfSet 0 = .ok (.iconst 0, 1) := by decide +kernel
theorem dX11_roomOfSet_1 : decode cX11_roomOfSet 1 = .ok (.istore_n 2, 1) := by decide +kernel
theorem dX11_roomOfSet_2 : decode cX11_roomOfSet 2 = .ok (.iconst 0, 1) := by decide +kernel
theorem dX11_roomOfSet_3 : decode cX11_roomOfSet 3 = .ok (.istore_n 3, 1) := by decide +kernel
theorem dX11_roomOfSet_4 : decode cX11_roomOfSet 4 = .ok (.iload_n 3, 1) := by decide +kernel
theorem dX11_roomOfSet_5 : decode cX11_roomOfSet 5 = .ok (.aload_n 0, 1) := by decide +kernel
theorem dX11_roomOfSet_6 : decode cX11_roomOfSet 6 = .ok (.getfield 123, 3) := by decide +kernel
theorem dX11_roomOfSet_9 : decode cX11_roomOfSet 9 = .ok (.if_icmp .ge 29, 3) := by decide +kernel
theorem dX11_roomOfSet_12 : decode cX11_roomOfSet 12 = .ok (.iload_n 2, 1) := by decide +kernel
theorem dX11_roomOfSet_13 : decode cX11_roomOfSet 13 = .ok (.iload_n 1, 1) := by decide +kernel
theorem dX11_roomOfSet_14 : decode cX11_roomOfSet 14 = .ok (.iload_n 3, 1) := by decide +kernel
theorem dX11_roomOfSet_15 : decode cX11_roomOfSet 15 = .ok (.invokestatic 97, 3) := by decide +kernel
theorem dX11_roomOfSet_18 : decode cX11_roomOfSet 18 = .ok (.ifCond .eq 11, 3) := by decide +kernel
theorem dX11_roomOfSet_21 : decode cX11_roomOfSet 21 = .ok (.aload_n 0, 1) := by decide +kernel
theorem dX11_roomOfSet_22 : decode cX11_roomOfSet 22 = .ok (.iload_n 3, 1) := by decide +kernel
theorem dX11_roomOfSet_23 : decode cX11_roomOfSet 23 = .ok (.invokevirtual 199, 3) := by decide +kernel
theorem dX11_roomOfSet_26 : decode cX11_roomOfSet 26 = .ok (.goto 4, 3) := by decide +kernel
theorem dX11_roomOfSet_29 : decode cX11_roomOfSet 29 = .ok (.iconst 0, 1) := by decide +kernel
theorem dX11_roomOfSet_30 : decode cX11_roomOfSet 30 = .ok (.iadd, 1) := by decide +kernel
theorem dX11_roomOfSet_31 : decode cX11_roomOfSet 31 = .ok (.istore_n 2, 1) := by decide +kernel
theorem dX11_roomOfSet_32 : decode cX11_roomOfSet 32 = .ok (.iinc 3 1, 3) := by decide +kernel
theorem dX11_roomOfSet_35 : decode cX11_roomOfSet 35 = .ok (.goto (-31), 3) := by decide +kernel
theorem dX11_roomOfSet_38 : decode cX11_roomOfSet 38 = .ok (.iload_n 2, 1) := by decide +kernel
theorem dX11_roomOfSet_39 : decode cX11_roomOfSet 39 = .ok (.ireturn, 1) := by decide +kernel
theorem dX11_total_0 : decode cX11_total 0 = .ok (.aload_n 0, 1) := by decide +kernel
theorem dX11_total_1 : decode cX11_total 1 = .ok (.iload_n 1, 1) := by decide +kernel
theorem dX11_total_2 : decode cX11_total 2 = .ok (.invokevirtual 143, 3) := by decide +kernel
theorem dX11_total_5 : decode cX11_total 5 = .ok (.ifCond .eq 11, 3) := by decide +kernel
theorem dX11_total_8 : decode cX11_total 8 = .ok (.aload_n 0, 1) := by decide +kernel
theorem dX11_total_9 : decode cX11_total 9 = .ok (.iload_n 1, 1) := by decide +kernel
theorem dX11_total_10 : decode cX11_total 10 = .ok (.invokevirtual 202, 3) := by decide +kernel
theorem dX11_total_13 : decode cX11_total 13 = .ok (.goto 6, 3) := by decide +kernel
theorem dX11_total_16 : decode cX11_total 16 = .ok (.ldc2_w 206, 3) := by decide +kernel
theorem dX11_total_19 : decode cX11_total 19 = .ok (.lreturn, 1) := by decide +kernel
theorem dX11_room_0 : decode cX11_room 0 = .ok (.aload_n 0, 1) := by decide +kernel
theorem dX11_room_1 : decode cX11_room 1 = .ok (.iload_n 1, 1) := by decide +kernel
theorem dX11_room_2 : decode cX11_room 2 = .ok (.invokevirtual 143, 3) := by decide +kernel
theorem dX11_room_5 : decode cX11_room 5 = .ok (.ifCond .eq 11, 3) := by decide +kernel
theorem dX11_room_8 : decode cX11_room 8 = .ok (.aload_n 0, 1) := by decide +kernel
theorem dX11_room_9 : decode cX11_room 9 = .ok (.iload_n 1, 1) := by decide +kernel
theorem dX11_room_10 : decode cX11_room 10 = .ok (.invokevirtual 208, 3) := by decide +kernel
theorem dX11_room_13 : decode cX11_room 13 = .ok (.goto 4, 3) := by decide +kernel
theorem dX11_room_16 : decode cX11_room 16 = .ok (.iconst (-1), 1) := by decide +kernel
theorem dX11_room_17 : decode cX11_room 17 = .ok (.ireturn, 1) := by decide +kernel
theorem dX11_built_0 : decode cX11_built 0 = .ok (.aload_n 0, 1) := by decide +kernel
theorem dX11_built_1 : decode cX11_built 1 = .ok (.getfield 140, 3) := by decide +kernel
theorem dX11_built_4 : decode cX11_built 4 = .ok (.ireturn, 1) := by decide +kernel
theorem dX11_look_0 : decode cX11_look 0 = .ok (.aload_n 0, 1) := by decide +kernel
theorem dX11_look_1 : decode cX11_look 1 = .ok (.iload_n 1, 1) := by decide +kernel
theorem dX11_look_2 : decode cX11_look 2 = .ok (.invokevirtual 137, 3) := by decide +kernel
theorem dX11_look_5 : decode cX11_look 5 = .ok (.ifCond .ne 7, 3) := by decide +kernel
theorem dX11_look_8 : decode cX11_look 8 = .ok (.ldc2_w 206, 3) := by decide +kernel
theorem dX11_look_11 : decode cX11_look 11 = .ok (.lreturn, 1) := by decide +kernel
theorem dX11_look_12 : decode cX11_look 12 = .ok (.iload_n 2, 1) := by decide +kernel
theorem dX11_look_13 : decode cX11_look 13 = .ok (.tableswitch 132 0 5 #[39, 47, 55, 62, 79, 93], 39) := by decide +kernel
theorem dX11_look_52 : decode cX11_look 52 = .ok (.aload_n 0, 1) := by decide +kernel
theorem dX11_look_53 : decode cX11_look 53 = .ok (.getfield 59, 3) := by decide +kernel
theorem dX11_look_56 : decode cX11_look 56 = .ok (.iload_n 1, 1) := by decide +kernel
theorem dX11_look_57 : decode cX11_look 57 = .ok (.iaload, 1) := by decide +kernel
theorem dX11_look_58 : decode cX11_look 58 = .ok (.i2l, 1) := by decide +kernel
theorem dX11_look_59 : decode cX11_look 59 = .ok (.lreturn, 1) := by decide +kernel
theorem dX11_look_60 : decode cX11_look 60 = .ok (.aload_n 0, 1) := by decide +kernel
theorem dX11_look_61 : decode cX11_look 61 = .ok (.getfield 62, 3) := by decide +kernel
theorem dX11_look_64 : decode cX11_look 64 = .ok (.iload_n 1, 1) := by decide +kernel
theorem dX11_look_65 : decode cX11_look 65 = .ok (.iaload, 1) := by decide +kernel
theorem dX11_look_66 : decode cX11_look 66 = .ok (.i2l, 1) := by decide +kernel
theorem dX11_look_67 : decode cX11_look 67 = .ok (.lreturn, 1) := by decide +kernel
theorem dX11_look_68 : decode cX11_look 68 = .ok (.aload_n 0, 1) := by decide +kernel
theorem dX11_look_69 : decode cX11_look 69 = .ok (.iload_n 1, 1) := by decide +kernel
theorem dX11_look_70 : decode cX11_look 70 = .ok (.invokevirtual 199, 3) := by decide +kernel
theorem dX11_look_73 : decode cX11_look 73 = .ok (.i2l, 1) := by decide +kernel
theorem dX11_look_74 : decode cX11_look 74 = .ok (.lreturn, 1) := by decide +kernel
theorem dX11_look_75 : decode cX11_look 75 = .ok (.aload_n 0, 1) := by decide +kernel
theorem dX11_look_76 : decode cX11_look 76 = .ok (.getfield 140, 3) := by decide +kernel
theorem dX11_look_79 : decode cX11_look 79 = .ok (.iload_n 1, 1) := by decide +kernel
theorem dX11_look_80 : decode cX11_look 80 = .ok (.invokestatic 97, 3) := by decide +kernel
theorem dX11_look_83 : decode cX11_look 83 = .ok (.ifCond .eq 7, 3) := by decide +kernel
theorem dX11_look_86 : decode cX11_look 86 = .ok (.lconst 1, 1) := by decide +kernel
theorem dX11_look_87 : decode cX11_look 87 = .ok (.goto 4, 3) := by decide +kernel
theorem dX11_look_90 : decode cX11_look 90 = .ok (.lconst 0, 1) := by decide +kernel
theorem dX11_look_91 : decode cX11_look 91 = .ok (.lreturn, 1) := by decide +kernel
theorem dX11_look_92 : decode cX11_look 92 = .ok (.aload_n 0, 1) := by decide +kernel
theorem dX11_look_93 : decode cX11_look 93 = .ok (.iconst 0, 1) := by decide +kernel
theorem dX11_look_94 : decode cX11_look 94 = .ok (.invokevirtual 202, 3) := by decide +kernel
theorem dX11_look_97 : decode cX11_look 97 = .ok (.aload_n 0, 1) := by decide +kernel
theorem dX11_look_98 : decode cX11_look 98 = .ok (.iconst 1, 1) := by decide +kernel
theorem dX11_look_99 : decode cX11_look 99 = .ok (.iload_n 1, 1) := by decide +kernel
theorem dX11_look_100 : decode cX11_look 100 = .ok (.ishl, 1) := by decide +kernel
theorem dX11_look_101 : decode cX11_look 101 = .ok (.invokevirtual 202, 3) := by decide +kernel
theorem dX11_look_104 : decode cX11_look 104 = .ok (.lsub, 1) := by decide +kernel
theorem dX11_look_105 : decode cX11_look 105 = .ok (.lreturn, 1) := by decide +kernel
theorem dX11_look_106 : decode cX11_look 106 = .ok (.aload_n 0, 1) := by decide +kernel
theorem dX11_look_107 : decode cX11_look 107 = .ok (.getfield 140, 3) := by decide +kernel
theorem dX11_look_110 : decode cX11_look 110 = .ok (.iload_n 1, 1) := by decide +kernel
theorem dX11_look_111 : decode cX11_look 111 = .ok (.invokestatic 97, 3) := by decide +kernel
theorem dX11_look_114 : decode cX11_look 114 = .ok (.ifCond .eq 27, 3) := by decide +kernel
theorem dX11_look_117 : decode cX11_look 117 = .ok (.aload_n 0, 1) := by decide +kernel
theorem dX11_look_118 : decode cX11_look 118 = .ok (.aload_n 0, 1) := by decide +kernel
theorem dX11_look_119 : decode cX11_look 119 = .ok (.getfield 140, 3) := by decide +kernel
theorem dX11_look_122 : decode cX11_look 122 = .ok (.iconst 1, 1) := by decide +kernel
theorem dX11_look_123 : decode cX11_look 123 = .ok (.iload_n 1, 1) := by decide +kernel
theorem dX11_look_124 : decode cX11_look 124 = .ok (.ishl, 1) := by decide +kernel
theorem dX11_look_125 : decode cX11_look 125 = .ok (.ixor, 1) := by decide +kernel
theorem dX11_look_126 : decode cX11_look 126 = .ok (.invokevirtual 202, 3) := by decide +kernel
theorem dX11_look_129 : decode cX11_look 129 = .ok (.aload_n 0, 1) := by decide +kernel
theorem dX11_look_130 : decode cX11_look 130 = .ok (.aload_n 0, 1) := by decide +kernel
theorem dX11_look_131 : decode cX11_look 131 = .ok (.getfield 140, 3) := by decide +kernel
theorem dX11_look_134 : decode cX11_look 134 = .ok (.invokevirtual 202, 3) := by decide +kernel
theorem dX11_look_137 : decode cX11_look 137 = .ok (.lsub, 1) := by decide +kernel
theorem dX11_look_138 : decode cX11_look 138 = .ok (.goto 6, 3) := by decide +kernel
theorem dX11_look_141 : decode cX11_look 141 = .ok (.ldc2_w 206, 3) := by decide +kernel
theorem dX11_look_144 : decode cX11_look 144 = .ok (.lreturn, 1) := by decide +kernel
theorem dX11_look_145 : decode cX11_look 145 = .ok (.ldc2_w 206, 3) := by decide +kernel
theorem dX11_look_148 : decode cX11_look 148 = .ok (.lreturn, 1) := by decide +kernel
theorem dX11_works_0 : decode cX11_works 0 = .ok (.iconst 0, 1) := by decide +kernel
theorem dX11_works_1 : decode cX11_works 1 = .ok (.istore_n 1, 1) := by decide +kernel
theorem dX11_works_2 : decode cX11_works 2 = .ok (.iload_n 1, 1) := by decide +kernel
theorem dX11_works_3 : decode cX11_works 3 = .ok (.aload_n 0, 1) := by decide +kernel
theorem dX11_works_4 : decode cX11_works 4 = .ok (.getfield 116, 3) := by decide +kernel
theorem dX11_works_7 : decode cX11_works 7 = .ok (.if_icmp .ge 60, 3) := by decide +kernel
theorem dX11_works_10 : decode cX11_works 10 = .ok (.aload_n 0, 1) := by decide +kernel
theorem dX11_works_11 : decode cX11_works 11 = .ok (.getfield 83, 3) := by decide +kernel
theorem dX11_works_14 : decode cX11_works 14 = .ok (.bipush 13, 2) := by decide +kernel
theorem dX11_works_16 : decode cX11_works 16 = .ok (.iload_n 1, 1) := by decide +kernel
theorem dX11_works_17 : decode cX11_works 17 = .ok (.imul, 1) := by decide +kernel
theorem dX11_works_18 : decode cX11_works 18 = .ok (.bipush 12, 2) := by decide +kernel
theorem dX11_works_20 : decode cX11_works 20 = .ok (.iadd, 1) := by decide +kernel
theorem dX11_works_21 : decode cX11_works 21 = .ok (.aload_n 0, 1) := by decide +kernel
theorem dX11_works_22 : decode cX11_works 22 = .ok (.iload_n 1, 1) := by decide +kernel
theorem dX11_works_23 : decode cX11_works 23 = .ok (.iconst (-1), 1) := by decide +kernel
theorem dX11_works_24 : decode cX11_works 24 = .ok (.invokevirtual 173, 3) := by decide +kernel
theorem dX11_works_27 : decode cX11_works 27 = .ok (.iastore, 1) := by decide +kernel
theorem dX11_works_28 : decode cX11_works 28 = .ok (.iconst 0, 1) := by decide +kernel
theorem dX11_works_29 : decode cX11_works 29 = .ok (.istore_n 2, 1) := by decide +kernel
theorem dX11_works_30 : decode cX11_works 30 = .ok (.iload_n 2, 1) := by decide +kernel
theorem dX11_works_31 : decode cX11_works 31 = .ok (.aload_n 0, 1) := by decide +kernel
theorem dX11_works_32 : decode cX11_works 32 = .ok (.getfield 123, 3) := by decide +kernel
theorem dX11_works_35 : decode cX11_works 35 = .ok (.if_icmp .ge 26, 3) := by decide +kernel
theorem dX11_works_38 : decode cX11_works 38 = .ok (.aload_n 0, 1) := by decide +kernel
theorem dX11_works_39 : decode cX11_works 39 = .ok (.getfield 83, 3) := by decide +kernel
theorem dX11_works_42 : decode cX11_works 42 = .ok (.bipush 13, 2) := by decide +kernel
theorem dX11_works_44 : decode cX11_works 44 = .ok (.iload_n 1, 1) := by decide +kernel
theorem dX11_works_45 : decode cX11_works 45 = .ok (.imul, 1) := by decide +kernel
theorem dX11_works_46 : decode cX11_works 46 = .ok (.iload_n 2, 1) := by decide +kernel
theorem dX11_works_47 : decode cX11_works 47 = .ok (.iadd, 1) := by decide +kernel
theorem dX11_works_48 : decode cX11_works 48 = .ok (.aload_n 0, 1) := by decide +kernel
theorem dX11_works_49 : decode cX11_works 49 = .ok (.iload_n 1, 1) := by decide +kernel
theorem dX11_works_50 : decode cX11_works 50 = .ok (.iload_n 2, 1) := by decide +kernel
theorem dX11_works_51 : decode cX11_works 51 = .ok (.invokevirtual 173, 3) := by decide +kernel
theorem dX11_works_54 : decode cX11_works 54 = .ok (.iastore, 1) := by decide +kernel
theorem dX11_works_55 : decode cX11_works 55 = .ok (.iinc 2 1, 3) := by decide +kernel
theorem dX11_works_58 : decode cX11_works 58 = .ok (.goto (-28), 3) := by decide +kernel
theorem dX11_works_61 : decode cX11_works 61 = .ok (.iinc 1 1, 3) := by decide +kernel
theorem dX11_works_64 : decode cX11_works 64 = .ok (.goto (-62), 3) := by decide +kernel
theorem dX11_works_67 : decode cX11_works 67 = .ok (.iconst 0, 1) := by decide +kernel
theorem dX11_works_68 : decode cX11_works 68 = .ok (.istore_n 1, 1) := by decide +kernel
theorem dX11_works_69 : decode cX11_works 69 = .ok (.iload_n 1, 1) := by decide +kernel
theorem dX11_works_70 : decode cX11_works 70 = .ok (.aload_n 0, 1) := by decide +kernel
theorem dX11_works_71 : decode cX11_works 71 = .ok (.getfield 123, 3) := by decide +kernel
theorem dX11_works_74 : decode cX11_works 74 = .ok (.if_icmp .ge 20, 3) := by decide +kernel
theorem dX11_works_77 : decode cX11_works 77 = .ok (.aload_n 0, 1) := by decide +kernel
theorem dX11_works_78 : decode cX11_works 78 = .ok (.getfield 86, 3) := by decide +kernel
theorem dX11_works_81 : decode cX11_works 81 = .ok (.iload_n 1, 1) := by decide +kernel
theorem dX11_works_82 : decode cX11_works 82 = .ok (.aload_n 0, 1) := by decide +kernel
theorem dX11_works_83 : decode cX11_works 83 = .ok (.iload_n 1, 1) := by decide +kernel
theorem dX11_works_84 : decode cX11_works 84 = .ok (.invokevirtual 199, 3) := by decide +kernel
theorem dX11_works_87 : decode cX11_works 87 = .ok (.iastore, 1) := by decide +kernel
theorem dX11_works_88 : decode cX11_works 88 = .ok (.iinc 1 1, 3) := by decide +kernel
theorem dX11_works_91 : decode cX11_works 91 = .ok (.goto (-22), 3) := by decide +kernel
theorem dX11_works_94 : decode cX11_works 94 = .ok (.return_, 1) := by decide +kernel
theorem dX11_totalWorked_0 : decode cX11_totalWorked 0 = .ok (.lconst 0, 1) := by decide +kernel
theorem dX11_totalWorked_1 : decode cX11_totalWorked 1 = .ok (.lstore_n 2, 1) := by decide +kernel
theorem dX11_totalWorked_2 : decode cX11_totalWorked 2 = .ok (.iconst 0, 1) := by decide +kernel
theorem dX11_totalWorked_3 : decode cX11_totalWorked 3 = .ok (.istore 4, 2) := by decide +kernel
theorem dX11_totalWorked_5 : decode cX11_totalWorked 5 = .ok (.iload 4, 2) := by decide +kernel
theorem dX11_totalWorked_7 : decode cX11_totalWorked 7 = .ok (.aload_n 0, 1) := by decide +kernel
theorem dX11_totalWorked_8 : decode cX11_totalWorked 8 = .ok (.getfield 116, 3) := by decide +kernel
theorem dX11_totalWorked_11 : decode cX11_totalWorked 11 = .ok (.if_icmp .ge 116, 3) := by decide +kernel
theorem dX11_totalWorked_14 : decode cX11_totalWorked 14 = .ok (.aload_n 0, 1) := by decide +kernel
theorem dX11_totalWorked_15 : decode cX11_totalWorked 15 = .ok (.getfield 83, 3) := by decide +kernel
theorem dX11_totalWorked_18 : decode cX11_totalWorked 18 = .ok (.bipush 13, 2) := by decide +kernel
theorem dX11_totalWorked_20 : decode cX11_totalWorked 20 = .ok (.iload 4, 2) := by decide +kernel
theorem dX11_totalWorked_22 : decode cX11_totalWorked 22 = .ok (.imul, 1) := by decide +kernel
theorem dX11_totalWorked_23 : decode cX11_totalWorked 23 = .ok (.bipush 12, 2) := by decide +kernel
theorem dX11_totalWorked_25 : decode cX11_totalWorked 25 = .ok (.iadd, 1) := by decide +kernel
theorem dX11_totalWorked_26 : decode cX11_totalWorked 26 = .ok (.iaload, 1) := by decide +kernel
theorem dX11_totalWorked_27 : decode cX11_totalWorked 27 = .ok (.istore 5, 2) := by decide +kernel
theorem dX11_totalWorked_29 : decode cX11_totalWorked 29 = .ok (.iconst 0, 1) := by decide +kernel
theorem dX11_totalWorked_30 : decode cX11_totalWorked 30 = .ok (.istore 6, 2) := by decide +kernel
theorem dX11_totalWorked_32 : decode cX11_totalWorked 32 = .ok (.iload 6, 2) := by decide +kernel
theorem dX11_totalWorked_34 : decode cX11_totalWorked 34 = .ok (.aload_n 0, 1) := by decide +kernel
theorem dX11_totalWorked_35 : decode cX11_totalWorked 35 = .ok (.getfield 123, 3) := by decide +kernel
theorem dX11_totalWorked_38 : decode cX11_totalWorked 38 = .ok (.if_icmp .ge 68, 3) := by decide +kernel
theorem dX11_totalWorked_41 : decode cX11_totalWorked 41 = .ok (.iload_n 1, 1) := by decide +kernel
theorem dX11_totalWorked_42 : decode cX11_totalWorked 42 = .ok (.iload 6, 2) := by decide +kernel
theorem dX11_totalWorked_44 : decode cX11_totalWorked 44 = .ok (.invokestatic 97, 3) := by decide +kernel
theorem dX11_totalWorked_47 : decode cX11_totalWorked 47 = .ok (.ifCond .eq 53, 3) := by decide +kernel
theorem dX11_totalWorked_50 : decode cX11_totalWorked 50 = .ok (.aload_n 0, 1) := by decide +kernel
theorem dX11_totalWorked_51 : decode cX11_totalWorked 51 = .ok (.getfield 83, 3) := by decide +kernel
theorem dX11_totalWorked_54 : decode cX11_totalWorked 54 = .ok (.bipush 13, 2) := by decide +kernel
theorem dX11_totalWorked_56 : decode cX11_totalWorked 56 = .ok (.iload 4, 2) := by decide +kernel
theorem dX11_totalWorked_58 : decode cX11_totalWorked 58 = .ok (.imul, 1) := by decide +kernel
theorem dX11_totalWorked_59 : decode cX11_totalWorked 59 = .ok (.iload 6, 2) := by decide +kernel
theorem dX11_totalWorked_61 : decode cX11_totalWorked 61 = .ok (.iadd, 1) := by decide +kernel
theorem dX11_totalWorked_62 : decode cX11_totalWorked 62 = .ok (.iaload, 1) := by decide +kernel
theorem dX11_totalWorked_63 : decode cX11_totalWorked 63 = .ok (.iconst (-1), 1) := by decide +kernel
theorem dX11_totalWorked_64 : decode cX11_totalWorked 64 = .ok (.if_icmp .eq 36, 3) := by decide +kernel
theorem dX11_totalWorked_67 : decode cX11_totalWorked 67 = .ok (.aload_n 0, 1) := by decide +kernel
theorem dX11_totalWorked_68 : decode cX11_totalWorked 68 = .ok (.getfield 83, 3) := by decide +kernel
theorem dX11_totalWorked_71 : decode cX11_totalWorked 71 = .ok (.bipush 13, 2) := by decide +kernel
theorem dX11_totalWorked_73 : decode cX11_totalWorked 73 = .ok (.iload 4, 2) := by decide +kernel
theorem dX11_totalWorked_75 : decode cX11_totalWorked 75 = .ok (.imul, 1) := by decide +kernel
theorem dX11_totalWorked_76 : decode cX11_totalWorked 76 = .ok (.iload 6, 2) := by decide +kernel
theorem dX11_totalWorked_78 : decode cX11_totalWorked 78 = .ok (.iadd, 1) := by decide +kernel
theorem dX11_totalWorked_79 : decode cX11_totalWorked 79 = .ok (.iaload, 1) := by decide +kernel
theorem dX11_totalWorked_80 : decode cX11_totalWorked 80 = .ok (.iload 5, 2) := by decide +kernel
theorem dX11_totalWorked_82 : decode cX11_totalWorked 82 = .ok (.if_icmp .ge 18, 3) := by decide +kernel
theorem dX11_totalWorked_85 : decode cX11_totalWorked 85 = .ok (.aload_n 0, 1) := by decide +kernel
theorem dX11_totalWorked_86 : decode cX11_totalWorked 86 = .ok (.getfield 83, 3) := by decide +kernel
theorem dX11_totalWorked_89 : decode cX11_totalWorked 89 = .ok (.bipush 13, 2) := by decide +kernel
theorem dX11_totalWorked_91 : decode cX11_totalWorked 91 = .ok (.iload 4, 2) := by decide +kernel
theorem dX11_totalWorked_93 : decode cX11_totalWorked 93 = .ok (.imul, 1) := by decide +kernel
theorem dX11_totalWorked_94 : decode cX11_totalWorked 94 = .ok (.iload 6, 2) := by decide +kernel
theorem dX11_totalWorked_96 : decode cX11_totalWorked 96 = .ok (.iadd, 1) := by decide +kernel
theorem dX11_totalWorked_97 : decode cX11_totalWorked 97 = .ok (.iaload, 1) := by decide +kernel
theorem dX11_totalWorked_98 : decode cX11_totalWorked 98 = .ok (.istore 5, 2) := by decide +kernel
theorem dX11_totalWorked_100 : decode cX11_totalWorked 100 = .ok (.iinc 6 1, 3) := by decide +kernel
theorem dX11_totalWorked_103 : decode cX11_totalWorked 103 = .ok (.goto (-71), 3) := by decide +kernel
theorem dX11_totalWorked_106 : decode cX11_totalWorked 106 = .ok (.lload_n 2, 1) := by decide +kernel
theorem dX11_totalWorked_107 : decode cX11_totalWorked 107 = .ok (.aload_n 0, 1) := by decide +kernel
theorem dX11_totalWorked_108 : decode cX11_totalWorked 108 = .ok (.getfield 46, 3) := by decide +kernel
theorem dX11_totalWorked_111 : decode cX11_totalWorked 111 = .ok (.iload 4, 2) := by decide +kernel
theorem dX11_totalWorked_113 : decode cX11_totalWorked 113 = .ok (.iaload, 1) := by decide +kernel
theorem dX11_totalWorked_114 : decode cX11_totalWorked 114 = .ok (.i2l, 1) := by decide +kernel
theorem dX11_totalWorked_115 : decode cX11_totalWorked 115 = .ok (.iload 5, 2) := by decide +kernel
theorem dX11_totalWorked_117 : decode cX11_totalWorked 117 = .ok (.i2l, 1) := by decide +kernel
theorem dX11_totalWorked_118 : decode cX11_totalWorked 118 = .ok (.lmul, 1) := by decide +kernel
theorem dX11_totalWorked_119 : decode cX11_totalWorked 119 = .ok (.ladd, 1) := by decide +kernel
theorem dX11_totalWorked_120 : decode cX11_totalWorked 120 = .ok (.lstore_n 2, 1) := by decide +kernel
theorem dX11_totalWorked_121 : decode cX11_totalWorked 121 = .ok (.iinc 4 1, 3) := by decide +kernel
theorem dX11_totalWorked_124 : decode cX11_totalWorked 124 = .ok (.goto (-119), 3) := by decide +kernel
theorem dX11_totalWorked_127 : decode cX11_totalWorked 127 = .ok (.iconst 0, 1) := by decide +kernel
theorem dX11_totalWorked_128 : decode cX11_totalWorked 128 = .ok (.istore 4, 2) := by decide +kernel
theorem dX11_totalWorked_130 : decode cX11_totalWorked 130 = .ok (.iload 4, 2) := by decide +kernel
theorem dX11_totalWorked_132 : decode cX11_totalWorked 132 = .ok (.aload_n 0, 1) := by decide +kernel
theorem dX11_totalWorked_133 : decode cX11_totalWorked 133 = .ok (.getfield 123, 3) := by decide +kernel
theorem dX11_totalWorked_136 : decode cX11_totalWorked 136 = .ok (.if_icmp .ge 46, 3) := by decide +kernel
theorem dX11_totalWorked_139 : decode cX11_totalWorked 139 = .ok (.lload_n 2, 1) := by decide +kernel
theorem dX11_totalWorked_140 : decode cX11_totalWorked 140 = .ok (.iload_n 1, 1) := by decide +kernel
theorem dX11_totalWorked_141 : decode cX11_totalWorked 141 = .ok (.iload 4, 2) := by decide +kernel
theorem dX11_totalWorked_143 : decode cX11_totalWorked 143 = .ok (.invokestatic 97, 3) := by decide +kernel
theorem dX11_totalWorked_146 : decode cX11_totalWorked 146 = .ok (.ifCond .eq 27, 3) := by decide +kernel
theorem dX11_totalWorked_149 : decode cX11_totalWorked 149 = .ok (.aload_n 0, 1) := by decide +kernel
theorem dX11_totalWorked_150 : decode cX11_totalWorked 150 = .ok (.iload 4, 2) := by decide +kernel
theorem dX11_totalWorked_152 : decode cX11_totalWorked 152 = .ok (.invokevirtual 196, 3) := by decide +kernel
theorem dX11_totalWorked_155 : decode cX11_totalWorked 155 = .ok (.i2l, 1) := by decide +kernel
theorem dX11_totalWorked_156 : decode cX11_totalWorked 156 = .ok (.aload_n 0, 1) := by decide +kernel
theorem dX11_totalWorked_157 : decode cX11_totalWorked 157 = .ok (.getfield 34, 3) := by decide +kernel
theorem dX11_totalWorked_160 : decode cX11_totalWorked 160 = .ok (.aload_n 0, 1) := by decide +kernel
theorem dX11_totalWorked_161 : decode cX11_totalWorked 161 = .ok (.getfield 62, 3) := by decide +kernel
theorem dX11_totalWorked_164 : decode cX11_totalWorked 164 = .ok (.iload 4, 2) := by decide +kernel
theorem dX11_totalWorked_166 : decode cX11_totalWorked 166 = .ok (.iaload, 1) := by decide +kernel
theorem dX11_totalWorked_167 : decode cX11_totalWorked 167 = .ok (.iaload, 1) := by decide +kernel
theorem dX11_totalWorked_168 : decode cX11_totalWorked 168 = .ok (.i2l, 1) := by decide +kernel
theorem dX11_totalWorked_169 : decode cX11_totalWorked 169 = .ok (.lmul, 1) := by decide +kernel
theorem dX11_totalWorked_170 : decode cX11_totalWorked 170 = .ok (.goto 4, 3) := by decide +kernel
theorem dX11_totalWorked_173 : decode cX11_totalWorked 173 = .ok (.lconst 0, 1) := by decide +kernel
theorem dX11_totalWorked_174 : decode cX11_totalWorked 174 = .ok (.ladd, 1) := by decide +kernel
theorem dX11_totalWorked_175 : decode cX11_totalWorked 175 = .ok (.lstore_n 2, 1) := by decide +kernel
theorem dX11_totalWorked_176 : decode cX11_totalWorked 176 = .ok (.iinc 4 1, 3) := by decide +kernel
theorem dX11_totalWorked_179 : decode cX11_totalWorked 179 = .ok (.goto (-49), 3) := by decide +kernel
theorem dX11_totalWorked_182 : decode cX11_totalWorked 182 = .ok (.lload_n 2, 1) := by decide +kernel
theorem dX11_totalWorked_183 : decode cX11_totalWorked 183 = .ok (.lreturn, 1) := by decide +kernel
theorem dX11_isAhead_0 : decode cX11_isAhead 0 = .ok (.iload_n 0, 1) := by decide +kernel
theorem dX11_isAhead_1 : decode cX11_isAhead 1 = .ok (.invokestatic 134, 3) := by decide +kernel
theorem dX11_isAhead_4 : decode cX11_isAhead 4 = .ok (.iload_n 1, 1) := by decide +kernel
theorem dX11_isAhead_5 : decode cX11_isAhead 5 = .ok (.invokestatic 134, 3) := by decide +kernel
theorem dX11_isAhead_8 : decode cX11_isAhead 8 = .ok (.if_icmp .eq 20, 3) := by decide +kernel
theorem dX11_isAhead_11 : decode cX11_isAhead 11 = .ok (.iload_n 0, 1) := by decide +kernel
theorem dX11_isAhead_12 : decode cX11_isAhead 12 = .ok (.invokestatic 134, 3) := by decide +kernel
theorem dX11_isAhead_15 : decode cX11_isAhead 15 = .ok (.iload_n 1, 1) := by decide +kernel
theorem dX11_isAhead_16 : decode cX11_isAhead 16 = .ok (.invokestatic 134, 3) := by decide +kernel
theorem dX11_isAhead_19 : decode cX11_isAhead 19 = .ok (.if_icmp .ge 7, 3) := by decide +kernel
theorem dX11_isAhead_22 : decode cX11_isAhead 22 = .ok (.iconst 1, 1) := by decide +kernel
theorem dX11_isAhead_23 : decode cX11_isAhead 23 = .ok (.goto 4, 3) := by decide +kernel
theorem dX11_isAhead_26 : decode cX11_isAhead 26 = .ok (.iconst 0, 1) := by decide +kernel
theorem dX11_isAhead_27 : decode cX11_isAhead 27 = .ok (.ireturn, 1) := by decide +kernel
theorem dX11_isAhead_28 : decode cX11_isAhead 28 = .ok (.iconst 0, 1) := by decide +kernel
theorem dX11_isAhead_29 : decode cX11_isAhead 29 = .ok (.istore_n 2, 1) := by decide +kernel
theorem dX11_isAhead_30 : decode cX11_isAhead 30 = .ok (.iload_n 2, 1) := by decide +kernel
theorem dX11_isAhead_31 : decode cX11_isAhead 31 = .ok (.bipush 12, 2) := by decide +kernel
theorem dX11_isAhead_33 : decode cX11_isAhead 33 = .ok (.if_icmp .ge 22, 3) := by decide +kernel
theorem dX11_isAhead_36 : decode cX11_isAhead 36 = .ok (.iload_n 0, 1) := by decide +kernel
theorem dX11_isAhead_37 : decode cX11_isAhead 37 = .ok (.iload_n 2, 1) := by decide +kernel
theorem dX11_isAhead_38 : decode cX11_isAhead 38 = .ok (.invokestatic 97, 3) := by decide +kernel
theorem dX11_isAhead_41 : decode cX11_isAhead 41 = .ok (.iload_n 1, 1) := by decide +kernel
theorem dX11_isAhead_42 : decode cX11_isAhead 42 = .ok (.iload_n 2, 1) := by decide +kernel
theorem dX11_isAhead_43 : decode cX11_isAhead 43 = .ok (.invokestatic 97, 3) := by decide +kernel
theorem dX11_isAhead_46 : decode cX11_isAhead 46 = .ok (.if_icmp .ne 9, 3) := by decide +kernel
theorem dX11_isAhead_49 : decode cX11_isAhead 49 = .ok (.iinc 2 1, 3) := by decide +kernel
theorem dX11_isAhead_52 : decode cX11_isAhead 52 = .ok (.goto (-22), 3) := by decide +kernel
theorem dX11_isAhead_55 : decode cX11_isAhead 55 = .ok (.iload_n 2, 1) := by decide +kernel
theorem dX11_isAhead_56 : decode cX11_isAhead 56 = .ok (.bipush 12, 2) := by decide +kernel
theorem dX11_isAhead_58 : decode cX11_isAhead 58 = .ok (.if_icmp .ge 15, 3) := by decide +kernel
theorem dX11_isAhead_61 : decode cX11_isAhead 61 = .ok (.iload_n 0, 1) := by decide +kernel
theorem dX11_isAhead_62 : decode cX11_isAhead 62 = .ok (.iload_n 2, 1) := by decide +kernel
theorem dX11_isAhead_63 : decode cX11_isAhead 63 = .ok (.invokestatic 97, 3) := by decide +kernel
theorem dX11_isAhead_66 : decode cX11_isAhead 66 = .ok (.ifCond .eq 7, 3) := by decide +kernel
theorem dX11_isAhead_69 : decode cX11_isAhead 69 = .ok (.iconst 1, 1) := by decide +kernel
theorem dX11_isAhead_70 : decode cX11_isAhead 70 = .ok (.goto 4, 3) := by decide +kernel
theorem dX11_isAhead_73 : decode cX11_isAhead 73 = .ok (.iconst 0, 1) := by decide +kernel
theorem dX11_isAhead_74 : decode cX11_isAhead 74 = .ok (.ireturn, 1) := by decide +kernel
theorem dX11_choose_0 : decode cX11_choose 0 = .ok (.iload_n 1, 1) := by decide +kernel
theorem dX11_choose_1 : decode cX11_choose 1 = .ok (.iconst 0, 1) := by decide +kernel
theorem dX11_choose_2 : decode cX11_choose 2 = .ok (.sipush 10000, 3) := by decide +kernel
theorem dX11_choose_5 : decode cX11_choose 5 = .ok (.invokestatic 89, 3) := by decide +kernel
theorem dX11_choose_8 : decode cX11_choose 8 = .ok (.ifCond .ne 5, 3) := by decide +kernel
theorem dX11_choose_11 : decode cX11_choose 11 = .ok (.iconst (-1), 1) := by decide +kernel
theorem dX11_choose_12 : decode cX11_choose 12 = .ok (.ireturn, 1) := by decide +kernel
theorem dX11_choose_13 : decode cX11_choose 13 = .ok (.aload_n 0, 1) := by decide +kernel
theorem dX11_choose_14 : decode cX11_choose 14 = .ok (.invokevirtual 211, 3) := by decide +kernel
theorem dX11_choose_17 : decode cX11_choose 17 = .ok (.iconst 0, 1) := by decide +kernel
theorem dX11_choose_18 : decode cX11_choose 18 = .ok (.istore_n 2, 1) := by decide +kernel
theorem dX11_choose_19 : decode cX11_choose 19 = .ok (.aload_n 0, 1) := by decide +kernel
theorem dX11_choose_20 : decode cX11_choose 20 = .ok (.iconst 0, 1) := by decide +kernel
theorem dX11_choose_21 : decode cX11_choose 21 = .ok (.invokevirtual 214, 3) := by decide +kernel
theorem dX11_choose_24 : decode cX11_choose 24 = .ok (.lstore_n 3, 1) := by decide +kernel
theorem dX11_choose_25 : decode cX11_choose 25 = .ok (.iconst 1, 1) := by decide +kernel
theorem dX11_choose_26 : decode cX11_choose 26 = .ok (.istore 5, 2) := by decide +kernel
theorem dX11_choose_28 : decode cX11_choose 28 = .ok (.iload 5, 2) := by decide +kernel
theorem dX11_choose_30 : decode cX11_choose 30 = .ok (.iconst 1, 1) := by decide +kernel
theorem dX11_choose_31 : decode cX11_choose 31 = .ok (.aload_n 0, 1) := by decide +kernel
theorem dX11_choose_32 : decode cX11_choose 32 = .ok (.getfield 123, 3) := by decide +kernel
theorem dX11_choose_35 : decode cX11_choose 35 = .ok (.ishl, 1) := by decide +kernel
theorem dX11_choose_36 : decode cX11_choose 36 = .ok (.if_icmp .ge 71, 3) := by decide +kernel
theorem dX11_choose_39 : decode cX11_choose 39 = .ok (.aload_n 0, 1) := by decide +kernel
theorem dX11_choose_40 : decode cX11_choose 40 = .ok (.iload 5, 2) := by decide +kernel
theorem dX11_choose_42 : decode cX11_choose 42 = .ok (.invokevirtual 143, 3) := by decide +kernel
theorem dX11_choose_45 : decode cX11_choose 45 = .ok (.ifCond .eq 56, 3) := by decide +kernel
theorem dX11_choose_48 : decode cX11_choose 48 = .ok (.aload_n 0, 1) := by decide +kernel
theorem dX11_choose_49 : decode cX11_choose 49 = .ok (.iload 5, 2) := by decide +kernel
theorem dX11_choose_51 : decode cX11_choose 51 = .ok (.invokevirtual 208, 3) := by decide +kernel
theorem dX11_choose_54 : decode cX11_choose 54 = .ok (.iload_n 1, 1) := by decide +kernel
theorem dX11_choose_55 : decode cX11_choose 55 = .ok (.if_icmp .le 6, 3) := by decide +kernel
theorem dX11_choose_58 : decode cX11_choose 58 = .ok (.goto 43, 3) := by decide +kernel
theorem dX11_choose_61 : decode cX11_choose 61 = .ok (.aload_n 0, 1) := by decide +kernel
theorem dX11_choose_62 : decode cX11_choose 62 = .ok (.iload 5, 2) := by decide +kernel
theorem dX11_choose_64 : decode cX11_choose 64 = .ok (.invokevirtual 214, 3) := by decide +kernel
theorem dX11_choose_67 : decode cX11_choose 67 = .ok (.lstore 6, 2) := by decide +kernel
theorem dX11_choose_69 : decode cX11_choose 69 = .ok (.lload 6, 2) := by decide +kernel
theorem dX11_choose_71 : decode cX11_choose 71 = .ok (.lload_n 3, 1) := by decide +kernel
theorem dX11_choose_72 : decode cX11_choose 72 = .ok (.lcmp, 1) := by decide +kernel
theorem dX11_choose_73 : decode cX11_choose 73 = .ok (.ifCond .gt 28, 3) := by decide +kernel
theorem dX11_choose_76 : decode cX11_choose 76 = .ok (.lload 6, 2) := by decide +kernel
theorem dX11_choose_78 : decode cX11_choose 78 = .ok (.lload_n 3, 1) := by decide +kernel
theorem dX11_choose_79 : decode cX11_choose 79 = .ok (.lcmp, 1) := by decide +kernel
theorem dX11_choose_80 : decode cX11_choose 80 = .ok (.ifCond .ne 15, 3) := by decide +kernel
theorem dX11_choose_83 : decode cX11_choose 83 = .ok (.iload 5, 2) := by decide +kernel
theorem dX11_choose_85 : decode cX11_choose 85 = .ok (.iload_n 2, 1) := by decide +kernel
theorem dX11_choose_86 : decode cX11_choose 86 = .ok (.invokestatic 217, 3) := by decide +kernel
theorem dX11_choose_89 : decode cX11_choose 89 = .ok (.ifCond .ne 6, 3) := by decide +kernel
theorem dX11_choose_92 : decode cX11_choose 92 = .ok (.goto 9, 3) := by decide +kernel
theorem dX11_choose_95 : decode cX11_choose 95 = .ok (.iload 5, 2) := by decide +kernel
theorem dX11_choose_97 : decode cX11_choose 97 = .ok (.istore_n 2, 1) := by decide +kernel
theorem dX11_choose_98 : decode cX11_choose 98 = .ok (.lload 6, 2) := by decide +kernel
theorem dX11_choose_100 : decode cX11_choose 100 = .ok (.lstore_n 3, 1) := by decide +kernel
theorem dX11_choose_101 : decode cX11_choose 101 = .ok (.iinc 5 1, 3) := by decide +kernel
theorem dX11_choose_104 : decode cX11_choose 104 = .ok (.goto (-76), 3) := by decide +kernel
theorem dX11_choose_107 : decode cX11_choose 107 = .ok (.iload_n 2, 1) := by decide +kernel
theorem dX11_choose_108 : decode cX11_choose 108 = .ok (.ireturn, 1) := by decide +kernel
theorem dX11_greedy_0 : decode cX11_greedy 0 = .ok (.iload_n 1, 1) := by decide +kernel
theorem dX11_greedy_1 : decode cX11_greedy 1 = .ok (.iconst 0, 1) := by decide +kernel
theorem dX11_greedy_2 : decode cX11_greedy 2 = .ok (.sipush 10000, 3) := by decide +kernel
theorem dX11_greedy_5 : decode cX11_greedy 5 = .ok (.invokestatic 89, 3) := by decide +kernel
theorem dX11_greedy_8 : decode cX11_greedy 8 = .ok (.ifCond .ne 5, 3) := by decide +kernel
theorem dX11_greedy_11 : decode cX11_greedy 11 = .ok (.iconst (-1), 1) := by decide +kernel
theorem dX11_greedy_12 : decode cX11_greedy 12 = .ok (.ireturn, 1) := by decide +kernel
theorem dX11_greedy_13 : decode cX11_greedy 13 = .ok (.aload_n 0, 1) := by decide +kernel
theorem dX11_greedy_14 : decode cX11_greedy 14 = .ok (.invokevirtual 211, 3) := by decide +kernel
theorem dX11_greedy_17 : decode cX11_greedy 17 = .ok (.iconst 0, 1) := by decide +kernel
theorem dX11_greedy_18 : decode cX11_greedy 18 = .ok (.istore_n 2, 1) := by decide +kernel
theorem dX11_greedy_19 : decode cX11_greedy 19 = .ok (.iconst 1, 1) := by decide +kernel
theorem dX11_greedy_20 : decode cX11_greedy 20 = .ok (.istore_n 3, 1) := by decide +kernel
theorem dX11_greedy_21 : decode cX11_greedy 21 = .ok (.iload_n 3, 1) := by decide +kernel
theorem dX11_greedy_22 : decode cX11_greedy 22 = .ok (.ifCond .eq 171, 3) := by decide +kernel
theorem dX11_greedy_25 : decode cX11_greedy 25 = .ok (.aload_n 0, 1) := by decide +kernel
theorem dX11_greedy_26 : decode cX11_greedy 26 = .ok (.iload_n 2, 1) := by decide +kernel
theorem dX11_greedy_27 : decode cX11_greedy 27 = .ok (.invokevirtual 214, 3) := by decide +kernel
theorem dX11_greedy_30 : decode cX11_greedy 30 = .ok (.lstore 4, 2) := by decide +kernel
theorem dX11_greedy_32 : decode cX11_greedy 32 = .ok (.iconst (-1), 1) := by decide +kernel
theorem dX11_greedy_33 : decode cX11_greedy 33 = .ok (.istore 6, 2) := by decide +kernel
theorem dX11_greedy_35 : decode cX11_greedy 35 = .ok (.lconst 0, 1) := by decide +kernel
theorem dX11_greedy_36 : decode cX11_greedy 36 = .ok (.lstore 7, 2) := by decide +kernel
theorem dX11_greedy_38 : decode cX11_greedy 38 = .ok (.iconst 0, 1) := by decide +kernel
theorem dX11_greedy_39 : decode cX11_greedy 39 = .ok (.istore 9, 2) := by decide +kernel
theorem dX11_greedy_41 : decode cX11_greedy 41 = .ok (.iload 9, 2) := by decide +kernel
theorem dX11_greedy_43 : decode cX11_greedy 43 = .ok (.aload_n 0, 1) := by decide +kernel
theorem dX11_greedy_44 : decode cX11_greedy 44 = .ok (.getfield 123, 3) := by decide +kernel
theorem dX11_greedy_47 : decode cX11_greedy 47 = .ok (.if_icmp .ge 120, 3) := by decide +kernel
theorem dX11_greedy_50 : decode cX11_greedy 50 = .ok (.iload_n 2, 1) := by decide +kernel
theorem dX11_greedy_51 : decode cX11_greedy 51 = .ok (.iload 9, 2) := by decide +kernel
theorem dX11_greedy_53 : decode cX11_greedy 53 = .ok (.invokestatic 97, 3) := by decide +kernel
theorem dX11_greedy_56 : decode cX11_greedy 56 = .ok (.ifCond .ne 105, 3) := by decide +kernel
theorem dX11_greedy_59 : decode cX11_greedy 59 = .ok (.aload_n 0, 1) := by decide +kernel
theorem dX11_greedy_60 : decode cX11_greedy 60 = .ok (.iload_n 2, 1) := by decide +kernel
theorem dX11_greedy_61 : decode cX11_greedy 61 = .ok (.iconst 1, 1) := by decide +kernel
theorem dX11_greedy_62 : decode cX11_greedy 62 = .ok (.iload 9, 2) := by decide +kernel
theorem dX11_greedy_64 : decode cX11_greedy 64 = .ok (.ishl, 1) := by decide +kernel
theorem dX11_greedy_65 : decode cX11_greedy 65 = .ok (.ior, 1) := by decide +kernel
theorem dX11_greedy_66 : decode cX11_greedy 66 = .ok (.invokevirtual 143, 3) := by decide +kernel
theorem dX11_greedy_69 : decode cX11_greedy 69 = .ok (.ifCond .eq 92, 3) := by decide +kernel
theorem dX11_greedy_72 : decode cX11_greedy 72 = .ok (.aload_n 0, 1) := by decide +kernel
theorem dX11_greedy_73 : decode cX11_greedy 73 = .ok (.iload_n 2, 1) := by decide +kernel
theorem dX11_greedy_74 : decode cX11_greedy 74 = .ok (.iconst 1, 1) := by decide +kernel
theorem dX11_greedy_75 : decode cX11_greedy 75 = .ok (.iload 9, 2) := by decide +kernel
theorem dX11_greedy_77 : decode cX11_greedy 77 = .ok (.ishl, 1) := by decide +kernel
theorem dX11_greedy_78 : decode cX11_greedy 78 = .ok (.ior, 1) := by decide +kernel
theorem dX11_greedy_79 : decode cX11_greedy 79 = .ok (.invokevirtual 208, 3) := by decide +kernel
theorem dX11_greedy_82 : decode cX11_greedy 82 = .ok (.iload_n 1, 1) := by decide +kernel
theorem dX11_greedy_83 : decode cX11_greedy 83 = .ok (.if_icmp .le 6, 3) := by decide +kernel
theorem dX11_greedy_86 : decode cX11_greedy 86 = .ok (.goto 75, 3) := by decide +kernel
theorem dX11_greedy_89 : decode cX11_greedy 89 = .ok (.lload 4, 2) := by decide +kernel
theorem dX11_greedy_91 : decode cX11_greedy 91 = .ok (.aload_n 0, 1) := by decide +kernel
theorem dX11_greedy_92 : decode cX11_greedy 92 = .ok (.iload_n 2, 1) := by decide +kernel
theorem dX11_greedy_93 : decode cX11_greedy 93 = .ok (.iconst 1, 1) := by decide +kernel
theorem dX11_greedy_94 : decode cX11_greedy 94 = .ok (.iload 9, 2) := by decide +kernel
theorem dX11_greedy_96 : decode cX11_greedy 96 = .ok (.ishl, 1) := by decide +kernel
theorem dX11_greedy_97 : decode cX11_greedy 97 = .ok (.ior, 1) := by decide +kernel
theorem dX11_greedy_98 : decode cX11_greedy 98 = .ok (.invokevirtual 214, 3) := by decide +kernel
theorem dX11_greedy_101 : decode cX11_greedy 101 = .ok (.lsub, 1) := by decide +kernel
theorem dX11_greedy_102 : decode cX11_greedy 102 = .ok (.lstore 10, 2) := by decide +kernel
theorem dX11_greedy_104 : decode cX11_greedy 104 = .ok (.lload 10, 2) := by decide +kernel
theorem dX11_greedy_106 : decode cX11_greedy 106 = .ok (.lconst 0, 1) := by decide +kernel
theorem dX11_greedy_107 : decode cX11_greedy 107 = .ok (.lcmp, 1) := by decide +kernel
theorem dX11_greedy_108 : decode cX11_greedy 108 = .ok (.ifCond .le 53, 3) := by decide +kernel
theorem dX11_greedy_111 : decode cX11_greedy 111 = .ok (.iload 6, 2) := by decide +kernel
theorem dX11_greedy_113 : decode cX11_greedy 113 = .ok (.iconst (-1), 1) := by decide +kernel
theorem dX11_greedy_114 : decode cX11_greedy 114 = .ok (.if_icmp .eq 39, 3) := by decide +kernel
theorem dX11_greedy_117 : decode cX11_greedy 117 = .ok (.lload 10, 2) := by decide +kernel
theorem dX11_greedy_119 : decode cX11_greedy 119 = .ok (.lload 7, 2) := by decide +kernel
theorem dX11_greedy_121 : decode cX11_greedy 121 = .ok (.lcmp, 1) := by decide +kernel
theorem dX11_greedy_122 : decode cX11_greedy 122 = .ok (.ifCond .lt 39, 3) := by decide +kernel
theorem dX11_greedy_125 : decode cX11_greedy 125 = .ok (.lload 10, 2) := by decide +kernel
theorem dX11_greedy_127 : decode cX11_greedy 127 = .ok (.lload 7, 2) := by decide +kernel
theorem dX11_greedy_129 : decode cX11_greedy 129 = .ok (.lcmp, 1) := by decide +kernel
theorem dX11_greedy_130 : decode cX11_greedy 130 = .ok (.ifCond .ne 23, 3) := by decide +kernel
theorem dX11_greedy_133 : decode cX11_greedy 133 = .ok (.aload_n 0, 1) := by decide +kernel
theorem dX11_greedy_134 : decode cX11_greedy 134 = .ok (.getfield 86, 3) := by decide +kernel
theorem dX11_greedy_137 : decode cX11_greedy 137 = .ok (.iload 9, 2) := by decide +kernel
theorem dX11_greedy_139 : decode cX11_greedy 139 = .ok (.iaload, 1) := by decide +kernel
theorem dX11_greedy_140 : decode cX11_greedy 140 = .ok (.aload_n 0, 1) := by decide +kernel
theorem dX11_greedy_141 : decode cX11_greedy 141 = .ok (.getfield 86, 3) := by decide +kernel
theorem dX11_greedy_144 : decode cX11_greedy 144 = .ok (.iload 6, 2) := by decide +kernel
theorem dX11_greedy_146 : decode cX11_greedy 146 = .ok (.iaload, 1) := by decide +kernel
theorem dX11_greedy_147 : decode cX11_greedy 147 = .ok (.if_icmp .lt 6, 3) := by decide +kernel
theorem dX11_greedy_150 : decode cX11_greedy 150 = .ok (.goto 11, 3) := by decide +kernel
theorem dX11_greedy_153 : decode cX11_greedy 153 = .ok (.iload 9, 2) := by decide +kernel
theorem dX11_greedy_155 : decode cX11_greedy 155 = .ok (.istore 6, 2) := by decide +kernel
theorem dX11_greedy_157 : decode cX11_greedy 157 = .ok (.lload 10, 2) := by decide +kernel
theorem dX11_greedy_159 : decode cX11_greedy 159 = .ok (.lstore 7, 2) := by decide +kernel
theorem dX11_greedy_161 : decode cX11_greedy 161 = .ok (.iinc 9 1, 3) := by decide +kernel
theorem dX11_greedy_164 : decode cX11_greedy 164 = .ok (.goto (-123), 3) := by decide +kernel
theorem dX11_greedy_167 : decode cX11_greedy 167 = .ok (.iload 6, 2) := by decide +kernel
theorem dX11_greedy_169 : decode cX11_greedy 169 = .ok (.iconst (-1), 1) := by decide +kernel
theorem dX11_greedy_170 : decode cX11_greedy 170 = .ok (.if_icmp .eq 7, 3) := by decide +kernel
theorem dX11_greedy_173 : decode cX11_greedy 173 = .ok (.iconst 1, 1) := by decide +kernel
theorem dX11_greedy_174 : decode cX11_greedy 174 = .ok (.goto 4, 3) := by decide +kernel
theorem dX11_greedy_177 : decode cX11_greedy 177 = .ok (.iconst 0, 1) := by decide +kernel
theorem dX11_greedy_178 : decode cX11_greedy 178 = .ok (.istore_n 3, 1) := by decide +kernel
theorem dX11_greedy_179 : decode cX11_greedy 179 = .ok (.iload_n 3, 1) := by decide +kernel
theorem dX11_greedy_180 : decode cX11_greedy 180 = .ok (.ifCond .eq 10, 3) := by decide +kernel
theorem dX11_greedy_183 : decode cX11_greedy 183 = .ok (.iload_n 2, 1) := by decide +kernel
theorem dX11_greedy_184 : decode cX11_greedy 184 = .ok (.iconst 1, 1) := by decide +kernel
theorem dX11_greedy_185 : decode cX11_greedy 185 = .ok (.iload 6, 2) := by decide +kernel
theorem dX11_greedy_187 : decode cX11_greedy 187 = .ok (.ishl, 1) := by decide +kernel
theorem dX11_greedy_188 : decode cX11_greedy 188 = .ok (.ior, 1) := by decide +kernel
theorem dX11_greedy_189 : decode cX11_greedy 189 = .ok (.istore_n 2, 1) := by decide +kernel
theorem dX11_greedy_190 : decode cX11_greedy 190 = .ok (.goto (-169), 3) := by decide +kernel
theorem dX11_greedy_193 : decode cX11_greedy 193 = .ok (.iload_n 2, 1) := by decide +kernel
theorem dX11_greedy_194 : decode cX11_greedy 194 = .ok (.ireturn, 1) := by decide +kernel
theorem dX11_count_0 : decode cX11_count 0 = .ok (.iconst 0, 1) := by decide +kernel
theorem dX11_count_1 : decode cX11_count 1 = .ok (.istore_n 2, 1) := by decide +kernel
theorem dX11_count_2 : decode cX11_count 2 = .ok (.iload_n 1, 1) := by decide +kernel
theorem dX11_count_3 : decode cX11_count 3 = .ok (.tableswitch 95 0 3 #[29, 61, 66, 71], 29) := by decide +kernel
theorem dX11_count_32 : decode cX11_count 32 = .ok (.iconst 0, 1) := by decide +kernel
theorem dX11_count_33 : decode cX11_count 33 = .ok (.istore_n 3, 1) := by decide +kernel
theorem dX11_count_34 : decode cX11_count 34 = .ok (.iload_n 3, 1) := by decide +kernel
theorem dX11_count_35 : decode cX11_count 35 = .ok (.iconst 4, 1) := by decide +kernel
theorem dX11_count_36 : decode cX11_count 36 = .ok (.if_icmp .ge 26, 3) := by decide +kernel
theorem dX11_count_39 : decode cX11_count 39 = .ok (.iload_n 2, 1) := by decide +kernel
theorem dX11_count_40 : decode cX11_count 40 = .ok (.aload_n 0, 1) := by decide +kernel
theorem dX11_count_41 : decode cX11_count 41 = .ok (.getfield 7, 3) := by decide +kernel
theorem dX11_count_44 : decode cX11_count 44 = .ok (.iload_n 3, 1) := by decide +kernel
theorem dX11_count_45 : decode cX11_count 45 = .ok (.iaload, 1) := by decide +kernel
theorem dX11_count_46 : decode cX11_count 46 = .ok (.ifCond .le 7, 3) := by decide +kernel
theorem dX11_count_49 : decode cX11_count 49 = .ok (.iconst 1, 1) := by decide +kernel
theorem dX11_count_50 : decode cX11_count 50 = .ok (.goto 4, 3) := by decide +kernel
theorem dX11_count_53 : decode cX11_count 53 = .ok (.iconst 0, 1) := by decide +kernel
theorem dX11_count_54 : decode cX11_count 54 = .ok (.iadd, 1) := by decide +kernel
theorem dX11_count_55 : decode cX11_count 55 = .ok (.istore_n 2, 1) := by decide +kernel
theorem dX11_count_56 : decode cX11_count 56 = .ok (.iinc 3 1, 3) := by decide +kernel
theorem dX11_count_59 : decode cX11_count 59 = .ok (.goto (-25), 3) := by decide +kernel
theorem dX11_count_62 : decode cX11_count 62 = .ok (.iload_n 2, 1) := by decide +kernel
theorem dX11_count_63 : decode cX11_count 63 = .ok (.ireturn, 1) := by decide +kernel
theorem dX11_count_64 : decode cX11_count 64 = .ok (.aload_n 0, 1) := by decide +kernel
theorem dX11_count_65 : decode cX11_count 65 = .ok (.getfield 116, 3) := by decide +kernel
theorem dX11_count_68 : decode cX11_count 68 = .ok (.ireturn, 1) := by decide +kernel
theorem dX11_count_69 : decode cX11_count 69 = .ok (.aload_n 0, 1) := by decide +kernel
theorem dX11_count_70 : decode cX11_count 70 = .ok (.getfield 123, 3) := by decide +kernel
theorem dX11_count_73 : decode cX11_count 73 = .ok (.ireturn, 1) := by decide +kernel
theorem dX11_count_74 : decode cX11_count 74 = .ok (.iconst 0, 1) := by decide +kernel
theorem dX11_count_75 : decode cX11_count 75 = .ok (.istore_n 3, 1) := by decide +kernel
theorem dX11_count_76 : decode cX11_count 76 = .ok (.iload_n 3, 1) := by decide +kernel
theorem dX11_count_77 : decode cX11_count 77 = .ok (.iconst 4, 1) := by decide +kernel
theorem dX11_count_78 : decode cX11_count 78 = .ok (.if_icmp .ge 18, 3) := by decide +kernel
theorem dX11_count_81 : decode cX11_count 81 = .ok (.iload_n 2, 1) := by decide +kernel
theorem dX11_count_82 : decode cX11_count 82 = .ok (.aload_n 0, 1) := by decide +kernel
theorem dX11_count_83 : decode cX11_count 83 = .ok (.getfield 16, 3) := by decide +kernel
theorem dX11_count_86 : decode cX11_count 86 = .ok (.iload_n 3, 1) := by decide +kernel
theorem dX11_count_87 : decode cX11_count 87 = .ok (.iaload, 1) := by decide +kernel
theorem dX11_count_88 : decode cX11_count 88 = .ok (.iadd, 1) := by decide +kernel
theorem dX11_count_89 : decode cX11_count 89 = .ok (.istore_n 2, 1) := by decide +kernel
theorem dX11_count_90 : decode cX11_count 90 = .ok (.iinc 3 1, 3) := by decide +kernel
theorem dX11_count_93 : decode cX11_count 93 = .ok (.goto (-17), 3) := by decide +kernel
theorem dX11_count_96 : decode cX11_count 96 = .ok (.iload_n 2, 1) := by decide +kernel
theorem dX11_count_97 : decode cX11_count 97 = .ok (.ireturn, 1) := by decide +kernel
theorem dX11_count_98 : decode cX11_count 98 = .ok (.iconst (-1), 1) := by decide +kernel
theorem dX11_count_99 : decode cX11_count 99 = .ok (.ireturn, 1) := by decide +kernel
theorem dJ6_bitCount_0f7a4_0 : decode cJ6_bitCount_0f7a4 0 = .ok (.iload_n 0, 1) := by decide +kernel
theorem dJ6_bitCount_0f7a4_1 : decode cJ6_bitCount_0f7a4 1 = .ok (.iload_n 0, 1) := by decide +kernel
theorem dJ6_bitCount_0f7a4_2 : decode cJ6_bitCount_0f7a4 2 = .ok (.iconst 1, 1) := by decide +kernel
theorem dJ6_bitCount_0f7a4_3 : decode cJ6_bitCount_0f7a4 3 = .ok (.iushr, 1) := by decide +kernel
theorem dJ6_bitCount_0f7a4_4 : decode cJ6_bitCount_0f7a4 4 = .ok (.ldc_w 265, 3) := by decide +kernel
theorem dJ6_bitCount_0f7a4_7 : decode cJ6_bitCount_0f7a4 7 = .ok (.iand, 1) := by decide +kernel
theorem dJ6_bitCount_0f7a4_8 : decode cJ6_bitCount_0f7a4 8 = .ok (.isub, 1) := by decide +kernel
theorem dJ6_bitCount_0f7a4_9 : decode cJ6_bitCount_0f7a4 9 = .ok (.istore_n 0, 1) := by decide +kernel
theorem dJ6_bitCount_0f7a4_10 : decode cJ6_bitCount_0f7a4 10 = .ok (.iload_n 0, 1) := by decide +kernel
theorem dJ6_bitCount_0f7a4_11 : decode cJ6_bitCount_0f7a4 11 = .ok (.ldc_w 266, 3) := by decide +kernel
theorem dJ6_bitCount_0f7a4_14 : decode cJ6_bitCount_0f7a4 14 = .ok (.iand, 1) := by decide +kernel
theorem dJ6_bitCount_0f7a4_15 : decode cJ6_bitCount_0f7a4 15 = .ok (.iload_n 0, 1) := by decide +kernel
theorem dJ6_bitCount_0f7a4_16 : decode cJ6_bitCount_0f7a4 16 = .ok (.iconst 2, 1) := by decide +kernel
theorem dJ6_bitCount_0f7a4_17 : decode cJ6_bitCount_0f7a4 17 = .ok (.iushr, 1) := by decide +kernel
theorem dJ6_bitCount_0f7a4_18 : decode cJ6_bitCount_0f7a4 18 = .ok (.ldc_w 266, 3) := by decide +kernel
theorem dJ6_bitCount_0f7a4_21 : decode cJ6_bitCount_0f7a4 21 = .ok (.iand, 1) := by decide +kernel
theorem dJ6_bitCount_0f7a4_22 : decode cJ6_bitCount_0f7a4 22 = .ok (.iadd, 1) := by decide +kernel
theorem dJ6_bitCount_0f7a4_23 : decode cJ6_bitCount_0f7a4 23 = .ok (.istore_n 0, 1) := by decide +kernel
theorem dJ6_bitCount_0f7a4_24 : decode cJ6_bitCount_0f7a4 24 = .ok (.iload_n 0, 1) := by decide +kernel
theorem dJ6_bitCount_0f7a4_25 : decode cJ6_bitCount_0f7a4 25 = .ok (.iload_n 0, 1) := by decide +kernel
theorem dJ6_bitCount_0f7a4_26 : decode cJ6_bitCount_0f7a4 26 = .ok (.iconst 4, 1) := by decide +kernel
theorem dJ6_bitCount_0f7a4_27 : decode cJ6_bitCount_0f7a4 27 = .ok (.iushr, 1) := by decide +kernel
theorem dJ6_bitCount_0f7a4_28 : decode cJ6_bitCount_0f7a4 28 = .ok (.iadd, 1) := by decide +kernel
theorem dJ6_bitCount_0f7a4_29 : decode cJ6_bitCount_0f7a4 29 = .ok (.ldc_w 267, 3) := by decide +kernel
theorem dJ6_bitCount_0f7a4_32 : decode cJ6_bitCount_0f7a4 32 = .ok (.iand, 1) := by decide +kernel
theorem dJ6_bitCount_0f7a4_33 : decode cJ6_bitCount_0f7a4 33 = .ok (.istore_n 0, 1) := by decide +kernel
theorem dJ6_bitCount_0f7a4_34 : decode cJ6_bitCount_0f7a4 34 = .ok (.iload_n 0, 1) := by decide +kernel
theorem dJ6_bitCount_0f7a4_35 : decode cJ6_bitCount_0f7a4 35 = .ok (.iload_n 0, 1) := by decide +kernel
theorem dJ6_bitCount_0f7a4_36 : decode cJ6_bitCount_0f7a4 36 = .ok (.bipush 8, 2) := by decide +kernel
theorem dJ6_bitCount_0f7a4_38 : decode cJ6_bitCount_0f7a4 38 = .ok (.iushr, 1) := by decide +kernel
theorem dJ6_bitCount_0f7a4_39 : decode cJ6_bitCount_0f7a4 39 = .ok (.iadd, 1) := by decide +kernel
theorem dJ6_bitCount_0f7a4_40 : decode cJ6_bitCount_0f7a4 40 = .ok (.istore_n 0, 1) := by decide +kernel
theorem dJ6_bitCount_0f7a4_41 : decode cJ6_bitCount_0f7a4 41 = .ok (.iload_n 0, 1) := by decide +kernel
theorem dJ6_bitCount_0f7a4_42 : decode cJ6_bitCount_0f7a4 42 = .ok (.iload_n 0, 1) := by decide +kernel
theorem dJ6_bitCount_0f7a4_43 : decode cJ6_bitCount_0f7a4 43 = .ok (.bipush 16, 2) := by decide +kernel
theorem dJ6_bitCount_0f7a4_45 : decode cJ6_bitCount_0f7a4 45 = .ok (.iushr, 1) := by decide +kernel
theorem dJ6_bitCount_0f7a4_46 : decode cJ6_bitCount_0f7a4 46 = .ok (.iadd, 1) := by decide +kernel
theorem dJ6_bitCount_0f7a4_47 : decode cJ6_bitCount_0f7a4 47 = .ok (.istore_n 0, 1) := by decide +kernel
theorem dJ6_bitCount_0f7a4_48 : decode cJ6_bitCount_0f7a4 48 = .ok (.iload_n 0, 1) := by decide +kernel
theorem dJ6_bitCount_0f7a4_49 : decode cJ6_bitCount_0f7a4 49 = .ok (.bipush 63, 2) := by decide +kernel
theorem dJ6_bitCount_0f7a4_51 : decode cJ6_bitCount_0f7a4 51 = .ok (.iand, 1) := by decide +kernel
theorem dJ6_bitCount_0f7a4_52 : decode cJ6_bitCount_0f7a4 52 = .ok (.ireturn, 1) := by decide +kernel
theorem dJ9_max_7cf53_0 : decode cJ9_max_7cf53 0 = .ok (.iload_n 0, 1) := by decide +kernel
theorem dJ9_max_7cf53_1 : decode cJ9_max_7cf53 1 = .ok (.iload_n 1, 1) := by decide +kernel
theorem dJ9_max_7cf53_2 : decode cJ9_max_7cf53 2 = .ok (.if_icmp .lt 7, 3) := by decide +kernel
theorem dJ9_max_7cf53_5 : decode cJ9_max_7cf53 5 = .ok (.iload_n 0, 1) := by decide +kernel
theorem dJ9_max_7cf53_6 : decode cJ9_max_7cf53 6 = .ok (.goto 4, 3) := by decide +kernel
theorem dJ9_max_7cf53_9 : decode cJ9_max_7cf53 9 = .ok (.iload_n 1, 1) := by decide +kernel
theorem dJ9_max_7cf53_10 : decode cJ9_max_7cf53 10 = .ok (.ireturn, 1) := by decide +kernel
theorem dJ9_min_7cf53_0 : decode cJ9_min_7cf53 0 = .ok (.iload_n 0, 1) := by decide +kernel
theorem dJ9_min_7cf53_1 : decode cJ9_min_7cf53 1 = .ok (.iload_n 1, 1) := by decide +kernel
theorem dJ9_min_7cf53_2 : decode cJ9_min_7cf53 2 = .ok (.if_icmp .gt 7, 3) := by decide +kernel
theorem dJ9_min_7cf53_5 : decode cJ9_min_7cf53 5 = .ok (.iload_n 0, 1) := by decide +kernel
theorem dJ9_min_7cf53_6 : decode cJ9_min_7cf53 6 = .ok (.goto 4, 3) := by decide +kernel
theorem dJ9_min_7cf53_9 : decode cJ9_min_7cf53 9 = .ok (.iload_n 1, 1) := by decide +kernel
theorem dJ9_min_7cf53_10 : decode cJ9_min_7cf53 10 = .ok (.ireturn, 1) := by decide +kernel
theorem dJxa1e45_init_da8c8_0 : decode cJxa1e45_init_da8c8 0 = .ok (.aload_n 0, 1) := by decide +kernel
theorem dJxa1e45_init_da8c8_1 : decode cJxa1e45_init_da8c8 1 = .ok (.invokespecial 1, 3) := by decide +kernel
theorem dJxa1e45_init_da8c8_4 : decode cJxa1e45_init_da8c8 4 = .ok (.return_, 1) := by decide +kernel
theorem dJxc12de_init_da8c8_0 : decode cJxc12de_init_da8c8 0 = .ok (.aload_n 0, 1) := by decide +kernel
theorem dJxc12de_init_da8c8_1 : decode cJxc12de_init_da8c8 1 = .ok (.invokespecial 1, 3) := by decide +kernel
theorem dJxc12de_init_da8c8_4 : decode cJxc12de_init_da8c8 4 = .ok (.aload_n 0, 1) := by decide +kernel
theorem dJxc12de_init_da8c8_5 : decode cJxc12de_init_da8c8 5 = .ok (.iconst 0, 1) := by decide +kernel
theorem dJxc12de_init_da8c8_6 : decode cJxc12de_init_da8c8 6 = .ok (.putfield 7, 3) := by decide +kernel
theorem dJxc12de_init_da8c8_9 : decode cJxc12de_init_da8c8 9 = .ok (.return_, 1) := by decide +kernel
theorem dJx4a65c_init_da8c8_0 : decode cJx4a65c_init_da8c8 0 = .ok (.aload_n 0, 1) := by decide +kernel
theorem dJx4a65c_init_da8c8_1 : decode cJx4a65c_init_da8c8 1 = .ok (.invokespecial 1, 3) := by decide +kernel
theorem dJx4a65c_init_da8c8_4 : decode cJx4a65c_init_da8c8 4 = .ok (.aload_n 0, 1) := by decide +kernel
theorem dJx4a65c_init_da8c8_5 : decode cJx4a65c_init_da8c8 5 = .ok (.getstatic 39, 3) := by decide +kernel
theorem dJx4a65c_init_da8c8_8 : decode cJx4a65c_init_da8c8 8 = .ok (.putfield 9, 3) := by decide +kernel
theorem dJx4a65c_init_da8c8_11 : decode cJx4a65c_init_da8c8 11 = .ok (.return_, 1) := by decide +kernel
theorem dJx4a65c_grow_92f84_0 : decode cJx4a65c_grow_92f84 0 = .ok (.aload_n 0, 1) := by decide +kernel
theorem dJx4a65c_grow_92f84_1 : decode cJx4a65c_grow_92f84 1 = .ok (.getfield 9, 3) := by decide +kernel
theorem dJx4a65c_grow_92f84_4 : decode cJx4a65c_grow_92f84 4 = .ok (.arraylength, 1) := by decide +kernel
theorem dJx4a65c_grow_92f84_5 : decode cJx4a65c_grow_92f84 5 = .ok (.istore_n 2, 1) := by decide +kernel
theorem dJx4a65c_grow_92f84_6 : decode cJx4a65c_grow_92f84 6 = .ok (.iload_n 2, 1) := by decide +kernel
theorem dJx4a65c_grow_92f84_7 : decode cJx4a65c_grow_92f84 7 = .ok (.ifCond .gt 13, 3) := by decide +kernel
theorem dJx4a65c_grow_92f84_10 : decode cJx4a65c_grow_92f84 10 = .ok (.aload_n 0, 1) := by decide +kernel
theorem dJx4a65c_grow_92f84_11 : decode cJx4a65c_grow_92f84 11 = .ok (.getfield 9, 3) := by decide +kernel
theorem dJx4a65c_grow_92f84_14 : decode cJx4a65c_grow_92f84 14 = .ok (.getstatic 39, 3) := by decide +kernel
theorem dJx4a65c_grow_92f84_17 : decode cJx4a65c_grow_92f84 17 = .ok (.if_acmp .eq 28, 3) := by decide +kernel
theorem dJx4a65c_grow_92f84_20 : decode cJx4a65c_grow_92f84 20 = .ok (.iload_n 2, 1) := by decide +kernel
theorem dJx4a65c_grow_92f84_21 : decode cJx4a65c_grow_92f84 21 = .ok (.iload_n 1, 1) := by decide +kernel
theorem dJx4a65c_grow_92f84_22 : decode cJx4a65c_grow_92f84 22 = .ok (.iload_n 2, 1) := by decide +kernel
theorem dJx4a65c_grow_92f84_23 : decode cJx4a65c_grow_92f84 23 = .ok (.isub, 1) := by decide +kernel
theorem dJx4a65c_grow_92f84_24 : decode cJx4a65c_grow_92f84 24 = .ok (.iload_n 2, 1) := by decide +kernel
theorem dJx4a65c_grow_92f84_25 : decode cJx4a65c_grow_92f84 25 = .ok (.iconst 1, 1) := by decide +kernel
theorem dJx4a65c_grow_92f84_26 : decode cJx4a65c_grow_92f84 26 = .ok (.ishr, 1) := by decide +kernel
theorem dJx4a65c_grow_92f84_27 : decode cJx4a65c_grow_92f84 27 = .ok (.invokestatic 73, 3) := by decide +kernel
theorem dJx4a65c_grow_92f84_30 : decode cJx4a65c_grow_92f84 30 = .ok (.istore_n 3, 1) := by decide +kernel
theorem dJx4a65c_grow_92f84_31 : decode cJx4a65c_grow_92f84 31 = .ok (.aload_n 0, 1) := by decide +kernel
theorem dJx4a65c_grow_92f84_32 : decode cJx4a65c_grow_92f84 32 = .ok (.aload_n 0, 1) := by decide +kernel
theorem dJx4a65c_grow_92f84_33 : decode cJx4a65c_grow_92f84 33 = .ok (.getfield 9, 3) := by decide +kernel
theorem dJx4a65c_grow_92f84_36 : decode cJx4a65c_grow_92f84 36 = .ok (.iload_n 3, 1) := by decide +kernel
theorem dJx4a65c_grow_92f84_37 : decode cJx4a65c_grow_92f84 37 = .ok (.invokestatic 66, 3) := by decide +kernel
theorem dJx4a65c_grow_92f84_40 : decode cJx4a65c_grow_92f84 40 = .ok (.dup_x1, 1) := by decide +kernel
theorem dJx4a65c_grow_92f84_41 : decode cJx4a65c_grow_92f84 41 = .ok (.putfield 9, 3) := by decide +kernel
theorem dJx4a65c_grow_92f84_44 : decode cJx4a65c_grow_92f84 44 = .ok (.areturn, 1) := by decide +kernel
theorem dJx4a65c_grow_92f84_45 : decode cJx4a65c_grow_92f84 45 = .ok (.aload_n 0, 1) := by decide +kernel
theorem dJx4a65c_grow_92f84_46 : decode cJx4a65c_grow_92f84 46 = .ok (.bipush 10, 2) := by decide +kernel
theorem dJx4a65c_grow_92f84_48 : decode cJx4a65c_grow_92f84 48 = .ok (.iload_n 1, 1) := by decide +kernel
theorem dJx4a65c_grow_92f84_49 : decode cJx4a65c_grow_92f84 49 = .ok (.invokestatic 79, 3) := by decide +kernel
theorem dJx4a65c_grow_92f84_52 : decode cJx4a65c_grow_92f84 52 = .ok (.anewarray 7, 3) := by decide +kernel
theorem dJx4a65c_grow_92f84_55 : decode cJx4a65c_grow_92f84 55 = .ok (.dup_x1, 1) := by decide +kernel
theorem dJx4a65c_grow_92f84_56 : decode cJx4a65c_grow_92f84 56 = .ok (.putfield 9, 3) := by decide +kernel
theorem dJx4a65c_grow_92f84_59 : decode cJx4a65c_grow_92f84 59 = .ok (.areturn, 1) := by decide +kernel
theorem dJx4a65c_grow_d5877_0 : decode cJx4a65c_grow_d5877 0 = .ok (.aload_n 0, 1) := by decide +kernel
theorem dJx4a65c_grow_d5877_1 : decode cJx4a65c_grow_d5877 1 = .ok (.aload_n 0, 1) := by decide +kernel
theorem dJx4a65c_grow_d5877_2 : decode cJx4a65c_grow_d5877 2 = .ok (.getfield 48, 3) := by decide +kernel
theorem dJx4a65c_grow_d5877_5 : decode cJx4a65c_grow_d5877 5 = .ok (.iconst 1, 1) := by decide +kernel
theorem dJx4a65c_grow_d5877_6 : decode cJx4a65c_grow_d5877 6 = .ok (.iadd, 1) := by decide +kernel
theorem dJx4a65c_grow_d5877_7 : decode cJx4a65c_grow_d5877 7 = .ok (.invokevirtual 69, 3) := by decide +kernel
theorem dJx4a65c_grow_d5877_10 : decode cJx4a65c_grow_d5877 10 = .ok (.areturn, 1) := by decide +kernel
theorem dJx4a65c_size_8abf5_0 : decode cJx4a65c_size_8abf5 0 = .ok (.aload_n 0, 1) := by decide +kernel
theorem dJx4a65c_size_8abf5_1 : decode cJx4a65c_size_8abf5 1 = .ok (.getfield 48, 3) := by decide +kernel
theorem dJx4a65c_size_8abf5_4 : decode cJx4a65c_size_8abf5 4 = .ok (.ireturn, 1) := by decide +kernel
theorem dJx4a65c_elementData_915e3_0 : decode cJx4a65c_elementData_915e3 0 = .ok (.aload_n 0, 1) := by decide +kernel
theorem dJx4a65c_elementData_915e3_1 : decode cJx4a65c_elementData_915e3 1 = .ok (.getfield 9, 3) := by decide +kernel
theorem dJx4a65c_elementData_915e3_4 : decode cJx4a65c_elementData_915e3 4 = .ok (.iload_n 1, 1) := by decide +kernel
theorem dJx4a65c_elementData_915e3_5 : decode cJx4a65c_elementData_915e3 5 = .ok (.aaload, 1) := by decide +kernel
theorem dJx4a65c_elementData_915e3_6 : decode cJx4a65c_elementData_915e3 6 = .ok (.areturn, 1) := by decide +kernel
theorem dJx4a65c_get_915e3_0 : decode cJx4a65c_get_915e3 0 = .ok (.iload_n 1, 1) := by decide +kernel
theorem dJx4a65c_get_915e3_1 : decode cJx4a65c_get_915e3 1 = .ok (.aload_n 0, 1) := by decide +kernel
theorem dJx4a65c_get_915e3_2 : decode cJx4a65c_get_915e3 2 = .ok (.getfield 48, 3) := by decide +kernel
theorem dJx4a65c_get_915e3_5 : decode cJx4a65c_get_915e3 5 = .ok (.invokestatic 118, 3) := by decide +kernel
theorem dJx4a65c_get_915e3_8 : decode cJx4a65c_get_915e3 8 = .ok (.pop, 1) := by decide +kernel
theorem dJx4a65c_get_915e3_9 : decode cJx4a65c_get_915e3 9 = .ok (.aload_n 0, 1) := by decide +kernel
theorem dJx4a65c_get_915e3_10 : decode cJx4a65c_get_915e3 10 = .ok (.iload_n 1, 1) := by decide +kernel
theorem dJx4a65c_get_915e3_11 : decode cJx4a65c_get_915e3 11 = .ok (.invokevirtual 123, 3) := by decide +kernel
theorem dJx4a65c_get_915e3_14 : decode cJx4a65c_get_915e3 14 = .ok (.areturn, 1) := by decide +kernel
theorem dJx4a65c_add_72be8_0 : decode cJx4a65c_add_72be8 0 = .ok (.iload_n 3, 1) := by decide +kernel
theorem dJx4a65c_add_72be8_1 : decode cJx4a65c_add_72be8 1 = .ok (.aload_n 2, 1) := by decide +kernel
theorem dJx4a65c_add_72be8_2 : decode cJx4a65c_add_72be8 2 = .ok (.arraylength, 1) := by decide +kernel
theorem dJx4a65c_add_72be8_3 : decode cJx4a65c_add_72be8 3 = .ok (.if_icmp .ne 8, 3) := by decide +kernel
theorem dJx4a65c_add_72be8_6 : decode cJx4a65c_add_72be8 6 = .ok (.aload_n 0, 1) := by decide +kernel
theorem dJx4a65c_add_72be8_7 : decode cJx4a65c_add_72be8 7 = .ok (.invokevirtual 129, 3) := by decide +kernel
theorem dJx4a65c_add_72be8_10 : decode cJx4a65c_add_72be8 10 = .ok (.astore_n 2, 1) := by decide +kernel
theorem dJx4a65c_add_72be8_11 : decode cJx4a65c_add_72be8 11 = .ok (.aload_n 2, 1) := by decide +kernel
theorem dJx4a65c_add_72be8_12 : decode cJx4a65c_add_72be8 12 = .ok (.iload_n 3, 1) := by decide +kernel
theorem dJx4a65c_add_72be8_13 : decode cJx4a65c_add_72be8 13 = .ok (.aload_n 1, 1) := by decide +kernel
theorem dJx4a65c_add_72be8_14 : decode cJx4a65c_add_72be8 14 = .ok (.aastore, 1) := by decide +kernel
theorem dJx4a65c_add_72be8_15 : decode cJx4a65c_add_72be8 15 = .ok (.aload_n 0, 1) := by decide +kernel
theorem dJx4a65c_add_72be8_16 : decode cJx4a65c_add_72be8 16 = .ok (.iload_n 3, 1) := by decide +kernel
theorem dJx4a65c_add_72be8_17 : decode cJx4a65c_add_72be8 17 = .ok (.iconst 1, 1) := by decide +kernel
theorem dJx4a65c_add_72be8_18 : decode cJx4a65c_add_72be8 18 = .ok (.iadd, 1) := by decide +kernel
theorem dJx4a65c_add_72be8_19 : decode cJx4a65c_add_72be8 19 = .ok (.putfield 48, 3) := by decide +kernel
theorem dJx4a65c_add_72be8_22 : decode cJx4a65c_add_72be8 22 = .ok (.return_, 1) := by decide +kernel
theorem dJx4a65c_add_9ea2d_0 : decode cJx4a65c_add_9ea2d 0 = .ok (.aload_n 0, 1) := by decide +kernel
theorem dJx4a65c_add_9ea2d_1 : decode cJx4a65c_add_9ea2d 1 = .ok (.dup, 1) := by decide +kernel
theorem dJx4a65c_add_9ea2d_2 : decode cJx4a65c_add_9ea2d 2 = .ok (.getfield 63, 3) := by decide +kernel
theorem dJx4a65c_add_9ea2d_5 : decode cJx4a65c_add_9ea2d 5 = .ok (.iconst 1, 1) := by decide +kernel
theorem dJx4a65c_add_9ea2d_6 : decode cJx4a65c_add_9ea2d 6 = .ok (.iadd, 1) := by decide +kernel
theorem dJx4a65c_add_9ea2d_7 : decode cJx4a65c_add_9ea2d 7 = .ok (.putfield 63, 3) := by decide +kernel
theorem dJx4a65c_add_9ea2d_10 : decode cJx4a65c_add_9ea2d 10 = .ok (.aload_n 0, 1) := by decide +kernel
theorem dJx4a65c_add_9ea2d_11 : decode cJx4a65c_add_9ea2d 11 = .ok (.aload_n 1, 1) := by decide +kernel
theorem dJx4a65c_add_9ea2d_12 : decode cJx4a65c_add_9ea2d 12 = .ok (.aload_n 0, 1) := by decide +kernel
theorem dJx4a65c_add_9ea2d_13 : decode cJx4a65c_add_9ea2d 13 = .ok (.getfield 9, 3) := by decide +kernel
theorem dJx4a65c_add_9ea2d_16 : decode cJx4a65c_add_9ea2d 16 = .ok (.aload_n 0, 1) := by decide +kernel
theorem dJx4a65c_add_9ea2d_17 : decode cJx4a65c_add_9ea2d 17 = .ok (.getfield 48, 3) := by decide +kernel
theorem dJx4a65c_add_9ea2d_20 : decode cJx4a65c_add_9ea2d 20 = .ok (.invokevirtual 131, 3) := by decide +kernel
theorem dJx4a65c_add_9ea2d_23 : decode cJx4a65c_add_9ea2d 23 = .ok (.iconst 1, 1) := by decide +kernel
theorem dJx4a65c_add_9ea2d_24 : decode cJx4a65c_add_9ea2d 24 = .ok (.ireturn, 1) := by decide +kernel
theorem dJ7_copyOf_1904c_0 : decode cJ7_copyOf_1904c 0 = .ok (.aload_n 0, 1) := by decide +kernel
theorem dJ7_copyOf_1904c_1 : decode cJ7_copyOf_1904c 1 = .ok (.iload_n 1, 1) := by decide +kernel
theorem dJ7_copyOf_1904c_2 : decode cJ7_copyOf_1904c 2 = .ok (.aload_n 0, 1) := by decide +kernel
theorem dJ7_copyOf_1904c_3 : decode cJ7_copyOf_1904c 3 = .ok (.invokevirtual 86, 3) := by decide +kernel
theorem dJ7_copyOf_1904c_6 : decode cJ7_copyOf_1904c 6 = .ok (.invokestatic 300, 3) := by decide +kernel
theorem dJ7_copyOf_1904c_9 : decode cJ7_copyOf_1904c 9 = .ok (.areturn, 1) := by decide +kernel
theorem dJ7_copyOf_6403c_0 : decode cJ7_copyOf_6403c 0 = .ok (.aload_n 2, 1) := by decide +kernel
theorem dJ7_copyOf_6403c_1 : decode cJ7_copyOf_6403c 1 = .ok (.ldc 110, 2) := by decide +kernel
theorem dJ7_copyOf_6403c_3 : decode cJ7_copyOf_6403c 3 = .ok (.if_acmp .ne 10, 3) := by decide +kernel
theorem dJ7_copyOf_6403c_6 : decode cJ7_copyOf_6403c 6 = .ok (.iload_n 1, 1) := by decide +kernel
theorem dJ7_copyOf_6403c_7 : decode cJ7_copyOf_6403c 7 = .ok (.anewarray 2, 3) := by decide +kernel
theorem dJ7_copyOf_6403c_10 : decode cJ7_copyOf_6403c 10 = .ok (.goto 14, 3) := by decide +kernel
theorem dJ7_copyOf_6403c_13 : decode cJ7_copyOf_6403c 13 = .ok (.aload_n 2, 1) := by decide +kernel
theorem dJ7_copyOf_6403c_14 : decode cJ7_copyOf_6403c 14 = .ok (.invokevirtual 90, 3) := by decide +kernel
theorem dJ7_copyOf_6403c_17 : decode cJ7_copyOf_6403c 17 = .ok (.iload_n 1, 1) := by decide +kernel
theorem dJ7_copyOf_6403c_18 : decode cJ7_copyOf_6403c 18 = .ok (.invokestatic 95, 3) := by decide +kernel
theorem dJ7_copyOf_6403c_21 : decode cJ7_copyOf_6403c 21 = .ok (.checkcast 110, 3) := by decide +kernel
theorem dJ7_copyOf_6403c_24 : decode cJ7_copyOf_6403c 24 = .ok (.astore_n 3, 1) := by decide +kernel
theorem dJ7_copyOf_6403c_25 : decode cJ7_copyOf_6403c 25 = .ok (.aload_n 0, 1) := by decide +kernel
theorem dJ7_copyOf_6403c_26 : decode cJ7_copyOf_6403c 26 = .ok (.iconst 0, 1) := by decide +kernel
theorem dJ7_copyOf_6403c_27 : decode cJ7_copyOf_6403c 27 = .ok (.aload_n 3, 1) := by decide +kernel
theorem dJ7_copyOf_6403c_28 : decode cJ7_copyOf_6403c 28 = .ok (.iconst 0, 1) := by decide +kernel
theorem dJ7_copyOf_6403c_29 : decode cJ7_copyOf_6403c 29 = .ok (.aload_n 0, 1) := by decide +kernel
theorem dJ7_copyOf_6403c_30 : decode cJ7_copyOf_6403c 30 = .ok (.arraylength, 1) := by decide +kernel
theorem dJ7_copyOf_6403c_31 : decode cJ7_copyOf_6403c 31 = .ok (.iload_n 1, 1) := by decide +kernel
theorem dJ7_copyOf_6403c_32 : decode cJ7_copyOf_6403c 32 = .ok (.invokestatic 304, 3) := by decide +kernel
theorem dJ7_copyOf_6403c_35 : decode cJ7_copyOf_6403c 35 = .ok (.invokestatic 150, 3) := by decide +kernel
theorem dJ7_copyOf_6403c_38 : decode cJ7_copyOf_6403c 38 = .ok (.aload_n 3, 1) := by decide +kernel
theorem dJ7_copyOf_6403c_39 : decode cJ7_copyOf_6403c 39 = .ok (.areturn, 1) := by decide +kernel
theorem dJ15_checkIndex_7cf53_0 : decode cJ15_checkIndex_7cf53 0 = .ok (.iload_n 0, 1) := by decide +kernel
theorem dJ15_checkIndex_7cf53_1 : decode cJ15_checkIndex_7cf53 1 = .ok (.iload_n 1, 1) := by decide +kernel
theorem dJ15_checkIndex_7cf53_2 : decode cJ15_checkIndex_7cf53 2 = .ok (.aconst_null, 1) := by decide +kernel
theorem dJ15_checkIndex_7cf53_3 : decode cJ15_checkIndex_7cf53 3 = .ok (.invokestatic 105, 3) := by decide +kernel
theorem dJ15_checkIndex_7cf53_6 : decode cJ15_checkIndex_7cf53 6 = .ok (.ireturn, 1) := by decide +kernel
theorem dJ8_newLength_cabcc_0 : decode cJ8_newLength_cabcc 0 = .ok (.iload_n 0, 1) := by decide +kernel
theorem dJ8_newLength_cabcc_1 : decode cJ8_newLength_cabcc 1 = .ok (.iload_n 1, 1) := by decide +kernel
theorem dJ8_newLength_cabcc_2 : decode cJ8_newLength_cabcc 2 = .ok (.iload_n 2, 1) := by decide +kernel
theorem dJ8_newLength_cabcc_3 : decode cJ8_newLength_cabcc 3 = .ok (.invokestatic 194, 3) := by decide +kernel
theorem dJ8_newLength_cabcc_6 : decode cJ8_newLength_cabcc 6 = .ok (.iadd, 1) := by decide +kernel
theorem dJ8_newLength_cabcc_7 : decode cJ8_newLength_cabcc 7 = .ok (.istore_n 3, 1) := by decide +kernel
theorem dJ8_newLength_cabcc_8 : decode cJ8_newLength_cabcc 8 = .ok (.iconst 0, 1) := by decide +kernel
theorem dJ8_newLength_cabcc_9 : decode cJ8_newLength_cabcc 9 = .ok (.iload_n 3, 1) := by decide +kernel
theorem dJ8_newLength_cabcc_10 : decode cJ8_newLength_cabcc 10 = .ok (.if_icmp .ge 11, 3) := by decide +kernel
theorem dJ8_newLength_cabcc_13 : decode cJ8_newLength_cabcc 13 = .ok (.iload_n 3, 1) := by decide +kernel
theorem dJ8_newLength_cabcc_14 : decode cJ8_newLength_cabcc 14 = .ok (.ldc 200, 2) := by decide +kernel
theorem dJ8_newLength_cabcc_16 : decode cJ8_newLength_cabcc 16 = .ok (.if_icmp .gt 5, 3) := by decide +kernel
theorem dJ8_newLength_cabcc_19 : decode cJ8_newLength_cabcc 19 = .ok (.iload_n 3, 1) := by decide +kernel
theorem dJ8_newLength_cabcc_20 : decode cJ8_newLength_cabcc 20 = .ok (.ireturn, 1) := by decide +kernel
theorem dJ8_newLength_cabcc_21 : decode cJ8_newLength_cabcc 21 = .ok (.iload_n 0, 1) := by decide +kernel
theorem dJ8_newLength_cabcc_22 : decode cJ8_newLength_cabcc 22 = .ok (.iload_n 1, 1) := by decide +kernel
theorem dJ8_newLength_cabcc_23 : decode cJ8_newLength_cabcc 23 = .ok (.invokestatic 201, 3) := by decide +kernel
theorem dJ8_newLength_cabcc_26 : decode cJ8_newLength_cabcc 26 = .ok (.ireturn, 1) := by decide +kernel
theorem dJ8_hugeLength_7cf53_0 : decode cJ8_hugeLength_7cf53 0 = .ok (.iload_n 0, 1) := by decide +kernel
theorem dJ8_hugeLength_7cf53_1 : decode cJ8_hugeLength_7cf53 1 = .ok (.iload_n 1, 1) := by decide +kernel
theorem dJ8_hugeLength_7cf53_2 : decode cJ8_hugeLength_7cf53 2 = .ok (.iadd, 1) := by decide +kernel
theorem dJ8_hugeLength_7cf53_3 : decode cJ8_hugeLength_7cf53 3 = .ok (.istore_n 2, 1) := by decide +kernel
theorem dJ8_hugeLength_7cf53_4 : decode cJ8_hugeLength_7cf53 4 = .ok (.iload_n 2, 1) := by decide +kernel
theorem dJ8_hugeLength_7cf53_5 : decode cJ8_hugeLength_7cf53 5 = .ok (.ifCond .ge 44, 3) := by decide +kernel
theorem dJ8_hugeLength_7cf53_8 : decode cJ8_hugeLength_7cf53 8 = .ok (.new 204, 3) := by decide +kernel
theorem dJ8_hugeLength_7cf53_11 : decode cJ8_hugeLength_7cf53 11 = .ok (.dup, 1) := by decide +kernel
theorem dJ8_hugeLength_7cf53_12 : decode cJ8_hugeLength_7cf53 12 = .ok (.new 89, 3) := by decide +kernel
theorem dJ8_hugeLength_7cf53_15 : decode cJ8_hugeLength_7cf53 15 = .ok (.dup, 1) := by decide +kernel
theorem dJ8_hugeLength_7cf53_16 : decode cJ8_hugeLength_7cf53 16 = .ok (.invokespecial 91, 3) := by decide +kernel
theorem dJ8_hugeLength_7cf53_19 : decode cJ8_hugeLength_7cf53 19 = .ok (.ldc 206, 2) := by decide +kernel
theorem dJ8_hugeLength_7cf53_21 : decode cJ8_hugeLength_7cf53 21 = .ok (.invokevirtual 94, 3) := by decide +kernel
theorem dJ8_hugeLength_7cf53_24 : decode cJ8_hugeLength_7cf53 24 = .ok (.iload_n 0, 1) := by decide +kernel
theorem dJ8_hugeLength_7cf53_25 : decode cJ8_hugeLength_7cf53 25 = .ok (.invokevirtual 98, 3) := by decide +kernel
theorem dJ8_hugeLength_7cf53_28 : decode cJ8_hugeLength_7cf53 28 = .ok (.ldc 208, 2) := by decide +kernel
theorem dJ8_hugeLength_7cf53_30 : decode cJ8_hugeLength_7cf53 30 = .ok (.invokevirtual 94, 3) := by decide +kernel
theorem dJ8_hugeLength_7cf53_33 : decode cJ8_hugeLength_7cf53 33 = .ok (.iload_n 1, 1) := by decide +kernel
theorem dJ8_hugeLength_7cf53_34 : decode cJ8_hugeLength_7cf53 34 = .ok (.invokevirtual 98, 3) := by decide +kernel
theorem dJ8_hugeLength_7cf53_37 : decode cJ8_hugeLength_7cf53 37 = .ok (.ldc 210, 2) := by decide +kernel
theorem dJ8_hugeLength_7cf53_39 : decode cJ8_hugeLength_7cf53 39 = .ok (.invokevirtual 94, 3) := by decide +kernel
theorem dJ8_hugeLength_7cf53_42 : decode cJ8_hugeLength_7cf53 42 = .ok (.invokevirtual 101, 3) := by decide +kernel
theorem dJ8_hugeLength_7cf53_45 : decode cJ8_hugeLength_7cf53 45 = .ok (.invokespecial 212, 3) := by decide +kernel
theorem dJ8_hugeLength_7cf53_48 : decode cJ8_hugeLength_7cf53 48 = .ok (.athrow, 1) := by decide +kernel
theorem dJ8_hugeLength_7cf53_49 : decode cJ8_hugeLength_7cf53 49 = .ok (.iload_n 2, 1) := by decide +kernel
theorem dJ8_hugeLength_7cf53_50 : decode cJ8_hugeLength_7cf53 50 = .ok (.ldc 200, 2) := by decide +kernel
theorem dJ8_hugeLength_7cf53_52 : decode cJ8_hugeLength_7cf53 52 = .ok (.if_icmp .gt 6, 3) := by decide +kernel
theorem dJ8_hugeLength_7cf53_55 : decode cJ8_hugeLength_7cf53 55 = .ok (.ldc 200, 2) := by decide +kernel
theorem dJ8_hugeLength_7cf53_57 : decode cJ8_hugeLength_7cf53 57 = .ok (.ireturn, 1) := by decide +kernel
theorem dJ8_hugeLength_7cf53_58 : decode cJ8_hugeLength_7cf53 58 = .ok (.iload_n 2, 1) := by decide +kernel
theorem dJ8_hugeLength_7cf53_59 : decode cJ8_hugeLength_7cf53 59 = .ok (.ireturn, 1) := by decide +kernel
theorem dJ3_checkIndex_8e157_0 : decode cJ3_checkIndex_8e157 0 = .ok (.iload_n 0, 1) := by decide +kernel
theorem dJ3_checkIndex_8e157_1 : decode cJ3_checkIndex_8e157 1 = .ok (.ifCond .lt 8, 3) := by decide +kernel
theorem dJ3_checkIndex_8e157_4 : decode cJ3_checkIndex_8e157 4 = .ok (.iload_n 0, 1) := by decide +kernel
theorem dJ3_checkIndex_8e157_5 : decode cJ3_checkIndex_8e157 5 = .ok (.iload_n 1, 1) := by decide +kernel
theorem dJ3_checkIndex_8e157_6 : decode cJ3_checkIndex_8e157 6 = .ok (.if_icmp .lt 10, 3) := by decide +kernel
theorem dJ3_checkIndex_8e157_9 : decode cJ3_checkIndex_8e157 9 = .ok (.aload_n 2, 1) := by decide +kernel
theorem dJ3_checkIndex_8e157_10 : decode cJ3_checkIndex_8e157 10 = .ok (.iload_n 0, 1) := by decide +kernel
theorem dJ3_checkIndex_8e157_11 : decode cJ3_checkIndex_8e157 11 = .ok (.iload_n 1, 1) := by decide +kernel
theorem dJ3_checkIndex_8e157_12 : decode cJ3_checkIndex_8e157 12 = .ok (.invokestatic 95, 3) := by decide +kernel
theorem dJ3_checkIndex_8e157_15 : decode cJ3_checkIndex_8e157 15 = .ok (.athrow, 1) := by decide +kernel
theorem dJ3_checkIndex_8e157_16 : decode cJ3_checkIndex_8e157 16 = .ok (.iload_n 0, 1) := by decide +kernel
theorem dJ3_checkIndex_8e157_17 : decode cJ3_checkIndex_8e157 17 = .ok (.ireturn, 1) := by decide +kernel
theorem dL_law_0 : decode cL_law 0 = .ok (.new 7, 3) := by decide +kernel
theorem dL_law_3 : decode cL_law 3 = .ok (.dup, 1) := by decide +kernel
theorem dL_law_4 : decode cL_law 4 = .ok (.invokespecial 9, 3) := by decide +kernel
theorem dL_law_7 : decode cL_law 7 = .ok (.astore_n 1, 1) := by decide +kernel
theorem dL_law_8 : decode cL_law 8 = .ok (.new 10, 3) := by decide +kernel
theorem dL_law_11 : decode cL_law 11 = .ok (.dup, 1) := by decide +kernel
theorem dL_law_12 : decode cL_law 12 = .ok (.invokespecial 12, 3) := by decide +kernel
theorem dL_law_15 : decode cL_law 15 = .ok (.astore_n 2, 1) := by decide +kernel
theorem dL_law_16 : decode cL_law 16 = .ok (.iconst 0, 1) := by decide +kernel
theorem dL_law_17 : decode cL_law 17 = .ok (.istore_n 3, 1) := by decide +kernel
theorem dL_law_18 : decode cL_law 18 = .ok (.iload_n 3, 1) := by decide +kernel
theorem dL_law_19 : decode cL_law 19 = .ok (.aload_n 0, 1) := by decide +kernel
theorem dL_law_20 : decode cL_law 20 = .ok (.arraylength, 1) := by decide +kernel
theorem dL_law_21 : decode cL_law 21 = .ok (.bipush 7, 2) := by decide +kernel
theorem dL_law_23 : decode cL_law 23 = .ok (.isub, 1) := by decide +kernel
theorem dL_law_24 : decode cL_law 24 = .ok (.if_icmp .gt 956, 3) := by decide +kernel
theorem dL_law_27 : decode cL_law 27 = .ok (.aload_n 0, 1) := by decide +kernel
theorem dL_law_28 : decode cL_law 28 = .ok (.iload_n 3, 1) := by decide +kernel
theorem dL_law_29 : decode cL_law 29 = .ok (.iaload, 1) := by decide +kernel
theorem dL_law_30 : decode cL_law 30 = .ok (.bipush 31, 2) := by decide +kernel
theorem dL_law_32 : decode cL_law 32 = .ok (.iand, 1) := by decide +kernel
theorem dL_law_33 : decode cL_law 33 = .ok (.tableswitch 941 0 21 #[103, 146, 209, 242, 265, 308, 341, 394, 447, 522, 597, 640, 689, 723, 756, 779, 812, 836, 859, 872, 895, 918], 103) := by decide +kernel
theorem dL_law_136 : decode cL_law 136 = .ok (.aload_n 1, 1) := by decide +kernel
theorem dL_law_137 : decode cL_law 137 = .ok (.aload_n 0, 1) := by decide +kernel
theorem dL_law_138 : decode cL_law 138 = .ok (.iload_n 3, 1) := by decide +kernel
theorem dL_law_139 : decode cL_law 139 = .ok (.iconst 1, 1) := by decide +kernel
theorem dL_law_140 : decode cL_law 140 = .ok (.iadd, 1) := by decide +kernel
theorem dL_law_141 : decode cL_law 141 = .ok (.iaload, 1) := by decide +kernel
theorem dL_law_142 : decode cL_law 142 = .ok (.aload_n 0, 1) := by decide +kernel
theorem dL_law_143 : decode cL_law 143 = .ok (.iload_n 3, 1) := by decide +kernel
theorem dL_law_144 : decode cL_law 144 = .ok (.iconst 2, 1) := by decide +kernel
theorem dL_law_145 : decode cL_law 145 = .ok (.iadd, 1) := by decide +kernel
theorem dL_law_146 : decode cL_law 146 = .ok (.iaload, 1) := by decide +kernel
theorem dL_law_147 : decode cL_law 147 = .ok (.aload_n 0, 1) := by decide +kernel
theorem dL_law_148 : decode cL_law 148 = .ok (.iload_n 3, 1) := by decide +kernel
theorem dL_law_149 : decode cL_law 149 = .ok (.iconst 3, 1) := by decide +kernel
theorem dL_law_150 : decode cL_law 150 = .ok (.iadd, 1) := by decide +kernel
theorem dL_law_151 : decode cL_law 151 = .ok (.iaload, 1) := by decide +kernel
theorem dL_law_152 : decode cL_law 152 = .ok (.invokevirtual 13, 3) := by decide +kernel
theorem dL_law_155 : decode cL_law 155 = .ok (.aload_n 2, 1) := by decide +kernel
theorem dL_law_156 : decode cL_law 156 = .ok (.aload_n 0, 1) := by decide +kernel
theorem dL_law_157 : decode cL_law 157 = .ok (.iload_n 3, 1) := by decide +kernel
theorem dL_law_158 : decode cL_law 158 = .ok (.iconst 1, 1) := by decide +kernel
theorem dL_law_159 : decode cL_law 159 = .ok (.iadd, 1) := by decide +kernel
theorem dL_law_160 : decode cL_law 160 = .ok (.iaload, 1) := by decide +kernel
theorem dL_law_161 : decode cL_law 161 = .ok (.aload_n 0, 1) := by decide +kernel
theorem dL_law_162 : decode cL_law 162 = .ok (.iload_n 3, 1) := by decide +kernel
theorem dL_law_163 : decode cL_law 163 = .ok (.iconst 2, 1) := by decide +kernel
theorem dL_law_164 : decode cL_law 164 = .ok (.iadd, 1) := by decide +kernel
theorem dL_law_165 : decode cL_law 165 = .ok (.iaload, 1) := by decide +kernel
theorem dL_law_166 : decode cL_law 166 = .ok (.aload_n 0, 1) := by decide +kernel
theorem dL_law_167 : decode cL_law 167 = .ok (.iload_n 3, 1) := by decide +kernel
theorem dL_law_168 : decode cL_law 168 = .ok (.iconst 3, 1) := by decide +kernel
theorem dL_law_169 : decode cL_law 169 = .ok (.iadd, 1) := by decide +kernel
theorem dL_law_170 : decode cL_law 170 = .ok (.iaload, 1) := by decide +kernel
theorem dL_law_171 : decode cL_law 171 = .ok (.invokevirtual 17, 3) := by decide +kernel
theorem dL_law_174 : decode cL_law 174 = .ok (.if_icmp .eq 800, 3) := by decide +kernel
theorem dL_law_177 : decode cL_law 177 = .ok (.iconst 0, 1) := by decide +kernel
theorem dL_law_178 : decode cL_law 178 = .ok (.ireturn, 1) := by decide +kernel
theorem dL_law_179 : decode cL_law 179 = .ok (.aload_n 1, 1) := by decide +kernel
theorem dL_law_180 : decode cL_law 180 = .ok (.aload_n 0, 1) := by decide +kernel
theorem dL_law_181 : decode cL_law 181 = .ok (.iload_n 3, 1) := by decide +kernel
theorem dL_law_182 : decode cL_law 182 = .ok (.iconst 1, 1) := by decide +kernel
theorem dL_law_183 : decode cL_law 183 = .ok (.iadd, 1) := by decide +kernel
theorem dL_law_184 : decode cL_law 184 = .ok (.iaload, 1) := by decide +kernel
theorem dL_law_185 : decode cL_law 185 = .ok (.aload_n 0, 1) := by decide +kernel
theorem dL_law_186 : decode cL_law 186 = .ok (.iload_n 3, 1) := by decide +kernel
theorem dL_law_187 : decode cL_law 187 = .ok (.iconst 2, 1) := by decide +kernel
theorem dL_law_188 : decode cL_law 188 = .ok (.iadd, 1) := by decide +kernel
theorem dL_law_189 : decode cL_law 189 = .ok (.iaload, 1) := by decide +kernel
theorem dL_law_190 : decode cL_law 190 = .ok (.aload_n 0, 1) := by decide +kernel
theorem dL_law_191 : decode cL_law 191 = .ok (.iload_n 3, 1) := by decide +kernel
theorem dL_law_192 : decode cL_law 192 = .ok (.iconst 3, 1) := by decide +kernel
theorem dL_law_193 : decode cL_law 193 = .ok (.iadd, 1) := by decide +kernel
theorem dL_law_194 : decode cL_law 194 = .ok (.iaload, 1) := by decide +kernel
theorem dL_law_195 : decode cL_law 195 = .ok (.aload_n 0, 1) := by decide +kernel
theorem dL_law_196 : decode cL_law 196 = .ok (.iload_n 3, 1) := by decide +kernel
theorem dL_law_197 : decode cL_law 197 = .ok (.iconst 4, 1) := by decide +kernel
theorem dL_law_198 : decode cL_law 198 = .ok (.iadd, 1) := by decide +kernel
theorem dL_law_199 : decode cL_law 199 = .ok (.iaload, 1) := by decide +kernel
theorem dL_law_200 : decode cL_law 200 = .ok (.aload_n 0, 1) := by decide +kernel
theorem dL_law_201 : decode cL_law 201 = .ok (.iload_n 3, 1) := by decide +kernel
theorem dL_law_202 : decode cL_law 202 = .ok (.iconst 5, 1) := by decide +kernel
theorem dL_law_203 : decode cL_law 203 = .ok (.iadd, 1) := by decide +kernel
theorem dL_law_204 : decode cL_law 204 = .ok (.iaload, 1) := by decide +kernel
theorem dL_law_205 : decode cL_law 205 = .ok (.invokevirtual 18, 3) := by decide +kernel
theorem dL_law_208 : decode cL_law 208 = .ok (.aload_n 2, 1) := by decide +kernel
theorem dL_law_209 : decode cL_law 209 = .ok (.aload_n 0, 1) := by decide +kernel
theorem dL_law_210 : decode cL_law 210 = .ok (.iload_n 3, 1) := by decide +kernel
theorem dL_law_211 : decode cL_law 211 = .ok (.iconst 1, 1) := by decide +kernel
theorem dL_law_212 : decode cL_law 212 = .ok (.iadd, 1) := by decide +kernel
theorem dL_law_213 : decode cL_law 213 = .ok (.iaload, 1) := by decide +kernel
theorem dL_law_214 : decode cL_law 214 = .ok (.aload_n 0, 1) := by decide +kernel
theorem dL_law_215 : decode cL_law 215 = .ok (.iload_n 3, 1) := by decide +kernel
theorem dL_law_216 : decode cL_law 216 = .ok (.iconst 2, 1) := by decide +kernel
theorem dL_law_217 : decode cL_law 217 = .ok (.iadd, 1) := by decide +kernel
theorem dL_law_218 : decode cL_law 218 = .ok (.iaload, 1) := by decide +kernel
theorem dL_law_219 : decode cL_law 219 = .ok (.aload_n 0, 1) := by decide +kernel
theorem dL_law_220 : decode cL_law 220 = .ok (.iload_n 3, 1) := by decide +kernel
theorem dL_law_221 : decode cL_law 221 = .ok (.iconst 3, 1) := by decide +kernel
theorem dL_law_222 : decode cL_law 222 = .ok (.iadd, 1) := by decide +kernel
theorem dL_law_223 : decode cL_law 223 = .ok (.iaload, 1) := by decide +kernel
theorem dL_law_224 : decode cL_law 224 = .ok (.aload_n 0, 1) := by decide +kernel
theorem dL_law_225 : decode cL_law 225 = .ok (.iload_n 3, 1) := by decide +kernel
theorem dL_law_226 : decode cL_law 226 = .ok (.iconst 4, 1) := by decide +kernel
theorem dL_law_227 : decode cL_law 227 = .ok (.iadd, 1) := by decide +kernel
theorem dL_law_228 : decode cL_law 228 = .ok (.iaload, 1) := by decide +kernel
theorem dL_law_229 : decode cL_law 229 = .ok (.aload_n 0, 1) := by decide +kernel
theorem dL_law_230 : decode cL_law 230 = .ok (.iload_n 3, 1) := by decide +kernel
theorem dL_law_231 : decode cL_law 231 = .ok (.iconst 5, 1) := by decide +kernel
theorem dL_law_232 : decode cL_law 232 = .ok (.iadd, 1) := by decide +kernel
theorem dL_law_233 : decode cL_law 233 = .ok (.iaload, 1) := by decide +kernel
theorem dL_law_234 : decode cL_law 234 = .ok (.invokevirtual 22, 3) := by decide +kernel
theorem dL_law_237 : decode cL_law 237 = .ok (.if_icmp .eq 737, 3) := by decide +kernel
theorem dL_law_240 : decode cL_law 240 = .ok (.iconst 0, 1) := by decide +kernel
theorem dL_law_241 : decode cL_law 241 = .ok (.ireturn, 1) := by decide +kernel
theorem dL_law_242 : decode cL_law 242 = .ok (.aload_n 1, 1) := by decide +kernel
theorem dL_law_243 : decode cL_law 243 = .ok (.aload_n 0, 1) := by decide +kernel
theorem dL_law_244 : decode cL_law 244 = .ok (.iload_n 3, 1) := by decide +kernel
theorem dL_law_245 : decode cL_law 245 = .ok (.iconst 1, 1) := by decide +kernel
theorem dL_law_246 : decode cL_law 246 = .ok (.iadd, 1) := by decide +kernel
theorem dL_law_247 : decode cL_law 247 = .ok (.iaload, 1) := by decide +kernel
theorem dL_law_248 : decode cL_law 248 = .ok (.aload_n 0, 1) := by decide +kernel
theorem dL_law_249 : decode cL_law 249 = .ok (.iload_n 3, 1) := by decide +kernel
theorem dL_law_250 : decode cL_law 250 = .ok (.iconst 2, 1) := by decide +kernel
theorem dL_law_251 : decode cL_law 251 = .ok (.iadd, 1) := by decide +kernel
theorem dL_law_252 : decode cL_law 252 = .ok (.iaload, 1) := by decide +kernel
theorem dL_law_253 : decode cL_law 253 = .ok (.invokevirtual 23, 3) := by decide +kernel
theorem dL_law_256 : decode cL_law 256 = .ok (.aload_n 2, 1) := by decide +kernel
theorem dL_law_257 : decode cL_law 257 = .ok (.aload_n 0, 1) := by decide +kernel
theorem dL_law_258 : decode cL_law 258 = .ok (.iload_n 3, 1) := by decide +kernel
theorem dL_law_259 : decode cL_law 259 = .ok (.iconst 1, 1) := by decide +kernel
theorem dL_law_260 : decode cL_law 260 = .ok (.iadd, 1) := by decide +kernel
theorem dL_law_261 : decode cL_law 261 = .ok (.iaload, 1) := by decide +kernel
theorem dL_law_262 : decode cL_law 262 = .ok (.aload_n 0, 1) := by decide +kernel
theorem dL_law_263 : decode cL_law 263 = .ok (.iload_n 3, 1) := by decide +kernel
theorem dL_law_264 : decode cL_law 264 = .ok (.iconst 2, 1) := by decide +kernel
theorem dL_law_265 : decode cL_law 265 = .ok (.iadd, 1) := by decide +kernel
theorem dL_law_266 : decode cL_law 266 = .ok (.iaload, 1) := by decide +kernel
theorem dL_law_267 : decode cL_law 267 = .ok (.invokevirtual 27, 3) := by decide +kernel
theorem dL_law_270 : decode cL_law 270 = .ok (.if_icmp .eq 704, 3) := by decide +kernel
theorem dL_law_273 : decode cL_law 273 = .ok (.iconst 0, 1) := by decide +kernel
theorem dL_law_274 : decode cL_law 274 = .ok (.ireturn, 1) := by decide +kernel
theorem dL_law_275 : decode cL_law 275 = .ok (.aload_n 1, 1) := by decide +kernel
theorem dL_law_276 : decode cL_law 276 = .ok (.aload_n 0, 1) := by decide +kernel
theorem dL_law_277 : decode cL_law 277 = .ok (.iload_n 3, 1) := by decide +kernel
theorem dL_law_278 : decode cL_law 278 = .ok (.iconst 1, 1) := by decide +kernel
theorem dL_law_279 : decode cL_law 279 = .ok (.iadd, 1) := by decide +kernel
theorem dL_law_280 : decode cL_law 280 = .ok (.iaload, 1) := by decide +kernel
theorem dL_law_281 : decode cL_law 281 = .ok (.invokevirtual 28, 3) := by decide +kernel
theorem dL_law_284 : decode cL_law 284 = .ok (.aload_n 2, 1) := by decide +kernel
theorem dL_law_285 : decode cL_law 285 = .ok (.aload_n 0, 1) := by decide +kernel
theorem dL_law_286 : decode cL_law 286 = .ok (.iload_n 3, 1) := by decide +kernel
theorem dL_law_287 : decode cL_law 287 = .ok (.iconst 1, 1) := by decide +kernel
theorem dL_law_288 : decode cL_law 288 = .ok (.iadd, 1) := by decide +kernel
theorem dL_law_289 : decode cL_law 289 = .ok (.iaload, 1) := by decide +kernel
theorem dL_law_290 : decode cL_law 290 = .ok (.invokevirtual 32, 3) := by decide +kernel
theorem dL_law_293 : decode cL_law 293 = .ok (.if_icmp .eq 681, 3) := by decide +kernel
theorem dL_law_296 : decode cL_law 296 = .ok (.iconst 0, 1) := by decide +kernel
theorem dL_law_297 : decode cL_law 297 = .ok (.ireturn, 1) := by decide +kernel
theorem dL_law_298 : decode cL_law 298 = .ok (.aload_n 1, 1) := by decide +kernel
theorem dL_law_299 : decode cL_law 299 = .ok (.aload_n 0, 1) := by decide +kernel
theorem dL_law_300 : decode cL_law 300 = .ok (.iload_n 3, 1) := by decide +kernel
theorem dL_law_301 : decode cL_law 301 = .ok (.iconst 1, 1) := by decide +kernel
theorem dL_law_302 : decode cL_law 302 = .ok (.iadd, 1) := by decide +kernel
theorem dL_law_303 : decode cL_law 303 = .ok (.iaload, 1) := by decide +kernel
theorem dL_law_304 : decode cL_law 304 = .ok (.aload_n 0, 1) := by decide +kernel
theorem dL_law_305 : decode cL_law 305 = .ok (.iload_n 3, 1) := by decide +kernel
theorem dL_law_306 : decode cL_law 306 = .ok (.iconst 2, 1) := by decide +kernel
theorem dL_law_307 : decode cL_law 307 = .ok (.iadd, 1) := by decide +kernel
theorem dL_law_308 : decode cL_law 308 = .ok (.iaload, 1) := by decide +kernel
theorem dL_law_309 : decode cL_law 309 = .ok (.aload_n 0, 1) := by decide +kernel
theorem dL_law_310 : decode cL_law 310 = .ok (.iload_n 3, 1) := by decide +kernel
theorem dL_law_311 : decode cL_law 311 = .ok (.iconst 3, 1) := by decide +kernel
theorem dL_law_312 : decode cL_law 312 = .ok (.iadd, 1) := by decide +kernel
theorem dL_law_313 : decode cL_law 313 = .ok (.iaload, 1) := by decide +kernel
theorem dL_law_314 : decode cL_law 314 = .ok (.invokevirtual 33, 3) := by decide +kernel
theorem dL_law_317 : decode cL_law 317 = .ok (.aload_n 2, 1) := by decide +kernel
theorem dL_law_318 : decode cL_law 318 = .ok (.aload_n 0, 1) := by decide +kernel
theorem dL_law_319 : decode cL_law 319 = .ok (.iload_n 3, 1) := by decide +kernel
theorem dL_law_320 : decode cL_law 320 = .ok (.iconst 1, 1) := by decide +kernel
theorem dL_law_321 : decode cL_law 321 = .ok (.iadd, 1) := by decide +kernel
theorem dL_law_322 : decode cL_law 322 = .ok (.iaload, 1) := by decide +kernel
theorem dL_law_323 : decode cL_law 323 = .ok (.aload_n 0, 1) := by decide +kernel
theorem dL_law_324 : decode cL_law 324 = .ok (.iload_n 3, 1) := by decide +kernel
theorem dL_law_325 : decode cL_law 325 = .ok (.iconst 2, 1) := by decide +kernel
theorem dL_law_326 : decode cL_law 326 = .ok (.iadd, 1) := by decide +kernel
theorem dL_law_327 : decode cL_law 327 = .ok (.iaload, 1) := by decide +kernel
theorem dL_law_328 : decode cL_law 328 = .ok (.aload_n 0, 1) := by decide +kernel
theorem dL_law_329 : decode cL_law 329 = .ok (.iload_n 3, 1) := by decide +kernel
theorem dL_law_330 : decode cL_law 330 = .ok (.iconst 3, 1) := by decide +kernel
theorem dL_law_331 : decode cL_law 331 = .ok (.iadd, 1) := by decide +kernel
theorem dL_law_332 : decode cL_law 332 = .ok (.iaload, 1) := by decide +kernel
theorem dL_law_333 : decode cL_law 333 = .ok (.invokevirtual 37, 3) := by decide +kernel
theorem dL_law_336 : decode cL_law 336 = .ok (.if_icmp .eq 638, 3) := by decide +kernel
theorem dL_law_339 : decode cL_law 339 = .ok (.iconst 0, 1) := by decide +kernel
theorem dL_law_340 : decode cL_law 340 = .ok (.ireturn, 1) := by decide +kernel
theorem dL_law_341 : decode cL_law 341 = .ok (.aload_n 1, 1) := by decide +kernel
theorem dL_law_342 : decode cL_law 342 = .ok (.aload_n 0, 1) := by decide +kernel
theorem dL_law_343 : decode cL_law 343 = .ok (.iload_n 3, 1) := by decide +kernel
theorem dL_law_344 : decode cL_law 344 = .ok (.iconst 1, 1) := by decide +kernel
theorem dL_law_345 : decode cL_law 345 = .ok (.iadd, 1) := by decide +kernel
theorem dL_law_346 : decode cL_law 346 = .ok (.iaload, 1) := by decide +kernel
theorem dL_law_347 : decode cL_law 347 = .ok (.aload_n 0, 1) := by decide +kernel
theorem dL_law_348 : decode cL_law 348 = .ok (.iload_n 3, 1) := by decide +kernel
theorem dL_law_349 : decode cL_law 349 = .ok (.iconst 2, 1) := by decide +kernel
theorem dL_law_350 : decode cL_law 350 = .ok (.iadd, 1) := by decide +kernel
theorem dL_law_351 : decode cL_law 351 = .ok (.iaload, 1) := by decide +kernel
theorem dL_law_352 : decode cL_law 352 = .ok (.invokevirtual 38, 3) := by decide +kernel
theorem dL_law_355 : decode cL_law 355 = .ok (.aload_n 2, 1) := by decide +kernel
theorem dL_law_356 : decode cL_law 356 = .ok (.aload_n 0, 1) := by decide +kernel
theorem dL_law_357 : decode cL_law 357 = .ok (.iload_n 3, 1) := by decide +kernel
theorem dL_law_358 : decode cL_law 358 = .ok (.iconst 1, 1) := by decide +kernel
theorem dL_law_359 : decode cL_law 359 = .ok (.iadd, 1) := by decide +kernel
theorem dL_law_360 : decode cL_law 360 = .ok (.iaload, 1) := by decide +kernel
theorem dL_law_361 : decode cL_law 361 = .ok (.aload_n 0, 1) := by decide +kernel
theorem dL_law_362 : decode cL_law 362 = .ok (.iload_n 3, 1) := by decide +kernel
theorem dL_law_363 : decode cL_law 363 = .ok (.iconst 2, 1) := by decide +kernel
theorem dL_law_364 : decode cL_law 364 = .ok (.iadd, 1) := by decide +kernel
theorem dL_law_365 : decode cL_law 365 = .ok (.iaload, 1) := by decide +kernel
theorem dL_law_366 : decode cL_law 366 = .ok (.invokevirtual 41, 3) := by decide +kernel
theorem dL_law_369 : decode cL_law 369 = .ok (.if_icmp .eq 605, 3) := by decide +kernel
theorem dL_law_372 : decode cL_law 372 = .ok (.iconst 0, 1) := by decide +kernel
theorem dL_law_373 : decode cL_law 373 = .ok (.ireturn, 1) := by decide +kernel
theorem dL_law_374 : decode cL_law 374 = .ok (.aload_n 1, 1) := by decide +kernel
theorem dL_law_375 : decode cL_law 375 = .ok (.aload_n 0, 1) := by decide +kernel
theorem dL_law_376 : decode cL_law 376 = .ok (.iload_n 3, 1) := by decide +kernel
theorem dL_law_377 : decode cL_law 377 = .ok (.iconst 1, 1) := by decide +kernel
theorem dL_law_378 : decode cL_law 378 = .ok (.iadd, 1) := by decide +kernel
theorem dL_law_379 : decode cL_law 379 = .ok (.iaload, 1) := by decide +kernel
theorem dL_law_380 : decode cL_law 380 = .ok (.aload_n 0, 1) := by decide +kernel
theorem dL_law_381 : decode cL_law 381 = .ok (.iload_n 3, 1) := by decide +kernel
theorem dL_law_382 : decode cL_law 382 = .ok (.iconst 2, 1) := by decide +kernel
theorem dL_law_383 : decode cL_law 383 = .ok (.iadd, 1) := by decide +kernel
theorem dL_law_384 : decode cL_law 384 = .ok (.iaload, 1) := by decide +kernel
theorem dL_law_385 : decode cL_law 385 = .ok (.aload_n 0, 1) := by decide +kernel
theorem dL_law_386 : decode cL_law 386 = .ok (.iload_n 3, 1) := by decide +kernel
theorem dL_law_387 : decode cL_law 387 = .ok (.iconst 3, 1) := by decide +kernel
theorem dL_law_388 : decode cL_law 388 = .ok (.iadd, 1) := by decide +kernel
theorem dL_law_389 : decode cL_law 389 = .ok (.iaload, 1) := by decide +kernel
theorem dL_law_390 : decode cL_law 390 = .ok (.aload_n 0, 1) := by decide +kernel
theorem dL_law_391 : decode cL_law 391 = .ok (.iload_n 3, 1) := by decide +kernel
theorem dL_law_392 : decode cL_law 392 = .ok (.iconst 4, 1) := by decide +kernel
theorem dL_law_393 : decode cL_law 393 = .ok (.iadd, 1) := by decide +kernel
theorem dL_law_394 : decode cL_law 394 = .ok (.iaload, 1) := by decide +kernel
theorem dL_law_395 : decode cL_law 395 = .ok (.invokevirtual 42, 3) := by decide +kernel
theorem dL_law_398 : decode cL_law 398 = .ok (.aload_n 2, 1) := by decide +kernel
theorem dL_law_399 : decode cL_law 399 = .ok (.aload_n 0, 1) := by decide +kernel
theorem dL_law_400 : decode cL_law 400 = .ok (.iload_n 3, 1) := by decide +kernel
theorem dL_law_401 : decode cL_law 401 = .ok (.iconst 1, 1) := by decide +kernel
theorem dL_law_402 : decode cL_law 402 = .ok (.iadd, 1) := by decide +kernel
theorem dL_law_403 : decode cL_law 403 = .ok (.iaload, 1) := by decide +kernel
theorem dL_law_404 : decode cL_law 404 = .ok (.aload_n 0, 1) := by decide +kernel
theorem dL_law_405 : decode cL_law 405 = .ok (.iload_n 3, 1) := by decide +kernel
theorem dL_law_406 : decode cL_law 406 = .ok (.iconst 2, 1) := by decide +kernel
theorem dL_law_407 : decode cL_law 407 = .ok (.iadd, 1) := by decide +kernel
theorem dL_law_408 : decode cL_law 408 = .ok (.iaload, 1) := by decide +kernel
theorem dL_law_409 : decode cL_law 409 = .ok (.aload_n 0, 1) := by decide +kernel
theorem dL_law_410 : decode cL_law 410 = .ok (.iload_n 3, 1) := by decide +kernel
theorem dL_law_411 : decode cL_law 411 = .ok (.iconst 3, 1) := by decide +kernel
theorem dL_law_412 : decode cL_law 412 = .ok (.iadd, 1) := by decide +kernel
theorem dL_law_413 : decode cL_law 413 = .ok (.iaload, 1) := by decide +kernel
theorem dL_law_414 : decode cL_law 414 = .ok (.aload_n 0, 1) := by decide +kernel
theorem dL_law_415 : decode cL_law 415 = .ok (.iload_n 3, 1) := by decide +kernel
theorem dL_law_416 : decode cL_law 416 = .ok (.iconst 4, 1) := by decide +kernel
theorem dL_law_417 : decode cL_law 417 = .ok (.iadd, 1) := by decide +kernel
theorem dL_law_418 : decode cL_law 418 = .ok (.iaload, 1) := by decide +kernel
theorem dL_law_419 : decode cL_law 419 = .ok (.invokevirtual 46, 3) := by decide +kernel
theorem dL_law_422 : decode cL_law 422 = .ok (.if_icmp .eq 552, 3) := by decide +kernel
theorem dL_law_425 : decode cL_law 425 = .ok (.iconst 0, 1) := by decide +kernel
theorem dL_law_426 : decode cL_law 426 = .ok (.ireturn, 1) := by decide +kernel
theorem dL_law_427 : decode cL_law 427 = .ok (.aload_n 1, 1) := by decide +kernel
theorem dL_law_428 : decode cL_law 428 = .ok (.aload_n 0, 1) := by decide +kernel
theorem dL_law_429 : decode cL_law 429 = .ok (.iload_n 3, 1) := by decide +kernel
theorem dL_law_430 : decode cL_law 430 = .ok (.iconst 1, 1) := by decide +kernel
theorem dL_law_431 : decode cL_law 431 = .ok (.iadd, 1) := by decide +kernel
theorem dL_law_432 : decode cL_law 432 = .ok (.iaload, 1) := by decide +kernel
theorem dL_law_433 : decode cL_law 433 = .ok (.aload_n 0, 1) := by decide +kernel
theorem dL_law_434 : decode cL_law 434 = .ok (.iload_n 3, 1) := by decide +kernel
theorem dL_law_435 : decode cL_law 435 = .ok (.iconst 2, 1) := by decide +kernel
theorem dL_law_436 : decode cL_law 436 = .ok (.iadd, 1) := by decide +kernel
theorem dL_law_437 : decode cL_law 437 = .ok (.iaload, 1) := by decide +kernel
theorem dL_law_438 : decode cL_law 438 = .ok (.aload_n 0, 1) := by decide +kernel
theorem dL_law_439 : decode cL_law 439 = .ok (.iload_n 3, 1) := by decide +kernel
theorem dL_law_440 : decode cL_law 440 = .ok (.iconst 3, 1) := by decide +kernel
theorem dL_law_441 : decode cL_law 441 = .ok (.iadd, 1) := by decide +kernel
theorem dL_law_442 : decode cL_law 442 = .ok (.iaload, 1) := by decide +kernel
theorem dL_law_443 : decode cL_law 443 = .ok (.aload_n 0, 1) := by decide +kernel
theorem dL_law_444 : decode cL_law 444 = .ok (.iload_n 3, 1) := by decide +kernel
theorem dL_law_445 : decode cL_law 445 = .ok (.iconst 4, 1) := by decide +kernel
theorem dL_law_446 : decode cL_law 446 = .ok (.iadd, 1) := by decide +kernel
theorem dL_law_447 : decode cL_law 447 = .ok (.iaload, 1) := by decide +kernel
theorem dL_law_448 : decode cL_law 448 = .ok (.invokevirtual 47, 3) := by decide +kernel
theorem dL_law_451 : decode cL_law 451 = .ok (.aload_n 2, 1) := by decide +kernel
theorem dL_law_452 : decode cL_law 452 = .ok (.aload_n 0, 1) := by decide +kernel
theorem dL_law_453 : decode cL_law 453 = .ok (.iload_n 3, 1) := by decide +kernel
theorem dL_law_454 : decode cL_law 454 = .ok (.iconst 1, 1) := by decide +kernel
theorem dL_law_455 : decode cL_law 455 = .ok (.iadd, 1) := by decide +kernel
theorem dL_law_456 : decode cL_law 456 = .ok (.iaload, 1) := by decide +kernel
theorem dL_law_457 : decode cL_law 457 = .ok (.aload_n 0, 1) := by decide +kernel
theorem dL_law_458 : decode cL_law 458 = .ok (.iload_n 3, 1) := by decide +kernel
theorem dL_law_459 : decode cL_law 459 = .ok (.iconst 2, 1) := by decide +kernel
theorem dL_law_460 : decode cL_law 460 = .ok (.iadd, 1) := by decide +kernel
theorem dL_law_461 : decode cL_law 461 = .ok (.iaload, 1) := by decide +kernel
theorem dL_law_462 : decode cL_law 462 = .ok (.aload_n 0, 1) := by decide +kernel
theorem dL_law_463 : decode cL_law 463 = .ok (.iload_n 3, 1) := by decide +kernel
theorem dL_law_464 : decode cL_law 464 = .ok (.iconst 3, 1) := by decide +kernel
theorem dL_law_465 : decode cL_law 465 = .ok (.iadd, 1) := by decide +kernel
theorem dL_law_466 : decode cL_law 466 = .ok (.iaload, 1) := by decide +kernel
theorem dL_law_467 : decode cL_law 467 = .ok (.aload_n 0, 1) := by decide +kernel
theorem dL_law_468 : decode cL_law 468 = .ok (.iload_n 3, 1) := by decide +kernel
theorem dL_law_469 : decode cL_law 469 = .ok (.iconst 4, 1) := by decide +kernel
theorem dL_law_470 : decode cL_law 470 = .ok (.iadd, 1) := by decide +kernel
theorem dL_law_471 : decode cL_law 471 = .ok (.iaload, 1) := by decide +kernel
theorem dL_law_472 : decode cL_law 472 = .ok (.invokevirtual 51, 3) := by decide +kernel
theorem dL_law_475 : decode cL_law 475 = .ok (.if_icmp .eq 499, 3) := by decide +kernel
theorem dL_law_478 : decode cL_law 478 = .ok (.iconst 0, 1) := by decide +kernel
theorem dL_law_479 : decode cL_law 479 = .ok (.ireturn, 1) := by decide +kernel
theorem dL_law_480 : decode cL_law 480 = .ok (.aload_n 1, 1) := by decide +kernel
theorem dL_law_481 : decode cL_law 481 = .ok (.aload_n 0, 1) := by decide +kernel
theorem dL_law_482 : decode cL_law 482 = .ok (.iload_n 3, 1) := by decide +kernel
theorem dL_law_483 : decode cL_law 483 = .ok (.iconst 1, 1) := by decide +kernel
theorem dL_law_484 : decode cL_law 484 = .ok (.iadd, 1) := by decide +kernel
theorem dL_law_485 : decode cL_law 485 = .ok (.iaload, 1) := by decide +kernel
theorem dL_law_486 : decode cL_law 486 = .ok (.aload_n 0, 1) := by decide +kernel
theorem dL_law_487 : decode cL_law 487 = .ok (.iload_n 3, 1) := by decide +kernel
theorem dL_law_488 : decode cL_law 488 = .ok (.iconst 2, 1) := by decide +kernel
theorem dL_law_489 : decode cL_law 489 = .ok (.iadd, 1) := by decide +kernel
theorem dL_law_490 : decode cL_law 490 = .ok (.iaload, 1) := by decide +kernel
theorem dL_law_491 : decode cL_law 491 = .ok (.aload_n 0, 1) := by decide +kernel
theorem dL_law_492 : decode cL_law 492 = .ok (.iload_n 3, 1) := by decide +kernel
theorem dL_law_493 : decode cL_law 493 = .ok (.iconst 3, 1) := by decide +kernel
theorem dL_law_494 : decode cL_law 494 = .ok (.iadd, 1) := by decide +kernel
theorem dL_law_495 : decode cL_law 495 = .ok (.iaload, 1) := by decide +kernel
theorem dL_law_496 : decode cL_law 496 = .ok (.aload_n 0, 1) := by decide +kernel
theorem dL_law_497 : decode cL_law 497 = .ok (.iload_n 3, 1) := by decide +kernel
theorem dL_law_498 : decode cL_law 498 = .ok (.iconst 4, 1) := by decide +kernel
theorem dL_law_499 : decode cL_law 499 = .ok (.iadd, 1) := by decide +kernel
theorem dL_law_500 : decode cL_law 500 = .ok (.iaload, 1) := by decide +kernel
theorem dL_law_501 : decode cL_law 501 = .ok (.aload_n 0, 1) := by decide +kernel
theorem dL_law_502 : decode cL_law 502 = .ok (.iload_n 3, 1) := by decide +kernel
theorem dL_law_503 : decode cL_law 503 = .ok (.iconst 5, 1) := by decide +kernel
theorem dL_law_504 : decode cL_law 504 = .ok (.iadd, 1) := by decide +kernel
theorem dL_law_505 : decode cL_law 505 = .ok (.iaload, 1) := by decide +kernel
theorem dL_law_506 : decode cL_law 506 = .ok (.aload_n 0, 1) := by decide +kernel
theorem dL_law_507 : decode cL_law 507 = .ok (.iload_n 3, 1) := by decide +kernel
theorem dL_law_508 : decode cL_law 508 = .ok (.bipush 6, 2) := by decide +kernel
theorem dL_law_510 : decode cL_law 510 = .ok (.iadd, 1) := by decide +kernel
theorem dL_law_511 : decode cL_law 511 = .ok (.iaload, 1) := by decide +kernel
theorem dL_law_512 : decode cL_law 512 = .ok (.invokevirtual 52, 3) := by decide +kernel
theorem dL_law_515 : decode cL_law 515 = .ok (.aload_n 2, 1) := by decide +kernel
theorem dL_law_516 : decode cL_law 516 = .ok (.aload_n 0, 1) := by decide +kernel
theorem dL_law_517 : decode cL_law 517 = .ok (.iload_n 3, 1) := by decide +kernel
theorem dL_law_518 : decode cL_law 518 = .ok (.iconst 1, 1) := by decide +kernel
theorem dL_law_519 : decode cL_law 519 = .ok (.iadd, 1) := by decide +kernel
theorem dL_law_520 : decode cL_law 520 = .ok (.iaload, 1) := by decide +kernel
theorem dL_law_521 : decode cL_law 521 = .ok (.aload_n 0, 1) := by decide +kernel
theorem dL_law_522 : decode cL_law 522 = .ok (.iload_n 3, 1) := by decide +kernel
theorem dL_law_523 : decode cL_law 523 = .ok (.iconst 2, 1) := by decide +kernel
theorem dL_law_524 : decode cL_law 524 = .ok (.iadd, 1) := by decide +kernel
theorem dL_law_525 : decode cL_law 525 = .ok (.iaload, 1) := by decide +kernel
theorem dL_law_526 : decode cL_law 526 = .ok (.aload_n 0, 1) := by decide +kernel
theorem dL_law_527 : decode cL_law 527 = .ok (.iload_n 3, 1) := by decide +kernel
theorem dL_law_528 : decode cL_law 528 = .ok (.iconst 3, 1) := by decide +kernel
theorem dL_law_529 : decode cL_law 529 = .ok (.iadd, 1) := by decide +kernel
theorem dL_law_530 : decode cL_law 530 = .ok (.iaload, 1) := by decide +kernel
theorem dL_law_531 : decode cL_law 531 = .ok (.aload_n 0, 1) := by decide +kernel
theorem dL_law_532 : decode cL_law 532 = .ok (.iload_n 3, 1) := by decide +kernel
theorem dL_law_533 : decode cL_law 533 = .ok (.iconst 4, 1) := by decide +kernel
theorem dL_law_534 : decode cL_law 534 = .ok (.iadd, 1) := by decide +kernel
theorem dL_law_535 : decode cL_law 535 = .ok (.iaload, 1) := by decide +kernel
theorem dL_law_536 : decode cL_law 536 = .ok (.aload_n 0, 1) := by decide +kernel
theorem dL_law_537 : decode cL_law 537 = .ok (.iload_n 3, 1) := by decide +kernel
theorem dL_law_538 : decode cL_law 538 = .ok (.iconst 5, 1) := by decide +kernel
theorem dL_law_539 : decode cL_law 539 = .ok (.iadd, 1) := by decide +kernel
theorem dL_law_540 : decode cL_law 540 = .ok (.iaload, 1) := by decide +kernel
theorem dL_law_541 : decode cL_law 541 = .ok (.aload_n 0, 1) := by decide +kernel
theorem dL_law_542 : decode cL_law 542 = .ok (.iload_n 3, 1) := by decide +kernel
theorem dL_law_543 : decode cL_law 543 = .ok (.bipush 6, 2) := by decide +kernel
theorem dL_law_545 : decode cL_law 545 = .ok (.iadd, 1) := by decide +kernel
theorem dL_law_546 : decode cL_law 546 = .ok (.iaload, 1) := by decide +kernel
theorem dL_law_547 : decode cL_law 547 = .ok (.invokevirtual 56, 3) := by decide +kernel
theorem dL_law_550 : decode cL_law 550 = .ok (.if_icmp .eq 424, 3) := by decide +kernel
theorem dL_law_553 : decode cL_law 553 = .ok (.iconst 0, 1) := by decide +kernel
theorem dL_law_554 : decode cL_law 554 = .ok (.ireturn, 1) := by decide +kernel
theorem dL_law_555 : decode cL_law 555 = .ok (.aload_n 1, 1) := by decide +kernel
theorem dL_law_556 : decode cL_law 556 = .ok (.aload_n 0, 1) := by decide +kernel
theorem dL_law_557 : decode cL_law 557 = .ok (.iload_n 3, 1) := by decide +kernel
theorem dL_law_558 : decode cL_law 558 = .ok (.iconst 1, 1) := by decide +kernel
theorem dL_law_559 : decode cL_law 559 = .ok (.iadd, 1) := by decide +kernel
theorem dL_law_560 : decode cL_law 560 = .ok (.iaload, 1) := by decide +kernel
theorem dL_law_561 : decode cL_law 561 = .ok (.aload_n 0, 1) := by decide +kernel
theorem dL_law_562 : decode cL_law 562 = .ok (.iload_n 3, 1) := by decide +kernel
theorem dL_law_563 : decode cL_law 563 = .ok (.iconst 2, 1) := by decide +kernel
theorem dL_law_564 : decode cL_law 564 = .ok (.iadd, 1) := by decide +kernel
theorem dL_law_565 : decode cL_law 565 = .ok (.iaload, 1) := by decide +kernel
theorem dL_law_566 : decode cL_law 566 = .ok (.aload_n 0, 1) := by decide +kernel
theorem dL_law_567 : decode cL_law 567 = .ok (.iload_n 3, 1) := by decide +kernel
theorem dL_law_568 : decode cL_law 568 = .ok (.iconst 3, 1) := by decide +kernel
theorem dL_law_569 : decode cL_law 569 = .ok (.iadd, 1) := by decide +kernel
theorem dL_law_570 : decode cL_law 570 = .ok (.iaload, 1) := by decide +kernel
theorem dL_law_571 : decode cL_law 571 = .ok (.aload_n 0, 1) := by decide +kernel
theorem dL_law_572 : decode cL_law 572 = .ok (.iload_n 3, 1) := by decide +kernel
theorem dL_law_573 : decode cL_law 573 = .ok (.iconst 4, 1) := by decide +kernel
theorem dL_law_574 : decode cL_law 574 = .ok (.iadd, 1) := by decide +kernel
theorem dL_law_575 : decode cL_law 575 = .ok (.iaload, 1) := by decide +kernel
theorem dL_law_576 : decode cL_law 576 = .ok (.aload_n 0, 1) := by decide +kernel
theorem dL_law_577 : decode cL_law 577 = .ok (.iload_n 3, 1) := by decide +kernel
theorem dL_law_578 : decode cL_law 578 = .ok (.iconst 5, 1) := by decide +kernel
theorem dL_law_579 : decode cL_law 579 = .ok (.iadd, 1) := by decide +kernel
theorem dL_law_580 : decode cL_law 580 = .ok (.iaload, 1) := by decide +kernel
theorem dL_law_581 : decode cL_law 581 = .ok (.aload_n 0, 1) := by decide +kernel
theorem dL_law_582 : decode cL_law 582 = .ok (.iload_n 3, 1) := by decide +kernel
theorem dL_law_583 : decode cL_law 583 = .ok (.bipush 6, 2) := by decide +kernel
theorem dL_law_585 : decode cL_law 585 = .ok (.iadd, 1) := by decide +kernel
theorem dL_law_586 : decode cL_law 586 = .ok (.iaload, 1) := by decide +kernel
theorem dL_law_587 : decode cL_law 587 = .ok (.invokevirtual 57, 3) := by decide +kernel
theorem dL_law_590 : decode cL_law 590 = .ok (.aload_n 2, 1) := by decide +kernel
theorem dL_law_591 : decode cL_law 591 = .ok (.aload_n 0, 1) := by decide +kernel
theorem dL_law_592 : decode cL_law 592 = .ok (.iload_n 3, 1) := by decide +kernel
theorem dL_law_593 : decode cL_law 593 = .ok (.iconst 1, 1) := by decide +kernel
theorem dL_law_594 : decode cL_law 594 = .ok (.iadd, 1) := by decide +kernel
theorem dL_law_595 : decode cL_law 595 = .ok (.iaload, 1) := by decide +kernel
theorem dL_law_596 : decode cL_law 596 = .ok (.aload_n 0, 1) := by decide +kernel
theorem dL_law_597 : decode cL_law 597 = .ok (.iload_n 3, 1) := by decide +kernel
theorem dL_law_598 : decode cL_law 598 = .ok (.iconst 2, 1) := by decide +kernel
theorem dL_law_599 : decode cL_law 599 = .ok (.iadd, 1) := by decide +kernel
theorem dL_law_600 : decode cL_law 600 = .ok (.iaload, 1) := by decide +kernel
theorem dL_law_601 : decode cL_law 601 = .ok (.aload_n 0, 1) := by decide +kernel
theorem dL_law_602 : decode cL_law 602 = .ok (.iload_n 3, 1) := by decide +kernel
theorem dL_law_603 : decode cL_law 603 = .ok (.iconst 3, 1) := by decide +kernel
theorem dL_law_604 : decode cL_law 604 = .ok (.iadd, 1) := by decide +kernel
theorem dL_law_605 : decode cL_law 605 = .ok (.iaload, 1) := by decide +kernel
theorem dL_law_606 : decode cL_law 606 = .ok (.aload_n 0, 1) := by decide +kernel
theorem dL_law_607 : decode cL_law 607 = .ok (.iload_n 3, 1) := by decide +kernel
theorem dL_law_608 : decode cL_law 608 = .ok (.iconst 4, 1) := by decide +kernel
theorem dL_law_609 : decode cL_law 609 = .ok (.iadd, 1) := by decide +kernel
theorem dL_law_610 : decode cL_law 610 = .ok (.iaload, 1) := by decide +kernel
theorem dL_law_611 : decode cL_law 611 = .ok (.aload_n 0, 1) := by decide +kernel
theorem dL_law_612 : decode cL_law 612 = .ok (.iload_n 3, 1) := by decide +kernel
theorem dL_law_613 : decode cL_law 613 = .ok (.iconst 5, 1) := by decide +kernel
theorem dL_law_614 : decode cL_law 614 = .ok (.iadd, 1) := by decide +kernel
theorem dL_law_615 : decode cL_law 615 = .ok (.iaload, 1) := by decide +kernel
theorem dL_law_616 : decode cL_law 616 = .ok (.aload_n 0, 1) := by decide +kernel
theorem dL_law_617 : decode cL_law 617 = .ok (.iload_n 3, 1) := by decide +kernel
theorem dL_law_618 : decode cL_law 618 = .ok (.bipush 6, 2) := by decide +kernel
theorem dL_law_620 : decode cL_law 620 = .ok (.iadd, 1) := by decide +kernel
theorem dL_law_621 : decode cL_law 621 = .ok (.iaload, 1) := by decide +kernel
theorem dL_law_622 : decode cL_law 622 = .ok (.invokevirtual 60, 3) := by decide +kernel
theorem dL_law_625 : decode cL_law 625 = .ok (.if_icmp .eq 349, 3) := by decide +kernel
theorem dL_law_628 : decode cL_law 628 = .ok (.iconst 0, 1) := by decide +kernel
theorem dL_law_629 : decode cL_law 629 = .ok (.ireturn, 1) := by decide +kernel
theorem dL_law_630 : decode cL_law 630 = .ok (.aload_n 1, 1) := by decide +kernel
theorem dL_law_631 : decode cL_law 631 = .ok (.aload_n 0, 1) := by decide +kernel
theorem dL_law_632 : decode cL_law 632 = .ok (.iload_n 3, 1) := by decide +kernel
theorem dL_law_633 : decode cL_law 633 = .ok (.iconst 1, 1) := by decide +kernel
theorem dL_law_634 : decode cL_law 634 = .ok (.iadd, 1) := by decide +kernel
theorem dL_law_635 : decode cL_law 635 = .ok (.iaload, 1) := by decide +kernel
theorem dL_law_636 : decode cL_law 636 = .ok (.aload_n 0, 1) := by decide +kernel
theorem dL_law_637 : decode cL_law 637 = .ok (.iload_n 3, 1) := by decide +kernel
theorem dL_law_638 : decode cL_law 638 = .ok (.iconst 2, 1) := by decide +kernel
theorem dL_law_639 : decode cL_law 639 = .ok (.iadd, 1) := by decide +kernel
theorem dL_law_640 : decode cL_law 640 = .ok (.iaload, 1) := by decide +kernel
theorem dL_law_641 : decode cL_law 641 = .ok (.aload_n 0, 1) := by decide +kernel
theorem dL_law_642 : decode cL_law 642 = .ok (.iload_n 3, 1) := by decide +kernel
theorem dL_law_643 : decode cL_law 643 = .ok (.iconst 3, 1) := by decide +kernel
theorem dL_law_644 : decode cL_law 644 = .ok (.iadd, 1) := by decide +kernel
theorem dL_law_645 : decode cL_law 645 = .ok (.iaload, 1) := by decide +kernel
theorem dL_law_646 : decode cL_law 646 = .ok (.invokevirtual 61, 3) := by decide +kernel
theorem dL_law_649 : decode cL_law 649 = .ok (.aload_n 2, 1) := by decide +kernel
theorem dL_law_650 : decode cL_law 650 = .ok (.aload_n 0, 1) := by decide +kernel
theorem dL_law_651 : decode cL_law 651 = .ok (.iload_n 3, 1) := by decide +kernel
theorem dL_law_652 : decode cL_law 652 = .ok (.iconst 1, 1) := by decide +kernel
theorem dL_law_653 : decode cL_law 653 = .ok (.iadd, 1) := by decide +kernel
theorem dL_law_654 : decode cL_law 654 = .ok (.iaload, 1) := by decide +kernel
theorem dL_law_655 : decode cL_law 655 = .ok (.aload_n 0, 1) := by decide +kernel
theorem dL_law_656 : decode cL_law 656 = .ok (.iload_n 3, 1) := by decide +kernel
theorem dL_law_657 : decode cL_law 657 = .ok (.iconst 2, 1) := by decide +kernel
theorem dL_law_658 : decode cL_law 658 = .ok (.iadd, 1) := by decide +kernel
theorem dL_law_659 : decode cL_law 659 = .ok (.iaload, 1) := by decide +kernel
theorem dL_law_660 : decode cL_law 660 = .ok (.aload_n 0, 1) := by decide +kernel
theorem dL_law_661 : decode cL_law 661 = .ok (.iload_n 3, 1) := by decide +kernel
theorem dL_law_662 : decode cL_law 662 = .ok (.iconst 3, 1) := by decide +kernel
theorem dL_law_663 : decode cL_law 663 = .ok (.iadd, 1) := by decide +kernel
theorem dL_law_664 : decode cL_law 664 = .ok (.iaload, 1) := by decide +kernel
theorem dL_law_665 : decode cL_law 665 = .ok (.invokevirtual 64, 3) := by decide +kernel
theorem dL_law_668 : decode cL_law 668 = .ok (.if_icmp .eq 306, 3) := by decide +kernel
theorem dL_law_671 : decode cL_law 671 = .ok (.iconst 0, 1) := by decide +kernel
theorem dL_law_672 : decode cL_law 672 = .ok (.ireturn, 1) := by decide +kernel
theorem dL_law_673 : decode cL_law 673 = .ok (.aload_n 1, 1) := by decide +kernel
theorem dL_law_674 : decode cL_law 674 = .ok (.aload_n 0, 1) := by decide +kernel
theorem dL_law_675 : decode cL_law 675 = .ok (.iload_n 3, 1) := by decide +kernel
theorem dL_law_676 : decode cL_law 676 = .ok (.iconst 1, 1) := by decide +kernel
theorem dL_law_677 : decode cL_law 677 = .ok (.iadd, 1) := by decide +kernel
theorem dL_law_678 : decode cL_law 678 = .ok (.iaload, 1) := by decide +kernel
theorem dL_law_679 : decode cL_law 679 = .ok (.aload_n 0, 1) := by decide +kernel
theorem dL_law_680 : decode cL_law 680 = .ok (.iload_n 3, 1) := by decide +kernel
theorem dL_law_681 : decode cL_law 681 = .ok (.iconst 2, 1) := by decide +kernel
theorem dL_law_682 : decode cL_law 682 = .ok (.iadd, 1) := by decide +kernel
theorem dL_law_683 : decode cL_law 683 = .ok (.iaload, 1) := by decide +kernel
theorem dL_law_684 : decode cL_law 684 = .ok (.ifCond .eq 7, 3) := by decide +kernel
theorem dL_law_687 : decode cL_law 687 = .ok (.iconst 1, 1) := by decide +kernel
theorem dL_law_688 : decode cL_law 688 = .ok (.goto 4, 3) := by decide +kernel
theorem dL_law_691 : decode cL_law 691 = .ok (.iconst 0, 1) := by decide +kernel
theorem dL_law_692 : decode cL_law 692 = .ok (.invokevirtual 65, 3) := by decide +kernel
theorem dL_law_695 : decode cL_law 695 = .ok (.aload_n 2, 1) := by decide +kernel
theorem dL_law_696 : decode cL_law 696 = .ok (.aload_n 0, 1) := by decide +kernel
theorem dL_law_697 : decode cL_law 697 = .ok (.iload_n 3, 1) := by decide +kernel
theorem dL_law_698 : decode cL_law 698 = .ok (.iconst 1, 1) := by decide +kernel
theorem dL_law_699 : decode cL_law 699 = .ok (.iadd, 1) := by decide +kernel
theorem dL_law_700 : decode cL_law 700 = .ok (.iaload, 1) := by decide +kernel
theorem dL_law_701 : decode cL_law 701 = .ok (.aload_n 0, 1) := by decide +kernel
theorem dL_law_702 : decode cL_law 702 = .ok (.iload_n 3, 1) := by decide +kernel
theorem dL_law_703 : decode cL_law 703 = .ok (.iconst 2, 1) := by decide +kernel
theorem dL_law_704 : decode cL_law 704 = .ok (.iadd, 1) := by decide +kernel
theorem dL_law_705 : decode cL_law 705 = .ok (.iaload, 1) := by decide +kernel
theorem dL_law_706 : decode cL_law 706 = .ok (.ifCond .eq 7, 3) := by decide +kernel
theorem dL_law_709 : decode cL_law 709 = .ok (.iconst 1, 1) := by decide +kernel
theorem dL_law_710 : decode cL_law 710 = .ok (.goto 4, 3) := by decide +kernel
theorem dL_law_713 : decode cL_law 713 = .ok (.iconst 0, 1) := by decide +kernel
theorem dL_law_714 : decode cL_law 714 = .ok (.invokevirtual 69, 3) := by decide +kernel
theorem dL_law_717 : decode cL_law 717 = .ok (.if_icmp .eq 257, 3) := by decide +kernel
theorem dL_law_720 : decode cL_law 720 = .ok (.iconst 0, 1) := by decide +kernel
theorem dL_law_721 : decode cL_law 721 = .ok (.ireturn, 1) := by decide +kernel
theorem dL_law_722 : decode cL_law 722 = .ok (.aload_n 1, 1) := by decide +kernel
theorem dL_law_723 : decode cL_law 723 = .ok (.aload_n 0, 1) := by decide +kernel
theorem dL_law_724 : decode cL_law 724 = .ok (.iload_n 3, 1) := by decide +kernel
theorem dL_law_725 : decode cL_law 725 = .ok (.iconst 1, 1) := by decide +kernel
theorem dL_law_726 : decode cL_law 726 = .ok (.iadd, 1) := by decide +kernel
theorem dL_law_727 : decode cL_law 727 = .ok (.iaload, 1) := by decide +kernel
theorem dL_law_728 : decode cL_law 728 = .ok (.aload_n 0, 1) := by decide +kernel
theorem dL_law_729 : decode cL_law 729 = .ok (.iload_n 3, 1) := by decide +kernel
theorem dL_law_730 : decode cL_law 730 = .ok (.iconst 2, 1) := by decide +kernel
theorem dL_law_731 : decode cL_law 731 = .ok (.iadd, 1) := by decide +kernel
theorem dL_law_732 : decode cL_law 732 = .ok (.iaload, 1) := by decide +kernel
theorem dL_law_733 : decode cL_law 733 = .ok (.invokevirtual 70, 3) := by decide +kernel
theorem dL_law_736 : decode cL_law 736 = .ok (.aload_n 2, 1) := by decide +kernel
theorem dL_law_737 : decode cL_law 737 = .ok (.aload_n 0, 1) := by decide +kernel
theorem dL_law_738 : decode cL_law 738 = .ok (.iload_n 3, 1) := by decide +kernel
theorem dL_law_739 : decode cL_law 739 = .ok (.iconst 1, 1) := by decide +kernel
theorem dL_law_740 : decode cL_law 740 = .ok (.iadd, 1) := by decide +kernel
theorem dL_law_741 : decode cL_law 741 = .ok (.iaload, 1) := by decide +kernel
theorem dL_law_742 : decode cL_law 742 = .ok (.aload_n 0, 1) := by decide +kernel
theorem dL_law_743 : decode cL_law 743 = .ok (.iload_n 3, 1) := by decide +kernel
theorem dL_law_744 : decode cL_law 744 = .ok (.iconst 2, 1) := by decide +kernel
theorem dL_law_745 : decode cL_law 745 = .ok (.iadd, 1) := by decide +kernel
theorem dL_law_746 : decode cL_law 746 = .ok (.iaload, 1) := by decide +kernel
theorem dL_law_747 : decode cL_law 747 = .ok (.invokevirtual 74, 3) := by decide +kernel
theorem dL_law_750 : decode cL_law 750 = .ok (.lcmp, 1) := by decide +kernel
theorem dL_law_751 : decode cL_law 751 = .ok (.ifCond .eq 223, 3) := by decide +kernel
theorem dL_law_754 : decode cL_law 754 = .ok (.iconst 0, 1) := by decide +kernel
theorem dL_law_755 : decode cL_law 755 = .ok (.ireturn, 1) := by decide +kernel
theorem dL_law_756 : decode cL_law 756 = .ok (.aload_n 1, 1) := by decide +kernel
theorem dL_law_757 : decode cL_law 757 = .ok (.aload_n 0, 1) := by decide +kernel
theorem dL_law_758 : decode cL_law 758 = .ok (.iload_n 3, 1) := by decide +kernel
theorem dL_law_759 : decode cL_law 759 = .ok (.iconst 1, 1) := by decide +kernel
theorem dL_law_760 : decode cL_law 760 = .ok (.iadd, 1) := by decide +kernel
theorem dL_law_761 : decode cL_law 761 = .ok (.iaload, 1) := by decide +kernel
theorem dL_law_762 : decode cL_law 762 = .ok (.aload_n 0, 1) := by decide +kernel
theorem dL_law_763 : decode cL_law 763 = .ok (.iload_n 3, 1) := by decide +kernel
theorem dL_law_764 : decode cL_law 764 = .ok (.iconst 2, 1) := by decide +kernel
theorem dL_law_765 : decode cL_law 765 = .ok (.iadd, 1) := by decide +kernel
theorem dL_law_766 : decode cL_law 766 = .ok (.iaload, 1) := by decide +kernel
theorem dL_law_767 : decode cL_law 767 = .ok (.invokevirtual 75, 3) := by decide +kernel
theorem dL_law_770 : decode cL_law 770 = .ok (.aload_n 2, 1) := by decide +kernel
theorem dL_law_771 : decode cL_law 771 = .ok (.aload_n 0, 1) := by decide +kernel
theorem dL_law_772 : decode cL_law 772 = .ok (.iload_n 3, 1) := by decide +kernel
theorem dL_law_773 : decode cL_law 773 = .ok (.iconst 1, 1) := by decide +kernel
theorem dL_law_774 : decode cL_law 774 = .ok (.iadd, 1) := by decide +kernel
theorem dL_law_775 : decode cL_law 775 = .ok (.iaload, 1) := by decide +kernel
theorem dL_law_776 : decode cL_law 776 = .ok (.aload_n 0, 1) := by decide +kernel
theorem dL_law_777 : decode cL_law 777 = .ok (.iload_n 3, 1) := by decide +kernel
theorem dL_law_778 : decode cL_law 778 = .ok (.iconst 2, 1) := by decide +kernel
theorem dL_law_779 : decode cL_law 779 = .ok (.iadd, 1) := by decide +kernel
theorem dL_law_780 : decode cL_law 780 = .ok (.iaload, 1) := by decide +kernel
theorem dL_law_781 : decode cL_law 781 = .ok (.invokevirtual 79, 3) := by decide +kernel
theorem dL_law_784 : decode cL_law 784 = .ok (.if_icmp .eq 190, 3) := by decide +kernel
theorem dL_law_787 : decode cL_law 787 = .ok (.iconst 0, 1) := by decide +kernel
theorem dL_law_788 : decode cL_law 788 = .ok (.ireturn, 1) := by decide +kernel
theorem dL_law_789 : decode cL_law 789 = .ok (.aload_n 1, 1) := by decide +kernel
theorem dL_law_790 : decode cL_law 790 = .ok (.aload_n 0, 1) := by decide +kernel
theorem dL_law_791 : decode cL_law 791 = .ok (.iload_n 3, 1) := by decide +kernel
theorem dL_law_792 : decode cL_law 792 = .ok (.iconst 1, 1) := by decide +kernel
theorem dL_law_793 : decode cL_law 793 = .ok (.iadd, 1) := by decide +kernel
theorem dL_law_794 : decode cL_law 794 = .ok (.iaload, 1) := by decide +kernel
theorem dL_law_795 : decode cL_law 795 = .ok (.invokevirtual 80, 3) := by decide +kernel
theorem dL_law_798 : decode cL_law 798 = .ok (.aload_n 2, 1) := by decide +kernel
theorem dL_law_799 : decode cL_law 799 = .ok (.aload_n 0, 1) := by decide +kernel
theorem dL_law_800 : decode cL_law 800 = .ok (.iload_n 3, 1) := by decide +kernel
theorem dL_law_801 : decode cL_law 801 = .ok (.iconst 1, 1) := by decide +kernel
theorem dL_law_802 : decode cL_law 802 = .ok (.iadd, 1) := by decide +kernel
theorem dL_law_803 : decode cL_law 803 = .ok (.iaload, 1) := by decide +kernel
theorem dL_law_804 : decode cL_law 804 = .ok (.invokevirtual 83, 3) := by decide +kernel
theorem dL_law_807 : decode cL_law 807 = .ok (.if_icmp .eq 167, 3) := by decide +kernel
theorem dL_law_810 : decode cL_law 810 = .ok (.iconst 0, 1) := by decide +kernel
theorem dL_law_811 : decode cL_law 811 = .ok (.ireturn, 1) := by decide +kernel
theorem dL_law_812 : decode cL_law 812 = .ok (.aload_n 1, 1) := by decide +kernel
theorem dL_law_813 : decode cL_law 813 = .ok (.aload_n 0, 1) := by decide +kernel
theorem dL_law_814 : decode cL_law 814 = .ok (.iload_n 3, 1) := by decide +kernel
theorem dL_law_815 : decode cL_law 815 = .ok (.iconst 1, 1) := by decide +kernel
theorem dL_law_816 : decode cL_law 816 = .ok (.iadd, 1) := by decide +kernel
theorem dL_law_817 : decode cL_law 817 = .ok (.iaload, 1) := by decide +kernel
theorem dL_law_818 : decode cL_law 818 = .ok (.aload_n 0, 1) := by decide +kernel
theorem dL_law_819 : decode cL_law 819 = .ok (.iload_n 3, 1) := by decide +kernel
theorem dL_law_820 : decode cL_law 820 = .ok (.iconst 2, 1) := by decide +kernel
theorem dL_law_821 : decode cL_law 821 = .ok (.iadd, 1) := by decide +kernel
theorem dL_law_822 : decode cL_law 822 = .ok (.iaload, 1) := by decide +kernel
theorem dL_law_823 : decode cL_law 823 = .ok (.invokevirtual 84, 3) := by decide +kernel
theorem dL_law_826 : decode cL_law 826 = .ok (.aload_n 2, 1) := by decide +kernel
theorem dL_law_827 : decode cL_law 827 = .ok (.aload_n 0, 1) := by decide +kernel
theorem dL_law_828 : decode cL_law 828 = .ok (.iload_n 3, 1) := by decide +kernel
theorem dL_law_829 : decode cL_law 829 = .ok (.iconst 1, 1) := by decide +kernel
theorem dL_law_830 : decode cL_law 830 = .ok (.iadd, 1) := by decide +kernel
theorem dL_law_831 : decode cL_law 831 = .ok (.iaload, 1) := by decide +kernel
theorem dL_law_832 : decode cL_law 832 = .ok (.aload_n 0, 1) := by decide +kernel
theorem dL_law_833 : decode cL_law 833 = .ok (.iload_n 3, 1) := by decide +kernel
theorem dL_law_834 : decode cL_law 834 = .ok (.iconst 2, 1) := by decide +kernel
theorem dL_law_835 : decode cL_law 835 = .ok (.iadd, 1) := by decide +kernel
theorem dL_law_836 : decode cL_law 836 = .ok (.iaload, 1) := by decide +kernel
theorem dL_law_837 : decode cL_law 837 = .ok (.invokevirtual 87, 3) := by decide +kernel
theorem dL_law_840 : decode cL_law 840 = .ok (.if_icmp .eq 134, 3) := by decide +kernel
theorem dL_law_843 : decode cL_law 843 = .ok (.iconst 0, 1) := by decide +kernel
theorem dL_law_844 : decode cL_law 844 = .ok (.ireturn, 1) := by decide +kernel
theorem dL_law_845 : decode cL_law 845 = .ok (.aload_n 1, 1) := by decide +kernel
theorem dL_law_846 : decode cL_law 846 = .ok (.aload_n 0, 1) := by decide +kernel
theorem dL_law_847 : decode cL_law 847 = .ok (.iload_n 3, 1) := by decide +kernel
theorem dL_law_848 : decode cL_law 848 = .ok (.iconst 1, 1) := by decide +kernel
theorem dL_law_849 : decode cL_law 849 = .ok (.iadd, 1) := by decide +kernel
theorem dL_law_850 : decode cL_law 850 = .ok (.iaload, 1) := by decide +kernel
theorem dL_law_851 : decode cL_law 851 = .ok (.invokevirtual 88, 3) := by decide +kernel
theorem dL_law_854 : decode cL_law 854 = .ok (.aload_n 2, 1) := by decide +kernel
theorem dL_law_855 : decode cL_law 855 = .ok (.aload_n 0, 1) := by decide +kernel
theorem dL_law_856 : decode cL_law 856 = .ok (.iload_n 3, 1) := by decide +kernel
theorem dL_law_857 : decode cL_law 857 = .ok (.iconst 1, 1) := by decide +kernel
theorem dL_law_858 : decode cL_law 858 = .ok (.iadd, 1) := by decide +kernel
theorem dL_law_859 : decode cL_law 859 = .ok (.iaload, 1) := by decide +kernel
theorem dL_law_860 : decode cL_law 860 = .ok (.invokevirtual 92, 3) := by decide +kernel
theorem dL_law_863 : decode cL_law 863 = .ok (.lcmp, 1) := by decide +kernel
theorem dL_law_864 : decode cL_law 864 = .ok (.ifCond .eq 110, 3) := by decide +kernel
theorem dL_law_867 : decode cL_law 867 = .ok (.iconst 0, 1) := by decide +kernel
theorem dL_law_868 : decode cL_law 868 = .ok (.ireturn, 1) := by decide +kernel
theorem dL_law_869 : decode cL_law 869 = .ok (.aload_n 1, 1) := by decide +kernel
theorem dL_law_870 : decode cL_law 870 = .ok (.aload_n 0, 1) := by decide +kernel
theorem dL_law_871 : decode cL_law 871 = .ok (.iload_n 3, 1) := by decide +kernel
theorem dL_law_872 : decode cL_law 872 = .ok (.iconst 1, 1) := by decide +kernel
theorem dL_law_873 : decode cL_law 873 = .ok (.iadd, 1) := by decide +kernel
theorem dL_law_874 : decode cL_law 874 = .ok (.iaload, 1) := by decide +kernel
theorem dL_law_875 : decode cL_law 875 = .ok (.invokevirtual 93, 3) := by decide +kernel
theorem dL_law_878 : decode cL_law 878 = .ok (.aload_n 2, 1) := by decide +kernel
theorem dL_law_879 : decode cL_law 879 = .ok (.aload_n 0, 1) := by decide +kernel
theorem dL_law_880 : decode cL_law 880 = .ok (.iload_n 3, 1) := by decide +kernel
theorem dL_law_881 : decode cL_law 881 = .ok (.iconst 1, 1) := by decide +kernel
theorem dL_law_882 : decode cL_law 882 = .ok (.iadd, 1) := by decide +kernel
theorem dL_law_883 : decode cL_law 883 = .ok (.iaload, 1) := by decide +kernel
theorem dL_law_884 : decode cL_law 884 = .ok (.invokevirtual 96, 3) := by decide +kernel
theorem dL_law_887 : decode cL_law 887 = .ok (.if_icmp .eq 87, 3) := by decide +kernel
theorem dL_law_890 : decode cL_law 890 = .ok (.iconst 0, 1) := by decide +kernel
theorem dL_law_891 : decode cL_law 891 = .ok (.ireturn, 1) := by decide +kernel
theorem dL_law_892 : decode cL_law 892 = .ok (.aload_n 1, 1) := by decide +kernel
theorem dL_law_893 : decode cL_law 893 = .ok (.invokevirtual 97, 3) := by decide +kernel
theorem dL_law_896 : decode cL_law 896 = .ok (.aload_n 2, 1) := by decide +kernel
theorem dL_law_897 : decode cL_law 897 = .ok (.invokevirtual 101, 3) := by decide +kernel
theorem dL_law_900 : decode cL_law 900 = .ok (.if_icmp .eq 74, 3) := by decide +kernel
theorem dL_law_903 : decode cL_law 903 = .ok (.iconst 0, 1) := by decide +kernel
theorem dL_law_904 : decode cL_law 904 = .ok (.ireturn, 1) := by decide +kernel
theorem dL_law_905 : decode cL_law 905 = .ok (.aload_n 1, 1) := by decide +kernel
theorem dL_law_906 : decode cL_law 906 = .ok (.aload_n 0, 1) := by decide +kernel
theorem dL_law_907 : decode cL_law 907 = .ok (.iload_n 3, 1) := by decide +kernel
theorem dL_law_908 : decode cL_law 908 = .ok (.iconst 1, 1) := by decide +kernel
theorem dL_law_909 : decode cL_law 909 = .ok (.iadd, 1) := by decide +kernel
theorem dL_law_910 : decode cL_law 910 = .ok (.iaload, 1) := by decide +kernel
theorem dL_law_911 : decode cL_law 911 = .ok (.invokevirtual 102, 3) := by decide +kernel
theorem dL_law_914 : decode cL_law 914 = .ok (.aload_n 2, 1) := by decide +kernel
theorem dL_law_915 : decode cL_law 915 = .ok (.aload_n 0, 1) := by decide +kernel
theorem dL_law_916 : decode cL_law 916 = .ok (.iload_n 3, 1) := by decide +kernel
theorem dL_law_917 : decode cL_law 917 = .ok (.iconst 1, 1) := by decide +kernel
theorem dL_law_918 : decode cL_law 918 = .ok (.iadd, 1) := by decide +kernel
theorem dL_law_919 : decode cL_law 919 = .ok (.iaload, 1) := by decide +kernel
theorem dL_law_920 : decode cL_law 920 = .ok (.invokevirtual 105, 3) := by decide +kernel
theorem dL_law_923 : decode cL_law 923 = .ok (.if_icmp .eq 51, 3) := by decide +kernel
theorem dL_law_926 : decode cL_law 926 = .ok (.iconst 0, 1) := by decide +kernel
theorem dL_law_927 : decode cL_law 927 = .ok (.ireturn, 1) := by decide +kernel
theorem dL_law_928 : decode cL_law 928 = .ok (.aload_n 1, 1) := by decide +kernel
theorem dL_law_929 : decode cL_law 929 = .ok (.aload_n 0, 1) := by decide +kernel
theorem dL_law_930 : decode cL_law 930 = .ok (.iload_n 3, 1) := by decide +kernel
theorem dL_law_931 : decode cL_law 931 = .ok (.iconst 1, 1) := by decide +kernel
theorem dL_law_932 : decode cL_law 932 = .ok (.iadd, 1) := by decide +kernel
theorem dL_law_933 : decode cL_law 933 = .ok (.iaload, 1) := by decide +kernel
theorem dL_law_934 : decode cL_law 934 = .ok (.invokevirtual 106, 3) := by decide +kernel
theorem dL_law_937 : decode cL_law 937 = .ok (.aload_n 2, 1) := by decide +kernel
theorem dL_law_938 : decode cL_law 938 = .ok (.aload_n 0, 1) := by decide +kernel
theorem dL_law_939 : decode cL_law 939 = .ok (.iload_n 3, 1) := by decide +kernel
theorem dL_law_940 : decode cL_law 940 = .ok (.iconst 1, 1) := by decide +kernel
theorem dL_law_941 : decode cL_law 941 = .ok (.iadd, 1) := by decide +kernel
theorem dL_law_942 : decode cL_law 942 = .ok (.iaload, 1) := by decide +kernel
theorem dL_law_943 : decode cL_law 943 = .ok (.invokevirtual 109, 3) := by decide +kernel
theorem dL_law_946 : decode cL_law 946 = .ok (.if_icmp .eq 28, 3) := by decide +kernel
theorem dL_law_949 : decode cL_law 949 = .ok (.iconst 0, 1) := by decide +kernel
theorem dL_law_950 : decode cL_law 950 = .ok (.ireturn, 1) := by decide +kernel
theorem dL_law_951 : decode cL_law 951 = .ok (.aload_n 1, 1) := by decide +kernel
theorem dL_law_952 : decode cL_law 952 = .ok (.aload_n 0, 1) := by decide +kernel
theorem dL_law_953 : decode cL_law 953 = .ok (.iload_n 3, 1) := by decide +kernel
theorem dL_law_954 : decode cL_law 954 = .ok (.iconst 1, 1) := by decide +kernel
theorem dL_law_955 : decode cL_law 955 = .ok (.iadd, 1) := by decide +kernel
theorem dL_law_956 : decode cL_law 956 = .ok (.iaload, 1) := by decide +kernel
theorem dL_law_957 : decode cL_law 957 = .ok (.invokevirtual 110, 3) := by decide +kernel
theorem dL_law_960 : decode cL_law 960 = .ok (.aload_n 2, 1) := by decide +kernel
theorem dL_law_961 : decode cL_law 961 = .ok (.aload_n 0, 1) := by decide +kernel
theorem dL_law_962 : decode cL_law 962 = .ok (.iload_n 3, 1) := by decide +kernel
theorem dL_law_963 : decode cL_law 963 = .ok (.iconst 1, 1) := by decide +kernel
theorem dL_law_964 : decode cL_law 964 = .ok (.iadd, 1) := by decide +kernel
theorem dL_law_965 : decode cL_law 965 = .ok (.iaload, 1) := by decide +kernel
theorem dL_law_966 : decode cL_law 966 = .ok (.invokevirtual 113, 3) := by decide +kernel
theorem dL_law_969 : decode cL_law 969 = .ok (.if_icmp .eq 5, 3) := by decide +kernel
theorem dL_law_972 : decode cL_law 972 = .ok (.iconst 0, 1) := by decide +kernel
theorem dL_law_973 : decode cL_law 973 = .ok (.ireturn, 1) := by decide +kernel
theorem dL_law_974 : decode cL_law 974 = .ok (.iinc 3 7, 3) := by decide +kernel
theorem dL_law_977 : decode cL_law 977 = .ok (.goto (-959), 3) := by decide +kernel
theorem dL_law_980 : decode cL_law 980 = .ok (.iconst 1, 1) := by decide +kernel
theorem dL_law_981 : decode cL_law 981 = .ok (.ireturn, 1) := by decide +kernel
end
section
def x_gw : List Cond := lw_tbl.filter goodWord
theorem x_gwp {w : Cond} (i : Nat) (h : (lw_privs.map (fun q => Cond.selects q.1.cls q.1 q.1))[i]? = some w) (hg : goodWord w = true) : w ∈ x_gw := List.mem_filter.mpr ⟨List.mem_append_left _ (by have := List.mem_of_getElem? h; simpa [k2_sels] using this), hg⟩
theorem x_gwt {w : Cond} (i : Nat) (h : tables_1[i]? = some w) (hg : goodWord w = true) : w ∈ x_gw := List.mem_filter.mpr ⟨List.mem_append_right _ (List.mem_of_getElem? h), hg⟩
theorem w_0 : Cond.initialized RL ∈ x_gw := x_gwt 0 (by decide +kernel) (by decide +kernel)
theorem w_1 : Cond.initialized RX10 ∈ x_gw := x_gwt 1 (by decide +kernel) (by decide +kernel)
theorem w_2 : Cond.initialized RJxa1e45 ∈ x_gw := x_gwt 2 (by decide +kernel) (by decide +kernel)
theorem w_3 : Cond.initialized RJxc12de ∈ x_gw := x_gwt 3 (by decide +kernel) (by decide +kernel)
theorem w_4 : Cond.initialized RJx4a65c ∈ x_gw := x_gwt 4 (by decide +kernel) (by decide +kernel)
theorem w_5 : Cond.initialized RX7 ∈ x_gw := x_gwt 5 (by decide +kernel) (by decide +kernel)
theorem w_6 : Cond.initialized RX11 ∈ x_gw := x_gwt 6 (by decide +kernel) (by decide +kernel)
theorem w_7 : Cond.initialized RX9 ∈ x_gw := x_gwt 7 (by decide +kernel) (by decide +kernel)
theorem w_8 : Cond.initialized RJ9 ∈ x_gw := x_gwt 8 (by decide +kernel) (by decide +kernel)
theorem w_9 : Cond.initialized RX6 ∈ x_gw := x_gwt 9 (by decide +kernel) (by decide +kernel)
theorem w_10 : Cond.initialized RJ8 ∈ x_gw := x_gwt 10 (by decide +kernel) (by decide +kernel)
theorem w_11 : Cond.initialized RJ7 ∈ x_gw := x_gwt 11 (by decide +kernel) (by decide +kernel)
theorem w_12 : Cond.initialized RJ10 ∈ x_gw := x_gwt 12 (by decide +kernel) (by decide +kernel)
theorem w_13 : Cond.initialized RJ15 ∈ x_gw := x_gwt 13 (by decide +kernel) (by decide +kernel)
theorem w_14 : Cond.initialized RJ3 ∈ x_gw := x_gwt 14 (by decide +kernel) (by decide +kernel)
theorem w_15 : Cond.initialized RX0 ∈ x_gw := x_gwt 15 (by decide +kernel) (by decide +kernel)
theorem w_16 : Cond.initialized RX4 ∈ x_gw := x_gwt 16 (by decide +kernel) (by decide +kernel)
theorem w_17 : Cond.initialized RX3 ∈ x_gw := x_gwt 17 (by decide +kernel) (by decide +kernel)
theorem w_18 : Cond.initialized RX2 ∈ x_gw := x_gwt 18 (by decide +kernel) (by decide +kernel)
theorem w_19 : Cond.initialized RX1 ∈ x_gw := x_gwt 19 (by decide +kernel) (by decide +kernel)
theorem w_20 : Cond.initialized RX5 ∈ x_gw := x_gwt 20 (by decide +kernel) (by decide +kernel)
theorem w_21 : Cond.initialized RJ6 ∈ x_gw := x_gwt 21 (by decide +kernel) (by decide +kernel)
theorem w_22 : Cond.initialized RX8 ∈ x_gw := x_gwt 22 (by decide +kernel) (by decide +kernel)
theorem w_23 : Cond.classLink RL 7 RX10 ∈ x_gw := x_gwt 23 (by decide +kernel) (by decide +kernel)
theorem w_24 : Cond.instantiable RX10 4 ∈ x_gw := x_gwt 24 (by decide +kernel) (by decide +kernel)
theorem w_25 : Cond.methodLink RL 9 yX10_init ∈ x_gw := x_gwt 25 (by decide +kernel) (by decide +kernel)
theorem w_26 : Cond.instanceMethod yX10_init ∈ x_gw := x_gwt 26 (by decide +kernel) (by decide +kernel)
theorem w_27 : Cond.code ({ cls := "IndexDesk", name := "<init>", desc := "()V" } : Jvm.MethodName) prog_1_method_1_code (1 : Nat) (Option.none : Option Jvm.ClassFile.FieldType) ∈ x_gw := x_gwt 27 (by decide +kernel) (by decide +kernel)
theorem w_28 : Cond.methodLink RX10 1 objectInit ∈ x_gw := x_gwt 28 (by decide +kernel) (by decide +kernel)
theorem w_29 : Cond.instanceMethod objectInit ∈ x_gw := x_gwt 29 (by decide +kernel) (by decide +kernel)
theorem w_30 : Cond.code ({ cls := "java/lang/Object", name := "<init>", desc := "()V" } : Jvm.MethodName) object_method_1_code (1 : Nat) (Option.none : Option Jvm.ClassFile.FieldType) ∈ x_gw := x_gwt 30 (by decide +kernel) (by decide +kernel)
theorem w_31 : Cond.classLink RX10 9 RX9 ∈ x_gw := x_gwt 31 (by decide +kernel) (by decide +kernel)
theorem w_33 : Cond.classLink RX10 15 RJx4a65c ∈ x_gw := x_gwt 33 (by decide +kernel) (by decide +kernel)
theorem w_34 : Cond.instantiable RJx4a65c 3 ∈ x_gw := x_gwt 34 (by decide +kernel) (by decide +kernel)
theorem w_35 : Cond.methodLink RX10 17 yJx4a65c_init_da8c8 ∈ x_gw := x_gwt 35 (by decide +kernel) (by decide +kernel)
theorem w_36 : Cond.instanceMethod yJx4a65c_init_da8c8 ∈ x_gw := x_gwt 36 (by decide +kernel) (by decide +kernel)
theorem w_37 : Cond.code ({ cls := "java/util/ArrayList", name := "<init>", desc := "()V" } : Jvm.MethodName) prog_22_method_2_code (1 : Nat) (Option.none : Option Jvm.ClassFile.FieldType) ∈ x_gw := x_gwt 37 (by decide +kernel) (by decide +kernel)
theorem w_38 : Cond.methodLink RJx4a65c 1 yJxc12de_init_da8c8 ∈ x_gw := x_gwt 38 (by decide +kernel) (by decide +kernel)
theorem w_39 : Cond.instanceMethod yJxc12de_init_da8c8 ∈ x_gw := x_gwt 39 (by decide +kernel) (by decide +kernel)
theorem w_40 : Cond.code ({ cls := "java/util/AbstractList", name := "<init>", desc := "()V" } : Jvm.MethodName) prog_21_method_1_code (1 : Nat) (Option.none : Option Jvm.ClassFile.FieldType) ∈ x_gw := x_gwt 40 (by decide +kernel) (by decide +kernel)
theorem w_41 : Cond.methodLink RJxc12de 1 yJxa1e45_init_da8c8 ∈ x_gw := x_gwt 41 (by decide +kernel) (by decide +kernel)
theorem w_42 : Cond.instanceMethod yJxa1e45_init_da8c8 ∈ x_gw := x_gwt 42 (by decide +kernel) (by decide +kernel)
theorem w_43 : Cond.code ({ cls := "java/util/AbstractCollection", name := "<init>", desc := "()V" } : Jvm.MethodName) prog_20_method_1_code (1 : Nat) (Option.none : Option Jvm.ClassFile.FieldType) ∈ x_gw := x_gwt 43 (by decide +kernel) (by decide +kernel)
theorem w_44 : Cond.methodLink RJxa1e45 1 objectInit ∈ x_gw := x_gwt 44 (by decide +kernel) (by decide +kernel)
theorem w_45 : Cond.fieldLink RJx4a65c 39 "java/util/ArrayList" "DEFAULTCAPACITY_EMPTY_ELEMENTDATA" "[Ljava/lang/Object;" ∈ x_gw := x_gwt 45 (by decide +kernel) (by decide +kernel)
theorem w_47 : Cond.fieldLink RJx4a65c 9 "java/util/ArrayList" "elementData" "[Ljava/lang/Object;" ∈ x_gw := x_gwt 47 (by decide +kernel) (by decide +kernel)
theorem w_48 : Cond.fieldLink RJx4a65c 48 "java/util/ArrayList" "size" "I" ∈ x_gw := x_gwt 48 (by decide +kernel) (by decide +kernel)
theorem w_49 : Cond.fieldLink RJxc12de 7 "java/util/AbstractList" "modCount" "I" ∈ x_gw := x_gwt 49 (by decide +kernel) (by decide +kernel)
theorem w_50 : Cond.fieldLink RJx4a65c 63 "java/util/ArrayList" "modCount" "I" ∈ x_gw := x_gwt 50 (by decide +kernel) (by decide +kernel)
theorem w_51 : Cond.sameField "java/util/ArrayList" "java/util/AbstractList" "modCount" "I" ∈ x_gw := x_gwt 51 (by decide +kernel) (by decide +kernel)
theorem w_52 : Cond.lays RJx4a65c "java/util/ArrayList" "elementData" "[Ljava/lang/Object;" ∈ x_gw := x_gwt 52 (by decide +kernel) (by decide +kernel)
theorem w_54 : Cond.lays RJx4a65c "java/util/ArrayList" "size" "I" ∈ x_gw := x_gwt 54 (by decide +kernel) (by decide +kernel)
theorem w_56 : Cond.lays RJx4a65c "java/util/AbstractList" "modCount" "I" ∈ x_gw := x_gwt 56 (by decide +kernel) (by decide +kernel)
theorem w_58 : Cond.superclass RJx4a65c "java/util/AbstractList" ∈ x_gw := x_gwt 58 (by decide +kernel) (by decide +kernel)
theorem w_59 : Cond.classLink RX10 25 RX7 ∈ x_gw := x_gwt 59 (by decide +kernel) (by decide +kernel)
theorem w_60 : Cond.instantiable RX7 10 ∈ x_gw := x_gwt 60 (by decide +kernel) (by decide +kernel)
theorem w_62 : Cond.instanceMethod yX7_init ∈ x_gw := x_gwt 62 (by decide +kernel) (by decide +kernel)
theorem w_63 : Cond.code ({ cls := "IndexDesk$Scales", name := "<init>", desc := "()V" } : Jvm.MethodName) prog_9_method_1_code (1 : Nat) (Option.none : Option Jvm.ClassFile.FieldType) ∈ x_gw := x_gwt 63 (by decide +kernel) (by decide +kernel)
theorem w_64 : Cond.methodLink RX7 3 objectInit ∈ x_gw := x_gwt 64 (by decide +kernel) (by decide +kernel)
theorem w_65 : Cond.classLink RX7 15 "[[I" ∈ x_gw := x_gwt 65 (by decide +kernel) (by decide +kernel)
theorem w_67 : Cond.fieldLink RX7 44 "IndexDesk$Scales" "questionCount" "I" ∈ x_gw := x_gwt 67 (by decide +kernel) (by decide +kernel)
theorem w_68 : Cond.fieldLink RX7 48 "IndexDesk$Scales" "aidCount" "I" ∈ x_gw := x_gwt 68 (by decide +kernel) (by decide +kernel)
theorem w_69 : Cond.fieldLink RX7 9 "IndexDesk$Scales" "weights" "[I" ∈ x_gw := x_gwt 69 (by decide +kernel) (by decide +kernel)
theorem w_70 : Cond.fieldLink RX7 17 "IndexDesk$Scales" "costs" "[[I" ∈ x_gw := x_gwt 70 (by decide +kernel) (by decide +kernel)
theorem w_71 : Cond.fieldLink RX7 20 "IndexDesk$Scales" "spaces" "[I" ∈ x_gw := x_gwt 71 (by decide +kernel) (by decide +kernel)
theorem w_72 : Cond.fieldLink RX7 23 "IndexDesk$Scales" "upkeep" "[I" ∈ x_gw := x_gwt 72 (by decide +kernel) (by decide +kernel)
theorem w_73 : Cond.fieldLink RX7 26 "IndexDesk$Scales" "rivals" "[I" ∈ x_gw := x_gwt 73 (by decide +kernel) (by decide +kernel)
theorem w_74 : Cond.fieldLink RX7 29 "IndexDesk$Scales" "least" "[[I" ∈ x_gw := x_gwt 74 (by decide +kernel) (by decide +kernel)
theorem w_75 : Cond.fieldLink RX7 112 "IndexDesk$Scales" "best" "I" ∈ x_gw := x_gwt 75 (by decide +kernel) (by decide +kernel)
theorem w_76 : Cond.fieldLink RX7 115 "IndexDesk$Scales" "bestCost" "J" ∈ x_gw := x_gwt 76 (by decide +kernel) (by decide +kernel)
theorem w_77 : Cond.lays RX7 "IndexDesk$Scales" "questionCount" "I" ∈ x_gw := x_gwt 77 (by decide +kernel) (by decide +kernel)
theorem w_79 : Cond.lays RX7 "IndexDesk$Scales" "aidCount" "I" ∈ x_gw := x_gwt 79 (by decide +kernel) (by decide +kernel)
theorem w_81 : Cond.laysFinal RX7 "IndexDesk$Scales" "weights" "[I" ∈ x_gw := x_gwt 81 (by decide +kernel) (by decide +kernel)
theorem w_83 : Cond.laysFinal RX7 "IndexDesk$Scales" "costs" "[[I" ∈ x_gw := x_gwt 83 (by decide +kernel) (by decide +kernel)
theorem w_85 : Cond.laysFinal RX7 "IndexDesk$Scales" "spaces" "[I" ∈ x_gw := x_gwt 85 (by decide +kernel) (by decide +kernel)
theorem w_87 : Cond.laysFinal RX7 "IndexDesk$Scales" "upkeep" "[I" ∈ x_gw := x_gwt 87 (by decide +kernel) (by decide +kernel)
theorem w_89 : Cond.laysFinal RX7 "IndexDesk$Scales" "rivals" "[I" ∈ x_gw := x_gwt 89 (by decide +kernel) (by decide +kernel)
theorem w_91 : Cond.laysFinal RX7 "IndexDesk$Scales" "least" "[[I" ∈ x_gw := x_gwt 91 (by decide +kernel) (by decide +kernel)
theorem w_93 : Cond.lays RX7 "IndexDesk$Scales" "best" "I" ∈ x_gw := x_gwt 93 (by decide +kernel) (by decide +kernel)
theorem w_95 : Cond.lays RX7 "IndexDesk$Scales" "bestCost" "J" ∈ x_gw := x_gwt 95 (by decide +kernel) (by decide +kernel)
theorem w_97 : Cond.superclass RX7 "java/lang/Object" ∈ x_gw := x_gwt 97 (by decide +kernel) (by decide +kernel)
theorem w_98 : Cond.arrayClass Jvm.ClassFile.FieldType.int ∈ x_gw := x_gwt 98 (by decide +kernel) (by decide +kernel)
theorem w_99 : Cond.fieldLink RX10 11 "IndexDesk" "tables" "[LIndexDesk$Table;" ∈ x_gw := x_gwt 99 (by decide +kernel) (by decide +kernel)
theorem w_100 : Cond.fieldLink RX10 18 "IndexDesk" "questions" "Ljava/util/ArrayList;" ∈ x_gw := x_gwt 100 (by decide +kernel) (by decide +kernel)
theorem w_101 : Cond.fieldLink RX10 22 "IndexDesk" "aids" "Ljava/util/ArrayList;" ∈ x_gw := x_gwt 101 (by decide +kernel) (by decide +kernel)
theorem w_102 : Cond.fieldLink RX10 28 "IndexDesk" "scales" "LIndexDesk$Scales;" ∈ x_gw := x_gwt 102 (by decide +kernel) (by decide +kernel)
theorem w_103 : Cond.laysFinal RX10 "IndexDesk" "tables" "[LIndexDesk$Table;" ∈ x_gw := x_gwt 103 (by decide +kernel) (by decide +kernel)
theorem w_105 : Cond.laysFinal RX10 "IndexDesk" "questions" "Ljava/util/ArrayList;" ∈ x_gw := x_gwt 105 (by decide +kernel) (by decide +kernel)
theorem w_107 : Cond.laysFinal RX10 "IndexDesk" "aids" "Ljava/util/ArrayList;" ∈ x_gw := x_gwt 107 (by decide +kernel) (by decide +kernel)
theorem w_109 : Cond.laysFinal RX10 "IndexDesk" "scales" "LIndexDesk$Scales;" ∈ x_gw := x_gwt 109 (by decide +kernel) (by decide +kernel)
theorem w_111 : Cond.superclass RX10 "java/lang/Object" ∈ x_gw := x_gwt 111 (by decide +kernel) (by decide +kernel)
theorem w_112 : Cond.methodLink RL 13 yX10_table ∈ x_gw := x_gwt 112 (by decide +kernel) (by decide +kernel)
theorem w_113 : Cond.instanceMethod yX10_table ∈ x_gw := x_gwt 113 (by decide +kernel) (by decide +kernel)
theorem w_114 : Cond.selects RX10 yX10_table yX10_table ∈ x_gw := x_gwt 114 (by decide +kernel) (by decide +kernel)
theorem w_115 : Cond.code ({ cls := "IndexDesk", name := "table", desc := "(III)Z" } : Jvm.MethodName) prog_1_method_2_code (4 : Nat) (Option.some Jvm.ClassFile.FieldType.boolean) ∈ x_gw := x_gwt 115 (by decide +kernel) (by decide +kernel)
theorem w_116 : Cond.methodLink RX10 32 yX10_isBetween ∈ x_gw := x_gwt 116 (by decide +kernel) (by decide +kernel)
theorem w_117 : Cond.static yX10_isBetween ∈ x_gw := x_gwt 117 (by decide +kernel) (by decide +kernel)
theorem w_118 : Cond.code ({ cls := "IndexDesk", name := "isBetween", desc := "(III)Z" } : Jvm.MethodName) prog_1_method_34_code (3 : Nat) (Option.some Jvm.ClassFile.FieldType.boolean) ∈ x_gw := x_gwt 118 (by decide +kernel) (by decide +kernel)
theorem w_119 : Cond.instantiable RX9 10 ∈ x_gw := x_gwt 119 (by decide +kernel) (by decide +kernel)
theorem w_120 : Cond.methodLink RX10 36 yX9_init ∈ x_gw := x_gwt 120 (by decide +kernel) (by decide +kernel)
theorem w_121 : Cond.instanceMethod yX9_init ∈ x_gw := x_gwt 121 (by decide +kernel) (by decide +kernel)
theorem w_122 : Cond.code ({ cls := "IndexDesk$Table", name := "<init>", desc := "(III)V" } : Jvm.MethodName) prog_11_method_1_code (4 : Nat) (Option.none : Option Jvm.ClassFile.FieldType) ∈ x_gw := x_gwt 122 (by decide +kernel) (by decide +kernel)
theorem w_123 : Cond.methodLink RX9 3 objectInit ∈ x_gw := x_gwt 123 (by decide +kernel) (by decide +kernel)
theorem w_124 : Cond.fieldLink RX9 24 "IndexDesk$Table" "number" "I" ∈ x_gw := x_gwt 124 (by decide +kernel) (by decide +kernel)
theorem w_125 : Cond.fieldLink RX10 177 "IndexDesk$Table" "number" "I" ∈ x_gw := x_gwt 125 (by decide +kernel) (by decide +kernel)
theorem w_126 : Cond.fieldLink RX9 28 "IndexDesk$Table" "columns" "I" ∈ x_gw := x_gwt 126 (by decide +kernel) (by decide +kernel)
theorem w_127 : Cond.fieldLink RX9 31 "IndexDesk$Table" "page" "I" ∈ x_gw := x_gwt 127 (by decide +kernel) (by decide +kernel)
theorem w_128 : Cond.fieldLink RX1 15 "IndexDesk$Table" "page" "I" ∈ x_gw := x_gwt 128 (by decide +kernel) (by decide +kernel)
theorem w_129 : Cond.fieldLink RX2 39 "IndexDesk$Table" "page" "I" ∈ x_gw := x_gwt 129 (by decide +kernel) (by decide +kernel)
theorem w_130 : Cond.fieldLink RX8 43 "IndexDesk$Table" "page" "I" ∈ x_gw := x_gwt 130 (by decide +kernel) (by decide +kernel)
theorem w_131 : Cond.fieldLink RX4 45 "IndexDesk$Table" "page" "I" ∈ x_gw := x_gwt 131 (by decide +kernel) (by decide +kernel)
theorem w_132 : Cond.fieldLink RX10 43 "IndexDesk$Table" "rows" "I" ∈ x_gw := x_gwt 132 (by decide +kernel) (by decide +kernel)
theorem w_133 : Cond.fieldLink RX9 46 "IndexDesk$Table" "rows" "I" ∈ x_gw := x_gwt 133 (by decide +kernel) (by decide +kernel)
theorem w_134 : Cond.fieldLink RX6 61 "IndexDesk$Table" "rows" "I" ∈ x_gw := x_gwt 134 (by decide +kernel) (by decide +kernel)
theorem w_135 : Cond.fieldLink RX4 74 "IndexDesk$Table" "rows" "I" ∈ x_gw := x_gwt 135 (by decide +kernel) (by decide +kernel)
theorem w_136 : Cond.fieldLink RX7 78 "IndexDesk$Table" "changing" "I" ∈ x_gw := x_gwt 136 (by decide +kernel) (by decide +kernel)
theorem w_137 : Cond.fieldLink RX10 73 "IndexDesk$Table" "changing" "I" ∈ x_gw := x_gwt 137 (by decide +kernel) (by decide +kernel)
theorem w_138 : Cond.fieldLink RX5 31 "IndexDesk$Table" "countedRows" "I" ∈ x_gw := x_gwt 138 (by decide +kernel) (by decide +kernel)
theorem w_139 : Cond.fieldLink RX2 34 "IndexDesk$Table" "countedRows" "I" ∈ x_gw := x_gwt 139 (by decide +kernel) (by decide +kernel)
theorem w_140 : Cond.fieldLink RX4 40 "IndexDesk$Table" "countedRows" "I" ∈ x_gw := x_gwt 140 (by decide +kernel) (by decide +kernel)
theorem w_141 : Cond.fieldLink RX10 62 "IndexDesk$Table" "countedRows" "I" ∈ x_gw := x_gwt 141 (by decide +kernel) (by decide +kernel)
theorem w_142 : Cond.fieldLink RX9 63 "IndexDesk$Table" "countedRows" "I" ∈ x_gw := x_gwt 142 (by decide +kernel) (by decide +kernel)
theorem w_143 : Cond.fieldLink RX9 9 "IndexDesk$Table" "cells" "[I" ∈ x_gw := x_gwt 143 (by decide +kernel) (by decide +kernel)
theorem w_144 : Cond.fieldLink RX9 15 "IndexDesk$Table" "unlike" "[I" ∈ x_gw := x_gwt 144 (by decide +kernel) (by decide +kernel)
theorem w_145 : Cond.fieldLink RX9 18 "IndexDesk$Table" "least" "[I" ∈ x_gw := x_gwt 145 (by decide +kernel) (by decide +kernel)
theorem w_146 : Cond.fieldLink RX9 21 "IndexDesk$Table" "greatest" "[I" ∈ x_gw := x_gwt 146 (by decide +kernel) (by decide +kernel)
theorem w_147 : Cond.laysFinal RX9 "IndexDesk$Table" "number" "I" ∈ x_gw := x_gwt 147 (by decide +kernel) (by decide +kernel)
theorem w_149 : Cond.laysFinal RX9 "IndexDesk$Table" "columns" "I" ∈ x_gw := x_gwt 149 (by decide +kernel) (by decide +kernel)
theorem w_151 : Cond.laysFinal RX9 "IndexDesk$Table" "page" "I" ∈ x_gw := x_gwt 151 (by decide +kernel) (by decide +kernel)
theorem w_153 : Cond.lays RX9 "IndexDesk$Table" "rows" "I" ∈ x_gw := x_gwt 153 (by decide +kernel) (by decide +kernel)
theorem w_155 : Cond.lays RX9 "IndexDesk$Table" "changing" "I" ∈ x_gw := x_gwt 155 (by decide +kernel) (by decide +kernel)
theorem w_157 : Cond.lays RX9 "IndexDesk$Table" "countedRows" "I" ∈ x_gw := x_gwt 157 (by decide +kernel) (by decide +kernel)
theorem w_159 : Cond.laysFinal RX9 "IndexDesk$Table" "cells" "[I" ∈ x_gw := x_gwt 159 (by decide +kernel) (by decide +kernel)
theorem w_161 : Cond.laysFinal RX9 "IndexDesk$Table" "unlike" "[I" ∈ x_gw := x_gwt 161 (by decide +kernel) (by decide +kernel)
theorem w_163 : Cond.laysFinal RX9 "IndexDesk$Table" "least" "[I" ∈ x_gw := x_gwt 163 (by decide +kernel) (by decide +kernel)
theorem w_165 : Cond.laysFinal RX9 "IndexDesk$Table" "greatest" "[I" ∈ x_gw := x_gwt 165 (by decide +kernel) (by decide +kernel)
theorem w_167 : Cond.superclass RX9 "java/lang/Object" ∈ x_gw := x_gwt 167 (by decide +kernel) (by decide +kernel)
theorem w_168 : Cond.methodLink RL 18 yX10_put ∈ x_gw := x_gwt 168 (by decide +kernel) (by decide +kernel)
theorem w_169 : Cond.instanceMethod yX10_put ∈ x_gw := x_gwt 169 (by decide +kernel) (by decide +kernel)
theorem w_170 : Cond.selects RX10 yX10_put yX10_put ∈ x_gw := x_gwt 170 (by decide +kernel) (by decide +kernel)
theorem w_171 : Cond.code ({ cls := "IndexDesk", name := "put", desc := "(IIIII)I" } : Jvm.MethodName) prog_1_method_3_code (7 : Nat) (Option.some Jvm.ClassFile.FieldType.int) ∈ x_gw := x_gwt 171 (by decide +kernel) (by decide +kernel)
theorem w_172 : Cond.methodLink RX10 39 yX10_tableAt ∈ x_gw := x_gwt 172 (by decide +kernel) (by decide +kernel)
theorem w_174 : Cond.instanceMethod yX10_tableAt ∈ x_gw := x_gwt 174 (by decide +kernel) (by decide +kernel)
theorem w_175 : Cond.code ({ cls := "IndexDesk", name := "tableAt", desc := "(I)LIndexDesk$Table;" } : Jvm.MethodName) prog_1_method_24_code (2 : Nat) (Option.some (Jvm.ClassFile.FieldType.object "IndexDesk$Table")) ∈ x_gw := x_gwt 175 (by decide +kernel) (by decide +kernel)
theorem w_176 : Cond.methodLink RX10 47 yX9_allows ∈ x_gw := x_gwt 176 (by decide +kernel) (by decide +kernel)
theorem w_177 : Cond.instanceMethod yX9_allows ∈ x_gw := x_gwt 177 (by decide +kernel) (by decide +kernel)
theorem w_178 : Cond.selects RX9 yX9_allows yX9_allows ∈ x_gw := x_gwt 178 (by decide +kernel) (by decide +kernel)
theorem w_179 : Cond.code ({ cls := "IndexDesk$Table", name := "allows", desc := "(IIII)Z" } : Jvm.MethodName) prog_11_method_5_code (5 : Nat) (Option.some Jvm.ClassFile.FieldType.boolean) ∈ x_gw := x_gwt 179 (by decide +kernel) (by decide +kernel)
theorem w_180 : Cond.methodLink RX9 38 yX9_allowsAt ∈ x_gw := x_gwt 180 (by decide +kernel) (by decide +kernel)
theorem w_182 : Cond.instanceMethod yX9_allowsAt ∈ x_gw := x_gwt 182 (by decide +kernel) (by decide +kernel)
theorem w_183 : Cond.code ({ cls := "IndexDesk$Table", name := "allowsAt", desc := "(II)Z" } : Jvm.MethodName) prog_11_method_6_code (3 : Nat) (Option.some Jvm.ClassFile.FieldType.boolean) ∈ x_gw := x_gwt 183 (by decide +kernel) (by decide +kernel)
theorem w_184 : Cond.methodLink RX9 34 yX9_has ∈ x_gw := x_gwt 184 (by decide +kernel) (by decide +kernel)
theorem w_185 : Cond.instanceMethod yX9_has ∈ x_gw := x_gwt 185 (by decide +kernel) (by decide +kernel)
theorem w_186 : Cond.selects RX9 yX9_has yX9_has ∈ x_gw := x_gwt 186 (by decide +kernel) (by decide +kernel)
theorem w_187 : Cond.code ({ cls := "IndexDesk$Table", name := "has", desc := "(I)Z" } : Jvm.MethodName) prog_11_method_2_code (2 : Nat) (Option.some Jvm.ClassFile.FieldType.boolean) ∈ x_gw := x_gwt 187 (by decide +kernel) (by decide +kernel)
theorem w_189 : Cond.methodLink RX10 51 yX9_append ∈ x_gw := x_gwt 189 (by decide +kernel) (by decide +kernel)
theorem w_190 : Cond.instanceMethod yX9_append ∈ x_gw := x_gwt 190 (by decide +kernel) (by decide +kernel)
theorem w_191 : Cond.selects RX9 yX9_append yX9_append ∈ x_gw := x_gwt 191 (by decide +kernel) (by decide +kernel)
theorem w_192 : Cond.code ({ cls := "IndexDesk$Table", name := "append", desc := "(IIII)I" } : Jvm.MethodName) prog_11_method_7_code (6 : Nat) (Option.some Jvm.ClassFile.FieldType.int) ∈ x_gw := x_gwt 192 (by decide +kernel) (by decide +kernel)
theorem w_193 : Cond.methodLink RX9 49 yX9_write ∈ x_gw := x_gwt 193 (by decide +kernel) (by decide +kernel)
theorem w_195 : Cond.instanceMethod yX9_write ∈ x_gw := x_gwt 195 (by decide +kernel) (by decide +kernel)
theorem w_196 : Cond.code ({ cls := "IndexDesk$Table", name := "write", desc := "(III)V" } : Jvm.MethodName) prog_11_method_8_code (4 : Nat) (Option.none : Option Jvm.ClassFile.FieldType) ∈ x_gw := x_gwt 196 (by decide +kernel) (by decide +kernel)
theorem w_197 : Cond.methodLink RX9 53 yX9_isCell ∈ x_gw := x_gwt 197 (by decide +kernel) (by decide +kernel)
theorem w_199 : Cond.instanceMethod yX9_isCell ∈ x_gw := x_gwt 199 (by decide +kernel) (by decide +kernel)
theorem w_200 : Cond.code ({ cls := "IndexDesk$Table", name := "isCell", desc := "(II)Z" } : Jvm.MethodName) prog_11_method_9_code (3 : Nat) (Option.some Jvm.ClassFile.FieldType.boolean) ∈ x_gw := x_gwt 200 (by decide +kernel) (by decide +kernel)
theorem w_201 : Cond.methodLink RL 23 yX10_strike ∈ x_gw := x_gwt 201 (by decide +kernel) (by decide +kernel)
theorem w_202 : Cond.instanceMethod yX10_strike ∈ x_gw := x_gwt 202 (by decide +kernel) (by decide +kernel)
theorem w_203 : Cond.selects RX10 yX10_strike yX10_strike ∈ x_gw := x_gwt 203 (by decide +kernel) (by decide +kernel)
theorem w_204 : Cond.code ({ cls := "IndexDesk", name := "strike", desc := "(II)Z" } : Jvm.MethodName) prog_1_method_4_code (4 : Nat) (Option.some Jvm.ClassFile.FieldType.boolean) ∈ x_gw := x_gwt 204 (by decide +kernel) (by decide +kernel)
theorem w_205 : Cond.methodLink RX10 55 yX9_remove ∈ x_gw := x_gwt 205 (by decide +kernel) (by decide +kernel)
theorem w_206 : Cond.instanceMethod yX9_remove ∈ x_gw := x_gwt 206 (by decide +kernel) (by decide +kernel)
theorem w_207 : Cond.selects RX9 yX9_remove yX9_remove ∈ x_gw := x_gwt 207 (by decide +kernel) (by decide +kernel)
theorem w_208 : Cond.code ({ cls := "IndexDesk$Table", name := "remove", desc := "(I)V" } : Jvm.MethodName) prog_11_method_11_code (4 : Nat) (Option.none : Option Jvm.ClassFile.FieldType) ∈ x_gw := x_gwt 208 (by decide +kernel) (by decide +kernel)
theorem w_209 : Cond.methodLink RX9 56 yX9_value ∈ x_gw := x_gwt 209 (by decide +kernel) (by decide +kernel)
theorem w_210 : Cond.instanceMethod yX9_value ∈ x_gw := x_gwt 210 (by decide +kernel) (by decide +kernel)
theorem w_211 : Cond.selects RX9 yX9_value yX9_value ∈ x_gw := x_gwt 211 (by decide +kernel) (by decide +kernel)
theorem w_212 : Cond.code ({ cls := "IndexDesk$Table", name := "value", desc := "(II)I" } : Jvm.MethodName) prog_11_method_10_code (3 : Nat) (Option.some Jvm.ClassFile.FieldType.int) ∈ x_gw := x_gwt 212 (by decide +kernel) (by decide +kernel)
theorem w_213 : Cond.methodLink RL 28 yX10_recount ∈ x_gw := x_gwt 213 (by decide +kernel) (by decide +kernel)
theorem w_214 : Cond.instanceMethod yX10_recount ∈ x_gw := x_gwt 214 (by decide +kernel) (by decide +kernel)
theorem w_215 : Cond.selects RX10 yX10_recount yX10_recount ∈ x_gw := x_gwt 215 (by decide +kernel) (by decide +kernel)
theorem w_216 : Cond.code ({ cls := "IndexDesk", name := "recount", desc := "(I)I" } : Jvm.MethodName) prog_1_method_5_code (3 : Nat) (Option.some Jvm.ClassFile.FieldType.int) ∈ x_gw := x_gwt 216 (by decide +kernel) (by decide +kernel)
theorem w_217 : Cond.methodLink RX10 59 yX9_takeCounts ∈ x_gw := x_gwt 217 (by decide +kernel) (by decide +kernel)
theorem w_218 : Cond.instanceMethod yX9_takeCounts ∈ x_gw := x_gwt 218 (by decide +kernel) (by decide +kernel)
theorem w_219 : Cond.selects RX9 yX9_takeCounts yX9_takeCounts ∈ x_gw := x_gwt 219 (by decide +kernel) (by decide +kernel)
theorem w_220 : Cond.code ({ cls := "IndexDesk$Table", name := "takeCounts", desc := "()V" } : Jvm.MethodName) prog_11_method_15_code (2 : Nat) (Option.none : Option Jvm.ClassFile.FieldType) ∈ x_gw := x_gwt 220 (by decide +kernel) (by decide +kernel)
theorem w_222 : Cond.static yX10_bit ∈ x_gw := x_gwt 222 (by decide +kernel) (by decide +kernel)
theorem w_223 : Cond.code ({ cls := "IndexDesk", name := "bit", desc := "(I)I" } : Jvm.MethodName) prog_1_method_36_code (1 : Nat) (Option.some Jvm.ClassFile.FieldType.int) ∈ x_gw := x_gwt 223 (by decide +kernel) (by decide +kernel)
theorem w_224 : Cond.methodLink RX9 70 yX9_unlikeRows ∈ x_gw := x_gwt 224 (by decide +kernel) (by decide +kernel)
theorem w_225 : Cond.instanceMethod yX9_unlikeRows ∈ x_gw := x_gwt 225 (by decide +kernel) (by decide +kernel)
theorem w_226 : Cond.selects RX9 yX9_unlikeRows yX9_unlikeRows ∈ x_gw := x_gwt 226 (by decide +kernel) (by decide +kernel)
theorem w_227 : Cond.code ({ cls := "IndexDesk$Table", name := "unlikeRows", desc := "(I)I" } : Jvm.MethodName) prog_11_method_18_code (4 : Nat) (Option.some Jvm.ClassFile.FieldType.int) ∈ x_gw := x_gwt 227 (by decide +kernel) (by decide +kernel)
theorem w_228 : Cond.methodLink RX9 85 yX9_isFirstOfItsLike ∈ x_gw := x_gwt 228 (by decide +kernel) (by decide +kernel)
theorem w_230 : Cond.instanceMethod yX9_isFirstOfItsLike ∈ x_gw := x_gwt 230 (by decide +kernel) (by decide +kernel)
theorem w_231 : Cond.code ({ cls := "IndexDesk$Table", name := "isFirstOfItsLike", desc := "(II)Z" } : Jvm.MethodName) prog_11_method_19_code (4 : Nat) (Option.some Jvm.ClassFile.FieldType.boolean) ∈ x_gw := x_gwt 231 (by decide +kernel) (by decide +kernel)
theorem w_232 : Cond.methodLink RX9 88 yX9_areAlike ∈ x_gw := x_gwt 232 (by decide +kernel) (by decide +kernel)
theorem w_234 : Cond.instanceMethod yX9_areAlike ∈ x_gw := x_gwt 234 (by decide +kernel) (by decide +kernel)
theorem w_235 : Cond.code ({ cls := "IndexDesk$Table", name := "areAlike", desc := "(III)Z" } : Jvm.MethodName) prog_11_method_20_code (5 : Nat) (Option.some Jvm.ClassFile.FieldType.boolean) ∈ x_gw := x_gwt 235 (by decide +kernel) (by decide +kernel)
theorem w_237 : Cond.static yX10_isIn ∈ x_gw := x_gwt 237 (by decide +kernel) (by decide +kernel)
theorem w_238 : Cond.code ({ cls := "IndexDesk", name := "isIn", desc := "(II)Z" } : Jvm.MethodName) prog_1_method_37_code (2 : Nat) (Option.some Jvm.ClassFile.FieldType.boolean) ∈ x_gw := x_gwt 238 (by decide +kernel) (by decide +kernel)
theorem w_239 : Cond.methodLink RX9 73 yX9_takeEnds ∈ x_gw := x_gwt 239 (by decide +kernel) (by decide +kernel)
theorem w_241 : Cond.instanceMethod yX9_takeEnds ∈ x_gw := x_gwt 241 (by decide +kernel) (by decide +kernel)
theorem w_242 : Cond.code ({ cls := "IndexDesk$Table", name := "takeEnds", desc := "(I)V" } : Jvm.MethodName) prog_11_method_16_code (5 : Nat) (Option.none : Option Jvm.ClassFile.FieldType) ∈ x_gw := x_gwt 242 (by decide +kernel) (by decide +kernel)
theorem w_243 : Cond.methodLink RX9 77 yJ9_min_7cf53 ∈ x_gw := x_gwt 243 (by decide +kernel) (by decide +kernel)
theorem w_244 : Cond.static yJ9_min_7cf53 ∈ x_gw := x_gwt 244 (by decide +kernel) (by decide +kernel)
theorem w_245 : Cond.code ({ cls := "java/lang/Math", name := "min", desc := "(II)I" } : Jvm.MethodName) prog_18_method_69_code (2 : Nat) (Option.some Jvm.ClassFile.FieldType.int) ∈ x_gw := x_gwt 245 (by decide +kernel) (by decide +kernel)
theorem w_246 : Cond.methodLink RX9 82 yJ9_max_7cf53 ∈ x_gw := x_gwt 246 (by decide +kernel) (by decide +kernel)
theorem w_247 : Cond.static yJ9_max_7cf53 ∈ x_gw := x_gwt 247 (by decide +kernel) (by decide +kernel)
theorem w_248 : Cond.code ({ cls := "java/lang/Math", name := "max", desc := "(II)I" } : Jvm.MethodName) prog_18_method_65_code (2 : Nat) (Option.some Jvm.ClassFile.FieldType.int) ∈ x_gw := x_gwt 248 (by decide +kernel) (by decide +kernel)
theorem w_249 : Cond.methodLink RL 33 yX10_counts ∈ x_gw := x_gwt 249 (by decide +kernel) (by decide +kernel)
theorem w_250 : Cond.instanceMethod yX10_counts ∈ x_gw := x_gwt 250 (by decide +kernel) (by decide +kernel)
theorem w_251 : Cond.selects RX10 yX10_counts yX10_counts ∈ x_gw := x_gwt 251 (by decide +kernel) (by decide +kernel)
theorem w_252 : Cond.code ({ cls := "IndexDesk", name := "counts", desc := "(III)I" } : Jvm.MethodName) prog_1_method_6_code (5 : Nat) (Option.some Jvm.ClassFile.FieldType.int) ∈ x_gw := x_gwt 252 (by decide +kernel) (by decide +kernel)
theorem w_253 : Cond.methodLink RX10 65 yX9_countedPages ∈ x_gw := x_gwt 253 (by decide +kernel) (by decide +kernel)
theorem w_254 : Cond.instanceMethod yX9_countedPages ∈ x_gw := x_gwt 254 (by decide +kernel) (by decide +kernel)
theorem w_255 : Cond.selects RX9 yX9_countedPages yX9_countedPages ∈ x_gw := x_gwt 255 (by decide +kernel) (by decide +kernel)
theorem w_256 : Cond.code ({ cls := "IndexDesk$Table", name := "countedPages", desc := "()I" } : Jvm.MethodName) prog_11_method_13_code (1 : Nat) (Option.some Jvm.ClassFile.FieldType.int) ∈ x_gw := x_gwt 256 (by decide +kernel) (by decide +kernel)
theorem w_258 : Cond.static yX10_dividedUp ∈ x_gw := x_gwt 258 (by decide +kernel) (by decide +kernel)
theorem w_259 : Cond.code ({ cls := "IndexDesk", name := "dividedUp", desc := "(II)I" } : Jvm.MethodName) prog_1_method_38_code (2 : Nat) (Option.some Jvm.ClassFile.FieldType.int) ∈ x_gw := x_gwt 259 (by decide +kernel) (by decide +kernel)
theorem w_260 : Cond.methodLink RX10 69 yX9_countOfColumn ∈ x_gw := x_gwt 260 (by decide +kernel) (by decide +kernel)
theorem w_261 : Cond.instanceMethod yX9_countOfColumn ∈ x_gw := x_gwt 261 (by decide +kernel) (by decide +kernel)
theorem w_262 : Cond.selects RX9 yX9_countOfColumn yX9_countOfColumn ∈ x_gw := x_gwt 262 (by decide +kernel) (by decide +kernel)
theorem w_263 : Cond.code ({ cls := "IndexDesk$Table", name := "countOfColumn", desc := "(II)I" } : Jvm.MethodName) prog_11_method_17_code (3 : Nat) (Option.some Jvm.ClassFile.FieldType.int) ∈ x_gw := x_gwt 263 (by decide +kernel) (by decide +kernel)
theorem w_264 : Cond.methodLink RL 38 yX10_changes ∈ x_gw := x_gwt 264 (by decide +kernel) (by decide +kernel)
theorem w_265 : Cond.instanceMethod yX10_changes ∈ x_gw := x_gwt 265 (by decide +kernel) (by decide +kernel)
theorem w_266 : Cond.selects RX10 yX10_changes yX10_changes ∈ x_gw := x_gwt 266 (by decide +kernel) (by decide +kernel)
theorem w_267 : Cond.code ({ cls := "IndexDesk", name := "changes", desc := "(II)Z" } : Jvm.MethodName) prog_1_method_7_code (4 : Nat) (Option.some Jvm.ClassFile.FieldType.boolean) ∈ x_gw := x_gwt 267 (by decide +kernel) (by decide +kernel)
theorem w_268 : Cond.methodLink RL 42 yX10_question ∈ x_gw := x_gwt 268 (by decide +kernel) (by decide +kernel)
theorem w_269 : Cond.instanceMethod yX10_question ∈ x_gw := x_gwt 269 (by decide +kernel) (by decide +kernel)
theorem w_270 : Cond.selects RX10 yX10_question yX10_question ∈ x_gw := x_gwt 270 (by decide +kernel) (by decide +kernel)
theorem w_271 : Cond.code ({ cls := "IndexDesk", name := "question", desc := "(IIII)I" } : Jvm.MethodName) prog_1_method_8_code (6 : Nat) (Option.some Jvm.ClassFile.FieldType.int) ∈ x_gw := x_gwt 271 (by decide +kernel) (by decide +kernel)
theorem w_272 : Cond.methodLink RX10 76 yJx4a65c_size_8abf5 ∈ x_gw := x_gwt 272 (by decide +kernel) (by decide +kernel)
theorem w_273 : Cond.instanceMethod yJx4a65c_size_8abf5 ∈ x_gw := x_gwt 273 (by decide +kernel) (by decide +kernel)
theorem w_274 : Cond.selects RJx4a65c yJx4a65c_size_8abf5 yJx4a65c_size_8abf5 ∈ x_gw := x_gwt 274 (by decide +kernel) (by decide +kernel)
theorem w_275 : Cond.code ({ cls := "java/util/ArrayList", name := "size", desc := "()I" } : Jvm.MethodName) prog_22_method_8_code (1 : Nat) (Option.some Jvm.ClassFile.FieldType.int) ∈ x_gw := x_gwt 275 (by decide +kernel) (by decide +kernel)
theorem w_276 : Cond.methodLink RX10 79 yX9_hasAll ∈ x_gw := x_gwt 276 (by decide +kernel) (by decide +kernel)
theorem w_277 : Cond.instanceMethod yX9_hasAll ∈ x_gw := x_gwt 277 (by decide +kernel) (by decide +kernel)
theorem w_278 : Cond.selects RX9 yX9_hasAll yX9_hasAll ∈ x_gw := x_gwt 278 (by decide +kernel) (by decide +kernel)
theorem w_279 : Cond.code ({ cls := "IndexDesk$Table", name := "hasAll", desc := "(I)Z" } : Jvm.MethodName) prog_11_method_4_code (2 : Nat) (Option.some Jvm.ClassFile.FieldType.boolean) ∈ x_gw := x_gwt 279 (by decide +kernel) (by decide +kernel)
theorem w_280 : Cond.methodLink RX10 83 yX9_hasOrNone ∈ x_gw := x_gwt 280 (by decide +kernel) (by decide +kernel)
theorem w_281 : Cond.instanceMethod yX9_hasOrNone ∈ x_gw := x_gwt 281 (by decide +kernel) (by decide +kernel)
theorem w_282 : Cond.selects RX9 yX9_hasOrNone yX9_hasOrNone ∈ x_gw := x_gwt 282 (by decide +kernel) (by decide +kernel)
theorem w_283 : Cond.code ({ cls := "IndexDesk$Table", name := "hasOrNone", desc := "(I)Z" } : Jvm.MethodName) prog_11_method_3_code (2 : Nat) (Option.some Jvm.ClassFile.FieldType.boolean) ∈ x_gw := x_gwt 283 (by decide +kernel) (by decide +kernel)
theorem w_284 : Cond.classLink RX10 86 RX6 ∈ x_gw := x_gwt 284 (by decide +kernel) (by decide +kernel)
theorem w_285 : Cond.instantiable RX6 7 ∈ x_gw := x_gwt 285 (by decide +kernel) (by decide +kernel)
theorem w_286 : Cond.methodLink RX10 88 yX6_init ∈ x_gw := x_gwt 286 (by decide +kernel) (by decide +kernel)
theorem w_287 : Cond.instanceMethod yX6_init ∈ x_gw := x_gwt 287 (by decide +kernel) (by decide +kernel)
theorem w_288 : Cond.code ({ cls := "IndexDesk$Question", name := "<init>", desc := "(LIndexDesk$Table;III)V" } : Jvm.MethodName) prog_8_method_1_code (5 : Nat) (Option.none : Option Jvm.ClassFile.FieldType) ∈ x_gw := x_gwt 288 (by decide +kernel) (by decide +kernel)
theorem w_289 : Cond.methodLink RX6 3 objectInit ∈ x_gw := x_gwt 289 (by decide +kernel) (by decide +kernel)
theorem w_290 : Cond.fieldLink RX6 18 "IndexDesk$Question" "table" "LIndexDesk$Table;" ∈ x_gw := x_gwt 290 (by decide +kernel) (by decide +kernel)
theorem w_291 : Cond.fieldLink RX7 60 "IndexDesk$Question" "table" "LIndexDesk$Table;" ∈ x_gw := x_gwt 291 (by decide +kernel) (by decide +kernel)
theorem w_292 : Cond.fieldLink RX10 99 "IndexDesk$Question" "table" "LIndexDesk$Table;" ∈ x_gw := x_gwt 292 (by decide +kernel) (by decide +kernel)
theorem w_293 : Cond.fieldLink RX6 22 "IndexDesk$Question" "wants" "I" ∈ x_gw := x_gwt 293 (by decide +kernel) (by decide +kernel)
theorem w_294 : Cond.fieldLink RX8 18 "IndexDesk$Question" "wants" "I" ∈ x_gw := x_gwt 294 (by decide +kernel) (by decide +kernel)
theorem w_295 : Cond.fieldLink RX6 26 "IndexDesk$Question" "adds" "I" ∈ x_gw := x_gwt 295 (by decide +kernel) (by decide +kernel)
theorem w_296 : Cond.fieldLink RX8 23 "IndexDesk$Question" "adds" "I" ∈ x_gw := x_gwt 296 (by decide +kernel) (by decide +kernel)
theorem w_297 : Cond.fieldLink RX6 29 "IndexDesk$Question" "weight" "I" ∈ x_gw := x_gwt 297 (by decide +kernel) (by decide +kernel)
theorem w_298 : Cond.fieldLink RX7 57 "IndexDesk$Question" "weight" "I" ∈ x_gw := x_gwt 298 (by decide +kernel) (by decide +kernel)
theorem w_299 : Cond.fieldLink RX6 36 "IndexDesk$Question" "tested" "I" ∈ x_gw := x_gwt 299 (by decide +kernel) (by decide +kernel)
theorem w_300 : Cond.fieldLink RX8 26 "IndexDesk$Question" "tested" "I" ∈ x_gw := x_gwt 300 (by decide +kernel) (by decide +kernel)
theorem w_301 : Cond.fieldLink RX6 9 "IndexDesk$Question" "first" "[I" ∈ x_gw := x_gwt 301 (by decide +kernel) (by decide +kernel)
theorem w_302 : Cond.fieldLink RX6 15 "IndexDesk$Question" "last" "[I" ∈ x_gw := x_gwt 302 (by decide +kernel) (by decide +kernel)
theorem w_303 : Cond.laysFinal RX6 "IndexDesk$Question" "table" "LIndexDesk$Table;" ∈ x_gw := x_gwt 303 (by decide +kernel) (by decide +kernel)
theorem w_305 : Cond.laysFinal RX6 "IndexDesk$Question" "wants" "I" ∈ x_gw := x_gwt 305 (by decide +kernel) (by decide +kernel)
theorem w_307 : Cond.laysFinal RX6 "IndexDesk$Question" "adds" "I" ∈ x_gw := x_gwt 307 (by decide +kernel) (by decide +kernel)
theorem w_309 : Cond.laysFinal RX6 "IndexDesk$Question" "weight" "I" ∈ x_gw := x_gwt 309 (by decide +kernel) (by decide +kernel)
theorem w_311 : Cond.lays RX6 "IndexDesk$Question" "tested" "I" ∈ x_gw := x_gwt 311 (by decide +kernel) (by decide +kernel)
theorem w_313 : Cond.laysFinal RX6 "IndexDesk$Question" "first" "[I" ∈ x_gw := x_gwt 313 (by decide +kernel) (by decide +kernel)
theorem w_315 : Cond.laysFinal RX6 "IndexDesk$Question" "last" "[I" ∈ x_gw := x_gwt 315 (by decide +kernel) (by decide +kernel)
theorem w_317 : Cond.superclass RX6 "java/lang/Object" ∈ x_gw := x_gwt 317 (by decide +kernel) (by decide +kernel)
theorem w_318 : Cond.methodLink RX10 91 yJx4a65c_add_9ea2d ∈ x_gw := x_gwt 318 (by decide +kernel) (by decide +kernel)
theorem w_319 : Cond.instanceMethod yJx4a65c_add_9ea2d ∈ x_gw := x_gwt 319 (by decide +kernel) (by decide +kernel)
theorem w_320 : Cond.selects RJx4a65c yJx4a65c_add_9ea2d yJx4a65c_add_9ea2d ∈ x_gw := x_gwt 320 (by decide +kernel) (by decide +kernel)
theorem w_321 : Cond.code ({ cls := "java/util/ArrayList", name := "add", desc := "(Ljava/lang/Object;)Z" } : Jvm.MethodName) prog_22_method_25_code (2 : Nat) (Option.some Jvm.ClassFile.FieldType.boolean) ∈ x_gw := x_gwt 321 (by decide +kernel) (by decide +kernel)
theorem w_322 : Cond.methodLink RJx4a65c 131 yJx4a65c_add_72be8 ∈ x_gw := x_gwt 322 (by decide +kernel) (by decide +kernel)
theorem w_324 : Cond.instanceMethod yJx4a65c_add_72be8 ∈ x_gw := x_gwt 324 (by decide +kernel) (by decide +kernel)
theorem w_325 : Cond.code ({ cls := "java/util/ArrayList", name := "add", desc := "(Ljava/lang/Object;[Ljava/lang/Object;I)V" } : Jvm.MethodName) prog_22_method_24_code (4 : Nat) (Option.none : Option Jvm.ClassFile.FieldType) ∈ x_gw := x_gwt 325 (by decide +kernel) (by decide +kernel)
theorem w_326 : Cond.methodLink RJx4a65c 129 yJx4a65c_grow_d5877 ∈ x_gw := x_gwt 326 (by decide +kernel) (by decide +kernel)
theorem w_328 : Cond.instanceMethod yJx4a65c_grow_d5877 ∈ x_gw := x_gwt 328 (by decide +kernel) (by decide +kernel)
theorem w_329 : Cond.code ({ cls := "java/util/ArrayList", name := "grow", desc := "()[Ljava/lang/Object;" } : Jvm.MethodName) prog_22_method_7_code (1 : Nat) (Option.some (Jvm.ClassFile.FieldType.array (Jvm.ClassFile.FieldType.object "java/lang/Object"))) ∈ x_gw := x_gwt 329 (by decide +kernel) (by decide +kernel)
theorem w_330 : Cond.methodLink RJx4a65c 69 yJx4a65c_grow_92f84 ∈ x_gw := x_gwt 330 (by decide +kernel) (by decide +kernel)
theorem w_332 : Cond.instanceMethod yJx4a65c_grow_92f84 ∈ x_gw := x_gwt 332 (by decide +kernel) (by decide +kernel)
theorem w_333 : Cond.code ({ cls := "java/util/ArrayList", name := "grow", desc := "(I)[Ljava/lang/Object;" } : Jvm.MethodName) prog_22_method_6_code (4 : Nat) (Option.some (Jvm.ClassFile.FieldType.array (Jvm.ClassFile.FieldType.object "java/lang/Object"))) ∈ x_gw := x_gwt 333 (by decide +kernel) (by decide +kernel)
theorem w_334 : Cond.methodLink RJx4a65c 73 yJ8_newLength_cabcc ∈ x_gw := x_gwt 334 (by decide +kernel) (by decide +kernel)
theorem w_335 : Cond.static yJ8_newLength_cabcc ∈ x_gw := x_gwt 335 (by decide +kernel) (by decide +kernel)
theorem w_336 : Cond.code ({ cls := "jdk/internal/util/ArraysSupport", name := "newLength", desc := "(III)I" } : Jvm.MethodName) prog_29_method_27_code (4 : Nat) (Option.some Jvm.ClassFile.FieldType.int) ∈ x_gw := x_gwt 336 (by decide +kernel) (by decide +kernel)
theorem w_337 : Cond.methodLink RJ8 194 yJ9_max_7cf53 ∈ x_gw := x_gwt 337 (by decide +kernel) (by decide +kernel)
theorem w_338 : Cond.constant RJ8 200 (2147483639) ∈ x_gw := x_gwt 338 (by decide +kernel) (by decide +kernel)
theorem w_339 : Cond.methodLink RJ8 201 yJ8_hugeLength_7cf53 ∈ x_gw := x_gwt 339 (by decide +kernel) (by decide +kernel)
theorem w_340 : Cond.static yJ8_hugeLength_7cf53 ∈ x_gw := x_gwt 340 (by decide +kernel) (by decide +kernel)
theorem w_341 : Cond.code ({ cls := "jdk/internal/util/ArraysSupport", name := "hugeLength", desc := "(II)I" } : Jvm.MethodName) prog_29_method_28_code (3 : Nat) (Option.some Jvm.ClassFile.FieldType.int) ∈ x_gw := x_gwt 341 (by decide +kernel) (by decide +kernel)
theorem w_342 : Cond.methodLink RJx4a65c 66 yJ7_copyOf_1904c ∈ x_gw := x_gwt 342 (by decide +kernel) (by decide +kernel)
theorem w_343 : Cond.static yJ7_copyOf_1904c ∈ x_gw := x_gwt 343 (by decide +kernel) (by decide +kernel)
theorem w_344 : Cond.code ({ cls := "java/util/Arrays", name := "copyOf", desc := "([Ljava/lang/Object;I)[Ljava/lang/Object;" } : Jvm.MethodName) prog_23_method_119_code (2 : Nat) (Option.some (Jvm.ClassFile.FieldType.array (Jvm.ClassFile.FieldType.object "java/lang/Object"))) ∈ x_gw := x_gwt 344 (by decide +kernel) (by decide +kernel)
theorem w_345 : Cond.methodLink RJ7 86 ⟨"java/lang/Object", "getClass", "()Ljava/lang/Class;"⟩ ∈ x_gw := x_gwt 345 (by decide +kernel) (by decide +kernel)
theorem w_346 : Cond.instanceMethod ⟨"java/lang/Object", "getClass", "()Ljava/lang/Class;"⟩ ∈ x_gw := x_gwt 346 (by decide +kernel) (by decide +kernel)
theorem w_347 : Cond.sameMethod "java/lang/Object" "java/lang/Object" "getClass" "()Ljava/lang/Class;" ∈ x_gw := x_gwt 347 (by decide +kernel) (by decide +kernel)
theorem w_348 : Cond.selects RX10 ⟨"java/lang/Object", "getClass", "()Ljava/lang/Class;"⟩ ⟨"java/lang/Object", "getClass", "()Ljava/lang/Class;"⟩ ∈ x_gw := x_gwt 348 (by decide +kernel) (by decide +kernel)
theorem w_349 : Cond.selects RX1 ⟨"java/lang/Object", "getClass", "()Ljava/lang/Class;"⟩ ⟨"java/lang/Object", "getClass", "()Ljava/lang/Class;"⟩ ∈ x_gw := x_gwt 349 (by decide +kernel) (by decide +kernel)
theorem w_350 : Cond.selects RX2 ⟨"java/lang/Object", "getClass", "()Ljava/lang/Class;"⟩ ⟨"java/lang/Object", "getClass", "()Ljava/lang/Class;"⟩ ∈ x_gw := x_gwt 350 (by decide +kernel) (by decide +kernel)
theorem w_351 : Cond.selects RX3 ⟨"java/lang/Object", "getClass", "()Ljava/lang/Class;"⟩ ⟨"java/lang/Object", "getClass", "()Ljava/lang/Class;"⟩ ∈ x_gw := x_gwt 351 (by decide +kernel) (by decide +kernel)
theorem w_352 : Cond.selects RX5 ⟨"java/lang/Object", "getClass", "()Ljava/lang/Class;"⟩ ⟨"java/lang/Object", "getClass", "()Ljava/lang/Class;"⟩ ∈ x_gw := x_gwt 352 (by decide +kernel) (by decide +kernel)
theorem w_353 : Cond.selects RX6 ⟨"java/lang/Object", "getClass", "()Ljava/lang/Class;"⟩ ⟨"java/lang/Object", "getClass", "()Ljava/lang/Class;"⟩ ∈ x_gw := x_gwt 353 (by decide +kernel) (by decide +kernel)
theorem w_354 : Cond.selects RX7 ⟨"java/lang/Object", "getClass", "()Ljava/lang/Class;"⟩ ⟨"java/lang/Object", "getClass", "()Ljava/lang/Class;"⟩ ∈ x_gw := x_gwt 354 (by decide +kernel) (by decide +kernel)
theorem w_355 : Cond.selects RX8 ⟨"java/lang/Object", "getClass", "()Ljava/lang/Class;"⟩ ⟨"java/lang/Object", "getClass", "()Ljava/lang/Class;"⟩ ∈ x_gw := x_gwt 355 (by decide +kernel) (by decide +kernel)
theorem w_356 : Cond.selects RX9 ⟨"java/lang/Object", "getClass", "()Ljava/lang/Class;"⟩ ⟨"java/lang/Object", "getClass", "()Ljava/lang/Class;"⟩ ∈ x_gw := x_gwt 356 (by decide +kernel) (by decide +kernel)
theorem w_357 : Cond.selects RX11 ⟨"java/lang/Object", "getClass", "()Ljava/lang/Class;"⟩ ⟨"java/lang/Object", "getClass", "()Ljava/lang/Class;"⟩ ∈ x_gw := x_gwt 357 (by decide +kernel) (by decide +kernel)
theorem w_358 : Cond.selects RJx4a65c ⟨"java/lang/Object", "getClass", "()Ljava/lang/Class;"⟩ ⟨"java/lang/Object", "getClass", "()Ljava/lang/Class;"⟩ ∈ x_gw := x_gwt 358 (by decide +kernel) (by decide +kernel)
theorem w_360 : Cond.methodLink RJ7 300 yJ7_copyOf_6403c ∈ x_gw := x_gwt 360 (by decide +kernel) (by decide +kernel)
theorem w_361 : Cond.static yJ7_copyOf_6403c ∈ x_gw := x_gwt 361 (by decide +kernel) (by decide +kernel)
theorem w_362 : Cond.code ({ cls := "java/util/Arrays", name := "copyOf", desc := "([Ljava/lang/Object;ILjava/lang/Class;)[Ljava/lang/Object;" } : Jvm.MethodName) prog_23_method_120_code (4 : Nat) (Option.some (Jvm.ClassFile.FieldType.array (Jvm.ClassFile.FieldType.object "java/lang/Object"))) ∈ x_gw := x_gwt 362 (by decide +kernel) (by decide +kernel)
theorem w_363 : Cond.classLink RJ7 110 "[Ljava/lang/Object;" ∈ x_gw := x_gwt 363 (by decide +kernel) (by decide +kernel)
theorem w_365 : Cond.classLink RJ7 2 "java/lang/Object" ∈ x_gw := x_gwt 365 (by decide +kernel) (by decide +kernel)
theorem w_366 : Cond.methodLink RJ7 304 yJ9_min_7cf53 ∈ x_gw := x_gwt 366 (by decide +kernel) (by decide +kernel)
theorem w_367 : Cond.methodLink RJ7 150 ⟨"java/lang/System", "arraycopy", "(Ljava/lang/Object;ILjava/lang/Object;II)V"⟩ ∈ x_gw := x_gwt 367 (by decide +kernel) (by decide +kernel)
theorem w_368 : Cond.static ⟨"java/lang/System", "arraycopy", "(Ljava/lang/Object;ILjava/lang/Object;II)V"⟩ ∈ x_gw := x_gwt 368 (by decide +kernel) (by decide +kernel)
theorem w_370 : Cond.methodLink RJx4a65c 79 yJ9_max_7cf53 ∈ x_gw := x_gwt 370 (by decide +kernel) (by decide +kernel)
theorem w_371 : Cond.classLink RJx4a65c 7 "java/lang/Object" ∈ x_gw := x_gwt 371 (by decide +kernel) (by decide +kernel)
theorem w_372 : Cond.methodLink RL 47 yX10_test ∈ x_gw := x_gwt 372 (by decide +kernel) (by decide +kernel)
theorem w_373 : Cond.instanceMethod yX10_test ∈ x_gw := x_gwt 373 (by decide +kernel) (by decide +kernel)
theorem w_374 : Cond.selects RX10 yX10_test yX10_test ∈ x_gw := x_gwt 374 (by decide +kernel) (by decide +kernel)
theorem w_375 : Cond.code ({ cls := "IndexDesk", name := "test", desc := "(IIII)Z" } : Jvm.MethodName) prog_1_method_9_code (6 : Nat) (Option.some Jvm.ClassFile.FieldType.boolean) ∈ x_gw := x_gwt 375 (by decide +kernel) (by decide +kernel)
theorem w_376 : Cond.methodLink RX10 95 yX10_questionAt ∈ x_gw := x_gwt 376 (by decide +kernel) (by decide +kernel)
theorem w_378 : Cond.instanceMethod yX10_questionAt ∈ x_gw := x_gwt 378 (by decide +kernel) (by decide +kernel)
theorem w_379 : Cond.code ({ cls := "IndexDesk", name := "questionAt", desc := "(I)LIndexDesk$Question;" } : Jvm.MethodName) prog_1_method_25_code (2 : Nat) (Option.some (Jvm.ClassFile.FieldType.object "IndexDesk$Question")) ∈ x_gw := x_gwt 379 (by decide +kernel) (by decide +kernel)
theorem w_380 : Cond.methodLink RX10 202 yJx4a65c_get_915e3 ∈ x_gw := x_gwt 380 (by decide +kernel) (by decide +kernel)
theorem w_381 : Cond.instanceMethod yJx4a65c_get_915e3 ∈ x_gw := x_gwt 381 (by decide +kernel) (by decide +kernel)
theorem w_382 : Cond.selects RJx4a65c yJx4a65c_get_915e3 yJx4a65c_get_915e3 ∈ x_gw := x_gwt 382 (by decide +kernel) (by decide +kernel)
theorem w_383 : Cond.code ({ cls := "java/util/ArrayList", name := "get", desc := "(I)Ljava/lang/Object;" } : Jvm.MethodName) prog_22_method_20_code (2 : Nat) (Option.some (Jvm.ClassFile.FieldType.object "java/lang/Object")) ∈ x_gw := x_gwt 383 (by decide +kernel) (by decide +kernel)
theorem w_384 : Cond.methodLink RJx4a65c 118 yJ15_checkIndex_7cf53 ∈ x_gw := x_gwt 384 (by decide +kernel) (by decide +kernel)
theorem w_385 : Cond.static yJ15_checkIndex_7cf53 ∈ x_gw := x_gwt 385 (by decide +kernel) (by decide +kernel)
theorem w_386 : Cond.code ({ cls := "java/util/Objects", name := "checkIndex", desc := "(II)I" } : Jvm.MethodName) prog_26_method_17_code (2 : Nat) (Option.some Jvm.ClassFile.FieldType.int) ∈ x_gw := x_gwt 386 (by decide +kernel) (by decide +kernel)
theorem w_387 : Cond.methodLink RJ15 105 yJ3_checkIndex_8e157 ∈ x_gw := x_gwt 387 (by decide +kernel) (by decide +kernel)
theorem w_388 : Cond.static yJ3_checkIndex_8e157 ∈ x_gw := x_gwt 388 (by decide +kernel) (by decide +kernel)
theorem w_389 : Cond.code ({ cls := "jdk/internal/util/Preconditions", name := "checkIndex", desc := "(IILjava/util/function/BiFunction;)I" } : Jvm.MethodName) prog_30_method_11_code (3 : Nat) (Option.some Jvm.ClassFile.FieldType.int) ∈ x_gw := x_gwt 389 (by decide +kernel) (by decide +kernel)
theorem w_390 : Cond.methodLink RJx4a65c 123 yJx4a65c_elementData_915e3 ∈ x_gw := x_gwt 390 (by decide +kernel) (by decide +kernel)
theorem w_391 : Cond.instanceMethod yJx4a65c_elementData_915e3 ∈ x_gw := x_gwt 391 (by decide +kernel) (by decide +kernel)
theorem w_392 : Cond.selects RJx4a65c yJx4a65c_elementData_915e3 yJx4a65c_elementData_915e3 ∈ x_gw := x_gwt 392 (by decide +kernel) (by decide +kernel)
theorem w_393 : Cond.code ({ cls := "java/util/ArrayList", name := "elementData", desc := "(I)Ljava/lang/Object;" } : Jvm.MethodName) prog_22_method_18_code (2 : Nat) (Option.some (Jvm.ClassFile.FieldType.object "java/lang/Object")) ∈ x_gw := x_gwt 393 (by decide +kernel) (by decide +kernel)
theorem w_394 : Cond.methodLink RX10 103 yX9_has ∈ x_gw := x_gwt 394 (by decide +kernel) (by decide +kernel)
theorem w_395 : Cond.methodLink RX10 106 yX10_isRange ∈ x_gw := x_gwt 395 (by decide +kernel) (by decide +kernel)
theorem w_396 : Cond.static yX10_isRange ∈ x_gw := x_gwt 396 (by decide +kernel) (by decide +kernel)
theorem w_397 : Cond.code ({ cls := "IndexDesk", name := "isRange", desc := "(II)Z" } : Jvm.MethodName) prog_1_method_35_code (2 : Nat) (Option.some Jvm.ClassFile.FieldType.boolean) ∈ x_gw := x_gwt 397 (by decide +kernel) (by decide +kernel)
theorem w_398 : Cond.methodLink RX10 110 yX6_limit ∈ x_gw := x_gwt 398 (by decide +kernel) (by decide +kernel)
theorem w_399 : Cond.instanceMethod yX6_limit ∈ x_gw := x_gwt 399 (by decide +kernel) (by decide +kernel)
theorem w_400 : Cond.selects RX6 yX6_limit yX6_limit ∈ x_gw := x_gwt 400 (by decide +kernel) (by decide +kernel)
theorem w_401 : Cond.code ({ cls := "IndexDesk$Question", name := "limit", desc := "(III)V" } : Jvm.MethodName) prog_8_method_2_code (4 : Nat) (Option.none : Option Jvm.ClassFile.FieldType) ∈ x_gw := x_gwt 401 (by decide +kernel) (by decide +kernel)
theorem w_404 : Cond.methodLink RL 52 yX10_order ∈ x_gw := x_gwt 404 (by decide +kernel) (by decide +kernel)
theorem w_405 : Cond.instanceMethod yX10_order ∈ x_gw := x_gwt 405 (by decide +kernel) (by decide +kernel)
theorem w_406 : Cond.selects RX10 yX10_order yX10_order ∈ x_gw := x_gwt 406 (by decide +kernel) (by decide +kernel)
theorem w_407 : Cond.code ({ cls := "IndexDesk", name := "order", desc := "(IIIIII)I" } : Jvm.MethodName) prog_1_method_10_code (9 : Nat) (Option.some Jvm.ClassFile.FieldType.int) ∈ x_gw := x_gwt 407 (by decide +kernel) (by decide +kernel)
theorem w_408 : Cond.methodLink RX10 113 yX10_tableForAid ∈ x_gw := x_gwt 408 (by decide +kernel) (by decide +kernel)
theorem w_410 : Cond.instanceMethod yX10_tableForAid ∈ x_gw := x_gwt 410 (by decide +kernel) (by decide +kernel)
theorem w_411 : Cond.code ({ cls := "IndexDesk", name := "tableForAid", desc := "(I)LIndexDesk$Table;" } : Jvm.MethodName) prog_1_method_27_code (2 : Nat) (Option.some (Jvm.ClassFile.FieldType.object "IndexDesk$Table")) ∈ x_gw := x_gwt 411 (by decide +kernel) (by decide +kernel)
theorem w_412 : Cond.methodLink RX10 116 yX10_canOrderBy ∈ x_gw := x_gwt 412 (by decide +kernel) (by decide +kernel)
theorem w_413 : Cond.static yX10_canOrderBy ∈ x_gw := x_gwt 413 (by decide +kernel) (by decide +kernel)
theorem w_414 : Cond.code ({ cls := "IndexDesk", name := "canOrderBy", desc := "(LIndexDesk$Table;III)Z" } : Jvm.MethodName) prog_1_method_32_code (4 : Nat) (Option.some Jvm.ClassFile.FieldType.boolean) ∈ x_gw := x_gwt 414 (by decide +kernel) (by decide +kernel)
theorem w_415 : Cond.methodLink RX10 120 yX10_bit ∈ x_gw := x_gwt 415 (by decide +kernel) (by decide +kernel)
theorem w_416 : Cond.classLink RX10 124 RX3 ∈ x_gw := x_gwt 416 (by decide +kernel) (by decide +kernel)
theorem w_417 : Cond.instantiable RX3 5 ∈ x_gw := x_gwt 417 (by decide +kernel) (by decide +kernel)
theorem w_418 : Cond.methodLink RX10 126 yX3_init ∈ x_gw := x_gwt 418 (by decide +kernel) (by decide +kernel)
theorem w_419 : Cond.instanceMethod yX3_init ∈ x_gw := x_gwt 419 (by decide +kernel) (by decide +kernel)
theorem w_420 : Cond.code ({ cls := "IndexDesk$Order", name := "<init>", desc := "(LIndexDesk$Table;III)V" } : Jvm.MethodName) prog_5_method_1_code (5 : Nat) (Option.none : Option Jvm.ClassFile.FieldType) ∈ x_gw := x_gwt 420 (by decide +kernel) (by decide +kernel)
theorem w_421 : Cond.methodLink RX3 3 yX4_init ∈ x_gw := x_gwt 421 (by decide +kernel) (by decide +kernel)
theorem w_422 : Cond.instanceMethod yX4_init ∈ x_gw := x_gwt 422 (by decide +kernel) (by decide +kernel)
theorem w_423 : Cond.code ({ cls := "IndexDesk$Ordered", name := "<init>", desc := "(ILIndexDesk$Table;III)V" } : Jvm.MethodName) prog_6_method_1_code (6 : Nat) (Option.none : Option Jvm.ClassFile.FieldType) ∈ x_gw := x_gwt 423 (by decide +kernel) (by decide +kernel)
theorem w_424 : Cond.methodLink RX4 3 yX0_init ∈ x_gw := x_gwt 424 (by decide +kernel) (by decide +kernel)
theorem w_425 : Cond.instanceMethod yX0_init ∈ x_gw := x_gwt 425 (by decide +kernel) (by decide +kernel)
theorem w_426 : Cond.code ({ cls := "IndexDesk$Aid", name := "<init>", desc := "(ILIndexDesk$Table;)V" } : Jvm.MethodName) prog_2_method_1_code (3 : Nat) (Option.none : Option Jvm.ClassFile.FieldType) ∈ x_gw := x_gwt 426 (by decide +kernel) (by decide +kernel)
theorem w_427 : Cond.methodLink RX0 1 objectInit ∈ x_gw := x_gwt 427 (by decide +kernel) (by decide +kernel)
theorem w_429 : Cond.fieldLink RX2 9 "IndexDesk$Covering" "own" "I" ∈ x_gw := x_gwt 429 (by decide +kernel) (by decide +kernel)
theorem w_430 : Cond.sameField "IndexDesk$Covering" "IndexDesk$Ordered" "own" "I" ∈ x_gw := x_gwt 430 (by decide +kernel) (by decide +kernel)
theorem w_431 : Cond.fieldLink RX4 13 "IndexDesk$Ordered" "own" "I" ∈ x_gw := x_gwt 431 (by decide +kernel) (by decide +kernel)
theorem w_432 : Cond.fieldLink RX4 19 "IndexDesk$Ordered" "by" "[I" ∈ x_gw := x_gwt 432 (by decide +kernel) (by decide +kernel)
theorem w_433 : Cond.fieldLink RX0 7 "IndexDesk$Aid" "kind" "I" ∈ x_gw := x_gwt 433 (by decide +kernel) (by decide +kernel)
theorem w_434 : Cond.fieldLink RX10 173 "IndexDesk$Aid" "kind" "I" ∈ x_gw := x_gwt 434 (by decide +kernel) (by decide +kernel)
theorem w_435 : Cond.fieldLink RX0 13 "IndexDesk$Aid" "table" "LIndexDesk$Table;" ∈ x_gw := x_gwt 435 (by decide +kernel) (by decide +kernel)
theorem w_436 : Cond.fieldLink RX7 77 "IndexDesk$Aid" "table" "LIndexDesk$Table;" ∈ x_gw := x_gwt 436 (by decide +kernel) (by decide +kernel)
theorem w_437 : Cond.fieldLink RX5 27 "IndexDesk$Part" "table" "LIndexDesk$Table;" ∈ x_gw := x_gwt 437 (by decide +kernel) (by decide +kernel)
theorem w_438 : Cond.sameField "IndexDesk$Part" "IndexDesk$Aid" "table" "LIndexDesk$Table;" ∈ x_gw := x_gwt 438 (by decide +kernel) (by decide +kernel)
theorem w_439 : Cond.fieldLink RX1 9 "IndexDesk$Cluster" "table" "LIndexDesk$Table;" ∈ x_gw := x_gwt 439 (by decide +kernel) (by decide +kernel)
theorem w_440 : Cond.sameField "IndexDesk$Cluster" "IndexDesk$Aid" "table" "LIndexDesk$Table;" ∈ x_gw := x_gwt 440 (by decide +kernel) (by decide +kernel)
theorem w_441 : Cond.fieldLink RX2 30 "IndexDesk$Covering" "table" "LIndexDesk$Table;" ∈ x_gw := x_gwt 441 (by decide +kernel) (by decide +kernel)
theorem w_442 : Cond.sameField "IndexDesk$Covering" "IndexDesk$Aid" "table" "LIndexDesk$Table;" ∈ x_gw := x_gwt 442 (by decide +kernel) (by decide +kernel)
theorem w_443 : Cond.fieldLink RX4 36 "IndexDesk$Ordered" "table" "LIndexDesk$Table;" ∈ x_gw := x_gwt 443 (by decide +kernel) (by decide +kernel)
theorem w_444 : Cond.sameField "IndexDesk$Ordered" "IndexDesk$Aid" "table" "LIndexDesk$Table;" ∈ x_gw := x_gwt 444 (by decide +kernel) (by decide +kernel)
theorem w_445 : Cond.fieldLink RX8 33 "IndexDesk$Sums" "table" "LIndexDesk$Table;" ∈ x_gw := x_gwt 445 (by decide +kernel) (by decide +kernel)
theorem w_446 : Cond.sameField "IndexDesk$Sums" "IndexDesk$Aid" "table" "LIndexDesk$Table;" ∈ x_gw := x_gwt 446 (by decide +kernel) (by decide +kernel)
theorem w_447 : Cond.fieldLink RX10 176 "IndexDesk$Aid" "table" "LIndexDesk$Table;" ∈ x_gw := x_gwt 447 (by decide +kernel) (by decide +kernel)
theorem w_448 : Cond.fieldLink RX10 158 "IndexDesk$Aid" "isBuilt" "Z" ∈ x_gw := x_gwt 448 (by decide +kernel) (by decide +kernel)
theorem w_449 : Cond.laysFinal RX3 "IndexDesk$Ordered" "own" "I" ∈ x_gw := x_gwt 449 (by decide +kernel) (by decide +kernel)
theorem w_451 : Cond.laysFinal RX3 "IndexDesk$Ordered" "by" "[I" ∈ x_gw := x_gwt 451 (by decide +kernel) (by decide +kernel)
theorem w_453 : Cond.laysFinal RX3 "IndexDesk$Aid" "kind" "I" ∈ x_gw := x_gwt 453 (by decide +kernel) (by decide +kernel)
theorem w_455 : Cond.laysFinal RX3 "IndexDesk$Aid" "table" "LIndexDesk$Table;" ∈ x_gw := x_gwt 455 (by decide +kernel) (by decide +kernel)
theorem w_457 : Cond.lays RX3 "IndexDesk$Aid" "isBuilt" "Z" ∈ x_gw := x_gwt 457 (by decide +kernel) (by decide +kernel)
theorem w_459 : Cond.superclass RX3 "IndexDesk$Ordered" ∈ x_gw := x_gwt 459 (by decide +kernel) (by decide +kernel)
theorem w_460 : Cond.methodLink RX10 127 yX10_enlist ∈ x_gw := x_gwt 460 (by decide +kernel) (by decide +kernel)
theorem w_462 : Cond.instanceMethod yX10_enlist ∈ x_gw := x_gwt 462 (by decide +kernel) (by decide +kernel)
theorem w_463 : Cond.code ({ cls := "IndexDesk", name := "enlist", desc := "(LIndexDesk$Aid;)I" } : Jvm.MethodName) prog_1_method_28_code (2 : Nat) (Option.some Jvm.ClassFile.FieldType.int) ∈ x_gw := x_gwt 463 (by decide +kernel) (by decide +kernel)
theorem w_464 : Cond.classLink RX10 131 RX2 ∈ x_gw := x_gwt 464 (by decide +kernel) (by decide +kernel)
theorem w_465 : Cond.instantiable RX2 6 ∈ x_gw := x_gwt 465 (by decide +kernel) (by decide +kernel)
theorem w_466 : Cond.methodLink RX10 133 yX2_init ∈ x_gw := x_gwt 466 (by decide +kernel) (by decide +kernel)
theorem w_467 : Cond.instanceMethod yX2_init ∈ x_gw := x_gwt 467 (by decide +kernel) (by decide +kernel)
theorem w_468 : Cond.code ({ cls := "IndexDesk$Covering", name := "<init>", desc := "(LIndexDesk$Table;IIII)V" } : Jvm.MethodName) prog_4_method_1_code (6 : Nat) (Option.none : Option Jvm.ClassFile.FieldType) ∈ x_gw := x_gwt 468 (by decide +kernel) (by decide +kernel)
theorem w_469 : Cond.methodLink RX2 3 yX4_init ∈ x_gw := x_gwt 469 (by decide +kernel) (by decide +kernel)
theorem w_470 : Cond.fieldLink RX2 15 "IndexDesk$Covering" "held" "I" ∈ x_gw := x_gwt 470 (by decide +kernel) (by decide +kernel)
theorem w_471 : Cond.laysFinal RX2 "IndexDesk$Covering" "held" "I" ∈ x_gw := x_gwt 471 (by decide +kernel) (by decide +kernel)
theorem w_473 : Cond.laysFinal RX2 "IndexDesk$Ordered" "own" "I" ∈ x_gw := x_gwt 473 (by decide +kernel) (by decide +kernel)
theorem w_474 : Cond.laysFinal RX2 "IndexDesk$Ordered" "by" "[I" ∈ x_gw := x_gwt 474 (by decide +kernel) (by decide +kernel)
theorem w_475 : Cond.laysFinal RX2 "IndexDesk$Aid" "kind" "I" ∈ x_gw := x_gwt 475 (by decide +kernel) (by decide +kernel)
theorem w_476 : Cond.laysFinal RX2 "IndexDesk$Aid" "table" "LIndexDesk$Table;" ∈ x_gw := x_gwt 476 (by decide +kernel) (by decide +kernel)
theorem w_477 : Cond.lays RX2 "IndexDesk$Aid" "isBuilt" "Z" ∈ x_gw := x_gwt 477 (by decide +kernel) (by decide +kernel)
theorem w_478 : Cond.superclass RX2 "IndexDesk$Ordered" ∈ x_gw := x_gwt 478 (by decide +kernel) (by decide +kernel)
theorem w_479 : Cond.classLink RX10 136 RX1 ∈ x_gw := x_gwt 479 (by decide +kernel) (by decide +kernel)
theorem w_480 : Cond.instantiable RX1 5 ∈ x_gw := x_gwt 480 (by decide +kernel) (by decide +kernel)
theorem w_481 : Cond.methodLink RX10 138 yX1_init ∈ x_gw := x_gwt 481 (by decide +kernel) (by decide +kernel)
theorem w_482 : Cond.instanceMethod yX1_init ∈ x_gw := x_gwt 482 (by decide +kernel) (by decide +kernel)
theorem w_483 : Cond.code ({ cls := "IndexDesk$Cluster", name := "<init>", desc := "(LIndexDesk$Table;III)V" } : Jvm.MethodName) prog_3_method_1_code (5 : Nat) (Option.none : Option Jvm.ClassFile.FieldType) ∈ x_gw := x_gwt 483 (by decide +kernel) (by decide +kernel)
theorem w_484 : Cond.methodLink RX1 3 yX4_init ∈ x_gw := x_gwt 484 (by decide +kernel) (by decide +kernel)
theorem w_485 : Cond.laysFinal RX1 "IndexDesk$Ordered" "own" "I" ∈ x_gw := x_gwt 485 (by decide +kernel) (by decide +kernel)
theorem w_486 : Cond.laysFinal RX1 "IndexDesk$Ordered" "by" "[I" ∈ x_gw := x_gwt 486 (by decide +kernel) (by decide +kernel)
theorem w_487 : Cond.laysFinal RX1 "IndexDesk$Aid" "kind" "I" ∈ x_gw := x_gwt 487 (by decide +kernel) (by decide +kernel)
theorem w_488 : Cond.laysFinal RX1 "IndexDesk$Aid" "table" "LIndexDesk$Table;" ∈ x_gw := x_gwt 488 (by decide +kernel) (by decide +kernel)
theorem w_489 : Cond.lays RX1 "IndexDesk$Aid" "isBuilt" "Z" ∈ x_gw := x_gwt 489 (by decide +kernel) (by decide +kernel)
theorem w_490 : Cond.superclass RX1 "IndexDesk$Ordered" ∈ x_gw := x_gwt 490 (by decide +kernel) (by decide +kernel)
theorem w_491 : Cond.methodLink RL 57 yX10_part ∈ x_gw := x_gwt 491 (by decide +kernel) (by decide +kernel)
theorem w_492 : Cond.instanceMethod yX10_part ∈ x_gw := x_gwt 492 (by decide +kernel) (by decide +kernel)
theorem w_493 : Cond.selects RX10 yX10_part yX10_part ∈ x_gw := x_gwt 493 (by decide +kernel) (by decide +kernel)
theorem w_494 : Cond.code ({ cls := "IndexDesk", name := "part", desc := "(IIIIII)I" } : Jvm.MethodName) prog_1_method_11_code (8 : Nat) (Option.some Jvm.ClassFile.FieldType.int) ∈ x_gw := x_gwt 494 (by decide +kernel) (by decide +kernel)
theorem w_495 : Cond.classLink RX10 139 RX5 ∈ x_gw := x_gwt 495 (by decide +kernel) (by decide +kernel)
theorem w_496 : Cond.instantiable RX5 8 ∈ x_gw := x_gwt 496 (by decide +kernel) (by decide +kernel)
theorem w_497 : Cond.methodLink RX10 141 yX5_init ∈ x_gw := x_gwt 497 (by decide +kernel) (by decide +kernel)
theorem w_498 : Cond.instanceMethod yX5_init ∈ x_gw := x_gwt 498 (by decide +kernel) (by decide +kernel)
theorem w_499 : Cond.code ({ cls := "IndexDesk$Part", name := "<init>", desc := "(LIndexDesk$Table;IIIII)V" } : Jvm.MethodName) prog_7_method_1_code (7 : Nat) (Option.none : Option Jvm.ClassFile.FieldType) ∈ x_gw := x_gwt 499 (by decide +kernel) (by decide +kernel)
theorem w_500 : Cond.methodLink RX5 3 yX4_init ∈ x_gw := x_gwt 500 (by decide +kernel) (by decide +kernel)
theorem w_501 : Cond.fieldLink RX5 9 "IndexDesk$Part" "column" "I" ∈ x_gw := x_gwt 501 (by decide +kernel) (by decide +kernel)
theorem w_502 : Cond.fieldLink RX5 15 "IndexDesk$Part" "from" "I" ∈ x_gw := x_gwt 502 (by decide +kernel) (by decide +kernel)
theorem w_503 : Cond.fieldLink RX5 18 "IndexDesk$Part" "to" "I" ∈ x_gw := x_gwt 503 (by decide +kernel) (by decide +kernel)
theorem w_504 : Cond.laysFinal RX5 "IndexDesk$Part" "column" "I" ∈ x_gw := x_gwt 504 (by decide +kernel) (by decide +kernel)
theorem w_506 : Cond.laysFinal RX5 "IndexDesk$Part" "from" "I" ∈ x_gw := x_gwt 506 (by decide +kernel) (by decide +kernel)
theorem w_508 : Cond.laysFinal RX5 "IndexDesk$Part" "to" "I" ∈ x_gw := x_gwt 508 (by decide +kernel) (by decide +kernel)
theorem w_510 : Cond.laysFinal RX5 "IndexDesk$Ordered" "own" "I" ∈ x_gw := x_gwt 510 (by decide +kernel) (by decide +kernel)
theorem w_511 : Cond.laysFinal RX5 "IndexDesk$Ordered" "by" "[I" ∈ x_gw := x_gwt 511 (by decide +kernel) (by decide +kernel)
theorem w_512 : Cond.laysFinal RX5 "IndexDesk$Aid" "kind" "I" ∈ x_gw := x_gwt 512 (by decide +kernel) (by decide +kernel)
theorem w_513 : Cond.laysFinal RX5 "IndexDesk$Aid" "table" "LIndexDesk$Table;" ∈ x_gw := x_gwt 513 (by decide +kernel) (by decide +kernel)
theorem w_514 : Cond.lays RX5 "IndexDesk$Aid" "isBuilt" "Z" ∈ x_gw := x_gwt 514 (by decide +kernel) (by decide +kernel)
theorem w_515 : Cond.superclass RX5 "IndexDesk$Ordered" ∈ x_gw := x_gwt 515 (by decide +kernel) (by decide +kernel)
theorem w_516 : Cond.methodLink RL 61 yX10_sums ∈ x_gw := x_gwt 516 (by decide +kernel) (by decide +kernel)
theorem w_517 : Cond.instanceMethod yX10_sums ∈ x_gw := x_gwt 517 (by decide +kernel) (by decide +kernel)
theorem w_518 : Cond.selects RX10 yX10_sums yX10_sums ∈ x_gw := x_gwt 518 (by decide +kernel) (by decide +kernel)
theorem w_519 : Cond.code ({ cls := "IndexDesk", name := "sums", desc := "(III)I" } : Jvm.MethodName) prog_1_method_12_code (5 : Nat) (Option.some Jvm.ClassFile.FieldType.int) ∈ x_gw := x_gwt 519 (by decide +kernel) (by decide +kernel)
theorem w_520 : Cond.methodLink RX10 144 yJ6_bitCount_0f7a4 ∈ x_gw := x_gwt 520 (by decide +kernel) (by decide +kernel)
theorem w_521 : Cond.static yJ6_bitCount_0f7a4 ∈ x_gw := x_gwt 521 (by decide +kernel) (by decide +kernel)
theorem w_522 : Cond.code ({ cls := "java/lang/Integer", name := "bitCount", desc := "(I)I" } : Jvm.MethodName) prog_16_method_49_code (1 : Nat) (Option.some Jvm.ClassFile.FieldType.int) ∈ x_gw := x_gwt 522 (by decide +kernel) (by decide +kernel)
theorem w_523 : Cond.constant RJ6 265 (1431655765) ∈ x_gw := x_gwt 523 (by decide +kernel) (by decide +kernel)
theorem w_524 : Cond.constant RJ6 266 (858993459) ∈ x_gw := x_gwt 524 (by decide +kernel) (by decide +kernel)
theorem w_525 : Cond.constant RJ6 267 (252645135) ∈ x_gw := x_gwt 525 (by decide +kernel) (by decide +kernel)
theorem w_526 : Cond.classLink RX10 149 RX8 ∈ x_gw := x_gwt 526 (by decide +kernel) (by decide +kernel)
theorem w_527 : Cond.instantiable RX8 5 ∈ x_gw := x_gwt 527 (by decide +kernel) (by decide +kernel)
theorem w_528 : Cond.methodLink RX10 151 yX8_init ∈ x_gw := x_gwt 528 (by decide +kernel) (by decide +kernel)
theorem w_529 : Cond.instanceMethod yX8_init ∈ x_gw := x_gwt 529 (by decide +kernel) (by decide +kernel)
theorem w_530 : Cond.code ({ cls := "IndexDesk$Sums", name := "<init>", desc := "(LIndexDesk$Table;II)V" } : Jvm.MethodName) prog_10_method_1_code (4 : Nat) (Option.none : Option Jvm.ClassFile.FieldType) ∈ x_gw := x_gwt 530 (by decide +kernel) (by decide +kernel)
theorem w_531 : Cond.methodLink RX8 3 yX0_init ∈ x_gw := x_gwt 531 (by decide +kernel) (by decide +kernel)
theorem w_532 : Cond.fieldLink RX8 9 "IndexDesk$Sums" "groupedBy" "I" ∈ x_gw := x_gwt 532 (by decide +kernel) (by decide +kernel)
theorem w_533 : Cond.fieldLink RX8 15 "IndexDesk$Sums" "column" "I" ∈ x_gw := x_gwt 533 (by decide +kernel) (by decide +kernel)
theorem w_534 : Cond.laysFinal RX8 "IndexDesk$Sums" "groupedBy" "I" ∈ x_gw := x_gwt 534 (by decide +kernel) (by decide +kernel)
theorem w_536 : Cond.laysFinal RX8 "IndexDesk$Sums" "column" "I" ∈ x_gw := x_gwt 536 (by decide +kernel) (by decide +kernel)
theorem w_538 : Cond.laysFinal RX8 "IndexDesk$Aid" "kind" "I" ∈ x_gw := x_gwt 538 (by decide +kernel) (by decide +kernel)
theorem w_539 : Cond.laysFinal RX8 "IndexDesk$Aid" "table" "LIndexDesk$Table;" ∈ x_gw := x_gwt 539 (by decide +kernel) (by decide +kernel)
theorem w_540 : Cond.lays RX8 "IndexDesk$Aid" "isBuilt" "Z" ∈ x_gw := x_gwt 540 (by decide +kernel) (by decide +kernel)
theorem w_541 : Cond.superclass RX8 "IndexDesk$Aid" ∈ x_gw := x_gwt 541 (by decide +kernel) (by decide +kernel)
theorem w_542 : Cond.methodLink RL 65 yX10_build ∈ x_gw := x_gwt 542 (by decide +kernel) (by decide +kernel)
theorem w_543 : Cond.instanceMethod yX10_build ∈ x_gw := x_gwt 543 (by decide +kernel) (by decide +kernel)
theorem w_544 : Cond.selects RX10 yX10_build yX10_build ∈ x_gw := x_gwt 544 (by decide +kernel) (by decide +kernel)
theorem w_545 : Cond.code ({ cls := "IndexDesk", name := "build", desc := "(IZ)Z" } : Jvm.MethodName) prog_1_method_13_code (4 : Nat) (Option.some Jvm.ClassFile.FieldType.boolean) ∈ x_gw := x_gwt 545 (by decide +kernel) (by decide +kernel)
theorem w_546 : Cond.methodLink RX10 154 yX10_aidAt ∈ x_gw := x_gwt 546 (by decide +kernel) (by decide +kernel)
theorem w_548 : Cond.instanceMethod yX10_aidAt ∈ x_gw := x_gwt 548 (by decide +kernel) (by decide +kernel)
theorem w_549 : Cond.code ({ cls := "IndexDesk", name := "aidAt", desc := "(I)LIndexDesk$Aid;" } : Jvm.MethodName) prog_1_method_26_code (2 : Nat) (Option.some (Jvm.ClassFile.FieldType.object "IndexDesk$Aid")) ∈ x_gw := x_gwt 549 (by decide +kernel) (by decide +kernel)
theorem w_550 : Cond.classLink RX10 159 RX0 ∈ x_gw := x_gwt 550 (by decide +kernel) (by decide +kernel)
theorem w_551 : Cond.methodLink RX10 164 yX10_rivalsOf ∈ x_gw := x_gwt 551 (by decide +kernel) (by decide +kernel)
theorem w_552 : Cond.static yX10_rivalsOf ∈ x_gw := x_gwt 552 (by decide +kernel) (by decide +kernel)
theorem w_553 : Cond.code ({ cls := "IndexDesk", name := "rivalsOf", desc := "(Ljava/util/ArrayList;I)I" } : Jvm.MethodName) prog_1_method_33_code (5 : Nat) (Option.some Jvm.ClassFile.FieldType.int) ∈ x_gw := x_gwt 553 (by decide +kernel) (by decide +kernel)
theorem w_554 : Cond.methodLink RX10 168 yX10_built ∈ x_gw := x_gwt 554 (by decide +kernel) (by decide +kernel)
theorem w_555 : Cond.instanceMethod yX10_built ∈ x_gw := x_gwt 555 (by decide +kernel) (by decide +kernel)
theorem w_556 : Cond.selects RX10 yX10_built yX10_built ∈ x_gw := x_gwt 556 (by decide +kernel) (by decide +kernel)
theorem w_557 : Cond.code ({ cls := "IndexDesk", name := "built", desc := "()I" } : Jvm.MethodName) prog_1_method_20_code (3 : Nat) (Option.some Jvm.ClassFile.FieldType.int) ∈ x_gw := x_gwt 557 (by decide +kernel) (by decide +kernel)
theorem w_558 : Cond.methodLink RL 70 yX10_look ∈ x_gw := x_gwt 558 (by decide +kernel) (by decide +kernel)
theorem w_559 : Cond.instanceMethod yX10_look ∈ x_gw := x_gwt 559 (by decide +kernel) (by decide +kernel)
theorem w_560 : Cond.selects RX10 yX10_look yX10_look ∈ x_gw := x_gwt 560 (by decide +kernel) (by decide +kernel)
theorem w_561 : Cond.code ({ cls := "IndexDesk", name := "look", desc := "(II)J" } : Jvm.MethodName) prog_1_method_14_code (4 : Nat) (Option.some Jvm.ClassFile.FieldType.long) ∈ x_gw := x_gwt 561 (by decide +kernel) (by decide +kernel)
theorem w_562 : Cond.constantLong RX10 171 (-1) ∈ x_gw := x_gwt 562 (by decide +kernel) (by decide +kernel)
theorem w_563 : Cond.methodLink RX10 180 ⟨"IndexDesk$Aid", "space", "()I"⟩ ∈ x_gw := x_gwt 563 (by decide +kernel) (by decide +kernel)
theorem w_565 : Cond.sameMethod "IndexDesk$Aid" "IndexDesk$Aid" "space" "()I" ∈ x_gw := x_gwt 565 (by decide +kernel) (by decide +kernel)
theorem w_566 : Cond.selects RX1 ⟨"IndexDesk$Aid", "space", "()I"⟩ yX1_space ∈ x_gw := x_gwt 566 (by decide +kernel) (by decide +kernel)
theorem w_567 : Cond.instanceMethod yX1_space ∈ x_gw := x_gwt 567 (by decide +kernel) (by decide +kernel)
theorem w_568 : Cond.code ({ cls := "IndexDesk$Cluster", name := "space", desc := "()I" } : Jvm.MethodName) prog_3_method_4_code (1 : Nat) (Option.some Jvm.ClassFile.FieldType.int) ∈ x_gw := x_gwt 568 (by decide +kernel) (by decide +kernel)
theorem w_569 : Cond.selects RX2 ⟨"IndexDesk$Aid", "space", "()I"⟩ yX2_space ∈ x_gw := x_gwt 569 (by decide +kernel) (by decide +kernel)
theorem w_570 : Cond.instanceMethod yX2_space ∈ x_gw := x_gwt 570 (by decide +kernel) (by decide +kernel)
theorem w_571 : Cond.code ({ cls := "IndexDesk$Covering", name := "space", desc := "()I" } : Jvm.MethodName) prog_4_method_3_code (2 : Nat) (Option.some Jvm.ClassFile.FieldType.int) ∈ x_gw := x_gwt 571 (by decide +kernel) (by decide +kernel)
theorem w_572 : Cond.methodLink RX2 24 yJ6_bitCount_0f7a4 ∈ x_gw := x_gwt 572 (by decide +kernel) (by decide +kernel)
theorem w_574 : Cond.selects RX3 ⟨"IndexDesk$Aid", "space", "()I"⟩ yX4_space ∈ x_gw := x_gwt 574 (by decide +kernel) (by decide +kernel)
theorem w_575 : Cond.instanceMethod yX4_space ∈ x_gw := x_gwt 575 (by decide +kernel) (by decide +kernel)
theorem w_576 : Cond.code ({ cls := "IndexDesk$Ordered", name := "space", desc := "()I" } : Jvm.MethodName) prog_6_method_11_code (1 : Nat) (Option.some Jvm.ClassFile.FieldType.int) ∈ x_gw := x_gwt 576 (by decide +kernel) (by decide +kernel)
theorem w_577 : Cond.methodLink RX4 48 yX4_foretoldRows ∈ x_gw := x_gwt 577 (by decide +kernel) (by decide +kernel)
theorem w_578 : Cond.instanceMethod yX4_foretoldRows ∈ x_gw := x_gwt 578 (by decide +kernel) (by decide +kernel)
theorem w_579 : Cond.sameMethod "IndexDesk$Ordered" "IndexDesk$Ordered" "foretoldRows" "()I" ∈ x_gw := x_gwt 579 (by decide +kernel) (by decide +kernel)
theorem w_580 : Cond.selects RX1 yX4_foretoldRows yX4_foretoldRows ∈ x_gw := x_gwt 580 (by decide +kernel) (by decide +kernel)
theorem w_581 : Cond.selects RX2 yX4_foretoldRows yX4_foretoldRows ∈ x_gw := x_gwt 581 (by decide +kernel) (by decide +kernel)
theorem w_582 : Cond.selects RX3 yX4_foretoldRows yX4_foretoldRows ∈ x_gw := x_gwt 582 (by decide +kernel) (by decide +kernel)
theorem w_583 : Cond.selects RX5 yX4_foretoldRows yX5_foretoldRows ∈ x_gw := x_gwt 583 (by decide +kernel) (by decide +kernel)
theorem w_584 : Cond.instanceMethod yX5_foretoldRows ∈ x_gw := x_gwt 584 (by decide +kernel) (by decide +kernel)
theorem w_585 : Cond.code ({ cls := "IndexDesk$Part", name := "foretoldRows", desc := "()I" } : Jvm.MethodName) prog_7_method_3_code (1 : Nat) (Option.some Jvm.ClassFile.FieldType.int) ∈ x_gw := x_gwt 585 (by decide +kernel) (by decide +kernel)
theorem w_586 : Cond.methodLink RX5 36 yX9_foretoldPassing ∈ x_gw := x_gwt 586 (by decide +kernel) (by decide +kernel)
theorem w_587 : Cond.instanceMethod yX9_foretoldPassing ∈ x_gw := x_gwt 587 (by decide +kernel) (by decide +kernel)
theorem w_588 : Cond.selects RX9 yX9_foretoldPassing yX9_foretoldPassing ∈ x_gw := x_gwt 588 (by decide +kernel) (by decide +kernel)
theorem w_589 : Cond.code ({ cls := "IndexDesk$Table", name := "foretoldPassing", desc := "(IIII)I" } : Jvm.MethodName) prog_11_method_22_code (6 : Nat) (Option.some Jvm.ClassFile.FieldType.int) ∈ x_gw := x_gwt 589 (by decide +kernel) (by decide +kernel)
theorem w_590 : Cond.code ({ cls := "IndexDesk$Ordered", name := "foretoldRows", desc := "()I" } : Jvm.MethodName) prog_6_method_4_code (1 : Nat) (Option.some Jvm.ClassFile.FieldType.int) ∈ x_gw := x_gwt 590 (by decide +kernel) (by decide +kernel)
theorem w_592 : Cond.selects RX5 ⟨"IndexDesk$Aid", "space", "()I"⟩ yX4_space ∈ x_gw := x_gwt 592 (by decide +kernel) (by decide +kernel)
theorem w_593 : Cond.selects RX8 ⟨"IndexDesk$Aid", "space", "()I"⟩ yX8_space ∈ x_gw := x_gwt 593 (by decide +kernel) (by decide +kernel)
theorem w_594 : Cond.instanceMethod yX8_space ∈ x_gw := x_gwt 594 (by decide +kernel) (by decide +kernel)
theorem w_595 : Cond.code ({ cls := "IndexDesk$Sums", name := "space", desc := "()I" } : Jvm.MethodName) prog_10_method_5_code (1 : Nat) (Option.some Jvm.ClassFile.FieldType.int) ∈ x_gw := x_gwt 595 (by decide +kernel) (by decide +kernel)
theorem w_596 : Cond.methodLink RX8 50 yX9_foretoldGroups ∈ x_gw := x_gwt 596 (by decide +kernel) (by decide +kernel)
theorem w_597 : Cond.instanceMethod yX9_foretoldGroups ∈ x_gw := x_gwt 597 (by decide +kernel) (by decide +kernel)
theorem w_598 : Cond.selects RX9 yX9_foretoldGroups yX9_foretoldGroups ∈ x_gw := x_gwt 598 (by decide +kernel) (by decide +kernel)
theorem w_599 : Cond.code ({ cls := "IndexDesk$Table", name := "foretoldGroups", desc := "(I)I" } : Jvm.MethodName) prog_11_method_21_code (4 : Nat) (Option.some Jvm.ClassFile.FieldType.int) ∈ x_gw := x_gwt 599 (by decide +kernel) (by decide +kernel)
theorem w_601 : Cond.methodLink RX10 183 yX7_load ∈ x_gw := x_gwt 601 (by decide +kernel) (by decide +kernel)
theorem w_602 : Cond.instanceMethod yX7_load ∈ x_gw := x_gwt 602 (by decide +kernel) (by decide +kernel)
theorem w_603 : Cond.selects RX7 yX7_load yX7_load ∈ x_gw := x_gwt 603 (by decide +kernel) (by decide +kernel)
theorem w_604 : Cond.code ({ cls := "IndexDesk$Scales", name := "load", desc := "(Ljava/util/ArrayList;Ljava/util/ArrayList;)V" } : Jvm.MethodName) prog_9_method_2_code (8 : Nat) (Option.none : Option Jvm.ClassFile.FieldType) ∈ x_gw := x_gwt 604 (by decide +kernel) (by decide +kernel)
theorem w_605 : Cond.methodLink RX7 32 yJx4a65c_size_8abf5 ∈ x_gw := x_gwt 605 (by decide +kernel) (by decide +kernel)
theorem w_606 : Cond.methodLink RX7 38 yJ9_min_7cf53 ∈ x_gw := x_gwt 606 (by decide +kernel) (by decide +kernel)
theorem w_607 : Cond.methodLink RX7 51 yJx4a65c_get_915e3 ∈ x_gw := x_gwt 607 (by decide +kernel) (by decide +kernel)
theorem w_608 : Cond.classLink RX7 55 RX6 ∈ x_gw := x_gwt 608 (by decide +kernel) (by decide +kernel)
theorem w_609 : Cond.methodLink RX7 64 yX9_countedPages ∈ x_gw := x_gwt 609 (by decide +kernel) (by decide +kernel)
theorem w_610 : Cond.classLink RX7 69 RX0 ∈ x_gw := x_gwt 610 (by decide +kernel) (by decide +kernel)
theorem w_611 : Cond.methodLink RX7 71 ⟨"IndexDesk$Aid", "space", "()I"⟩ ∈ x_gw := x_gwt 611 (by decide +kernel) (by decide +kernel)
theorem w_612 : Cond.methodLink RX7 74 ⟨"IndexDesk$Aid", "keeping", "()I"⟩ ∈ x_gw := x_gwt 612 (by decide +kernel) (by decide +kernel)
theorem w_614 : Cond.sameMethod "IndexDesk$Aid" "IndexDesk$Aid" "keeping" "()I" ∈ x_gw := x_gwt 614 (by decide +kernel) (by decide +kernel)
theorem w_615 : Cond.selects RX1 ⟨"IndexDesk$Aid", "keeping", "()I"⟩ yX1_keeping ∈ x_gw := x_gwt 615 (by decide +kernel) (by decide +kernel)
theorem w_616 : Cond.instanceMethod yX1_keeping ∈ x_gw := x_gwt 616 (by decide +kernel) (by decide +kernel)
theorem w_617 : Cond.code ({ cls := "IndexDesk$Cluster", name := "keeping", desc := "()I" } : Jvm.MethodName) prog_3_method_5_code (1 : Nat) (Option.some Jvm.ClassFile.FieldType.int) ∈ x_gw := x_gwt 617 (by decide +kernel) (by decide +kernel)
theorem w_618 : Cond.selects RX2 ⟨"IndexDesk$Aid", "keeping", "()I"⟩ yX2_keeping ∈ x_gw := x_gwt 618 (by decide +kernel) (by decide +kernel)
theorem w_619 : Cond.instanceMethod yX2_keeping ∈ x_gw := x_gwt 619 (by decide +kernel) (by decide +kernel)
theorem w_620 : Cond.code ({ cls := "IndexDesk$Covering", name := "keeping", desc := "()I" } : Jvm.MethodName) prog_4_method_4_code (1 : Nat) (Option.some Jvm.ClassFile.FieldType.int) ∈ x_gw := x_gwt 620 (by decide +kernel) (by decide +kernel)
theorem w_621 : Cond.selects RX3 ⟨"IndexDesk$Aid", "keeping", "()I"⟩ yX3_keeping ∈ x_gw := x_gwt 621 (by decide +kernel) (by decide +kernel)
theorem w_622 : Cond.instanceMethod yX3_keeping ∈ x_gw := x_gwt 622 (by decide +kernel) (by decide +kernel)
theorem w_623 : Cond.code ({ cls := "IndexDesk$Order", name := "keeping", desc := "()I" } : Jvm.MethodName) prog_5_method_2_code (1 : Nat) (Option.some Jvm.ClassFile.FieldType.int) ∈ x_gw := x_gwt 623 (by decide +kernel) (by decide +kernel)
theorem w_624 : Cond.selects RX5 ⟨"IndexDesk$Aid", "keeping", "()I"⟩ yX5_keeping ∈ x_gw := x_gwt 624 (by decide +kernel) (by decide +kernel)
theorem w_625 : Cond.instanceMethod yX5_keeping ∈ x_gw := x_gwt 625 (by decide +kernel) (by decide +kernel)
theorem w_626 : Cond.code ({ cls := "IndexDesk$Part", name := "keeping", desc := "()I" } : Jvm.MethodName) prog_7_method_5_code (1 : Nat) (Option.some Jvm.ClassFile.FieldType.int) ∈ x_gw := x_gwt 626 (by decide +kernel) (by decide +kernel)
theorem w_627 : Cond.selects RX8 ⟨"IndexDesk$Aid", "keeping", "()I"⟩ yX8_keeping ∈ x_gw := x_gwt 627 (by decide +kernel) (by decide +kernel)
theorem w_628 : Cond.instanceMethod yX8_keeping ∈ x_gw := x_gwt 628 (by decide +kernel) (by decide +kernel)
theorem w_629 : Cond.code ({ cls := "IndexDesk$Sums", name := "keeping", desc := "()I" } : Jvm.MethodName) prog_10_method_6_code (1 : Nat) (Option.some Jvm.ClassFile.FieldType.int) ∈ x_gw := x_gwt 629 (by decide +kernel) (by decide +kernel)
theorem w_631 : Cond.methodLink RX7 85 ⟨"IndexDesk$Aid", "helps", "(LIndexDesk$Question;)Z"⟩ ∈ x_gw := x_gwt 631 (by decide +kernel) (by decide +kernel)
theorem w_633 : Cond.sameMethod "IndexDesk$Aid" "IndexDesk$Aid" "helps" "(LIndexDesk$Question;)Z" ∈ x_gw := x_gwt 633 (by decide +kernel) (by decide +kernel)
theorem w_634 : Cond.selects RX1 ⟨"IndexDesk$Aid", "helps", "(LIndexDesk$Question;)Z"⟩ yX4_helps ∈ x_gw := x_gwt 634 (by decide +kernel) (by decide +kernel)
theorem w_635 : Cond.instanceMethod yX4_helps ∈ x_gw := x_gwt 635 (by decide +kernel) (by decide +kernel)
theorem w_636 : Cond.code ({ cls := "IndexDesk$Ordered", name := "helps", desc := "(LIndexDesk$Question;)Z" } : Jvm.MethodName) prog_6_method_3_code (2 : Nat) (Option.some Jvm.ClassFile.FieldType.boolean) ∈ x_gw := x_gwt 636 (by decide +kernel) (by decide +kernel)
theorem w_637 : Cond.methodLink RX4 32 yX4_usedBy ∈ x_gw := x_gwt 637 (by decide +kernel) (by decide +kernel)
theorem w_638 : Cond.instanceMethod yX4_usedBy ∈ x_gw := x_gwt 638 (by decide +kernel) (by decide +kernel)
theorem w_639 : Cond.sameMethod "IndexDesk$Ordered" "IndexDesk$Ordered" "usedBy" "(LIndexDesk$Question;)I" ∈ x_gw := x_gwt 639 (by decide +kernel) (by decide +kernel)
theorem w_640 : Cond.selects RX1 yX4_usedBy yX4_usedBy ∈ x_gw := x_gwt 640 (by decide +kernel) (by decide +kernel)
theorem w_641 : Cond.selects RX2 yX4_usedBy yX4_usedBy ∈ x_gw := x_gwt 641 (by decide +kernel) (by decide +kernel)
theorem w_642 : Cond.selects RX3 yX4_usedBy yX4_usedBy ∈ x_gw := x_gwt 642 (by decide +kernel) (by decide +kernel)
theorem w_643 : Cond.selects RX5 yX4_usedBy yX4_usedBy ∈ x_gw := x_gwt 643 (by decide +kernel) (by decide +kernel)
theorem w_644 : Cond.code ({ cls := "IndexDesk$Ordered", name := "usedBy", desc := "(LIndexDesk$Question;)I" } : Jvm.MethodName) prog_6_method_2_code (3 : Nat) (Option.some Jvm.ClassFile.FieldType.int) ∈ x_gw := x_gwt 644 (by decide +kernel) (by decide +kernel)
theorem w_645 : Cond.methodLink RX4 23 yX6_testsAlike ∈ x_gw := x_gwt 645 (by decide +kernel) (by decide +kernel)
theorem w_646 : Cond.instanceMethod yX6_testsAlike ∈ x_gw := x_gwt 646 (by decide +kernel) (by decide +kernel)
theorem w_647 : Cond.selects RX6 yX6_testsAlike yX6_testsAlike ∈ x_gw := x_gwt 647 (by decide +kernel) (by decide +kernel)
theorem w_648 : Cond.code ({ cls := "IndexDesk$Question", name := "testsAlike", desc := "(I)Z" } : Jvm.MethodName) prog_8_method_4_code (2 : Nat) (Option.some Jvm.ClassFile.FieldType.boolean) ∈ x_gw := x_gwt 648 (by decide +kernel) (by decide +kernel)
theorem w_649 : Cond.methodLink RX6 43 yX6_tests ∈ x_gw := x_gwt 649 (by decide +kernel) (by decide +kernel)
theorem w_650 : Cond.instanceMethod yX6_tests ∈ x_gw := x_gwt 650 (by decide +kernel) (by decide +kernel)
theorem w_651 : Cond.selects RX6 yX6_tests yX6_tests ∈ x_gw := x_gwt 651 (by decide +kernel) (by decide +kernel)
theorem w_652 : Cond.code ({ cls := "IndexDesk$Question", name := "tests", desc := "(I)Z" } : Jvm.MethodName) prog_8_method_3_code (2 : Nat) (Option.some Jvm.ClassFile.FieldType.boolean) ∈ x_gw := x_gwt 652 (by decide +kernel) (by decide +kernel)
theorem w_653 : Cond.methodLink RX4 29 yX6_tests ∈ x_gw := x_gwt 653 (by decide +kernel) (by decide +kernel)
theorem w_654 : Cond.selects RX2 ⟨"IndexDesk$Aid", "helps", "(LIndexDesk$Question;)Z"⟩ yX4_helps ∈ x_gw := x_gwt 654 (by decide +kernel) (by decide +kernel)
theorem w_655 : Cond.selects RX3 ⟨"IndexDesk$Aid", "helps", "(LIndexDesk$Question;)Z"⟩ yX4_helps ∈ x_gw := x_gwt 655 (by decide +kernel) (by decide +kernel)
theorem w_656 : Cond.selects RX5 ⟨"IndexDesk$Aid", "helps", "(LIndexDesk$Question;)Z"⟩ yX5_helps ∈ x_gw := x_gwt 656 (by decide +kernel) (by decide +kernel)
theorem w_657 : Cond.instanceMethod yX5_helps ∈ x_gw := x_gwt 657 (by decide +kernel) (by decide +kernel)
theorem w_658 : Cond.code ({ cls := "IndexDesk$Part", name := "helps", desc := "(LIndexDesk$Question;)Z" } : Jvm.MethodName) prog_7_method_2_code (2 : Nat) (Option.some Jvm.ClassFile.FieldType.boolean) ∈ x_gw := x_gwt 658 (by decide +kernel) (by decide +kernel)
theorem w_659 : Cond.methodLink RX5 21 yX6_testsWithin ∈ x_gw := x_gwt 659 (by decide +kernel) (by decide +kernel)
theorem w_660 : Cond.instanceMethod yX6_testsWithin ∈ x_gw := x_gwt 660 (by decide +kernel) (by decide +kernel)
theorem w_661 : Cond.selects RX6 yX6_testsWithin yX6_testsWithin ∈ x_gw := x_gwt 661 (by decide +kernel) (by decide +kernel)
theorem w_662 : Cond.code ({ cls := "IndexDesk$Question", name := "testsWithin", desc := "(III)Z" } : Jvm.MethodName) prog_8_method_5_code (4 : Nat) (Option.some Jvm.ClassFile.FieldType.boolean) ∈ x_gw := x_gwt 662 (by decide +kernel) (by decide +kernel)
theorem w_663 : Cond.selects RX8 ⟨"IndexDesk$Aid", "helps", "(LIndexDesk$Question;)Z"⟩ yX8_helps ∈ x_gw := x_gwt 663 (by decide +kernel) (by decide +kernel)
theorem w_664 : Cond.instanceMethod yX8_helps ∈ x_gw := x_gwt 664 (by decide +kernel) (by decide +kernel)
theorem w_665 : Cond.code ({ cls := "IndexDesk$Sums", name := "helps", desc := "(LIndexDesk$Question;)Z" } : Jvm.MethodName) prog_10_method_2_code (2 : Nat) (Option.some Jvm.ClassFile.FieldType.boolean) ∈ x_gw := x_gwt 665 (by decide +kernel) (by decide +kernel)
theorem w_666 : Cond.methodLink RX7 89 ⟨"IndexDesk$Aid", "foretold", "(LIndexDesk$Question;)I"⟩ ∈ x_gw := x_gwt 666 (by decide +kernel) (by decide +kernel)
theorem w_668 : Cond.sameMethod "IndexDesk$Aid" "IndexDesk$Aid" "foretold" "(LIndexDesk$Question;)I" ∈ x_gw := x_gwt 668 (by decide +kernel) (by decide +kernel)
theorem w_669 : Cond.selects RX1 ⟨"IndexDesk$Aid", "foretold", "(LIndexDesk$Question;)I"⟩ yX4_foretold ∈ x_gw := x_gwt 669 (by decide +kernel) (by decide +kernel)
theorem w_670 : Cond.instanceMethod yX4_foretold ∈ x_gw := x_gwt 670 (by decide +kernel) (by decide +kernel)
theorem w_671 : Cond.code ({ cls := "IndexDesk$Ordered", name := "foretold", desc := "(LIndexDesk$Question;)I" } : Jvm.MethodName) prog_6_method_8_code (5 : Nat) (Option.some Jvm.ClassFile.FieldType.int) ∈ x_gw := x_gwt 671 (by decide +kernel) (by decide +kernel)
theorem w_672 : Cond.methodLink RX4 52 yX6_foretoldPassing ∈ x_gw := x_gwt 672 (by decide +kernel) (by decide +kernel)
theorem w_673 : Cond.instanceMethod yX6_foretoldPassing ∈ x_gw := x_gwt 673 (by decide +kernel) (by decide +kernel)
theorem w_674 : Cond.selects RX6 yX6_foretoldPassing yX6_foretoldPassing ∈ x_gw := x_gwt 674 (by decide +kernel) (by decide +kernel)
theorem w_675 : Cond.code ({ cls := "IndexDesk$Question", name := "foretoldPassing", desc := "(II)I" } : Jvm.MethodName) prog_8_method_6_code (3 : Nat) (Option.some Jvm.ClassFile.FieldType.int) ∈ x_gw := x_gwt 675 (by decide +kernel) (by decide +kernel)
theorem w_676 : Cond.methodLink RX6 47 yX9_foretoldPassing ∈ x_gw := x_gwt 676 (by decide +kernel) (by decide +kernel)
theorem w_677 : Cond.methodLink RX4 56 yX4_mustFetch ∈ x_gw := x_gwt 677 (by decide +kernel) (by decide +kernel)
theorem w_678 : Cond.instanceMethod yX4_mustFetch ∈ x_gw := x_gwt 678 (by decide +kernel) (by decide +kernel)
theorem w_679 : Cond.sameMethod "IndexDesk$Ordered" "IndexDesk$Ordered" "mustFetch" "(LIndexDesk$Question;)Z" ∈ x_gw := x_gwt 679 (by decide +kernel) (by decide +kernel)
theorem w_680 : Cond.selects RX1 yX4_mustFetch yX1_mustFetch ∈ x_gw := x_gwt 680 (by decide +kernel) (by decide +kernel)
theorem w_681 : Cond.instanceMethod yX1_mustFetch ∈ x_gw := x_gwt 681 (by decide +kernel) (by decide +kernel)
theorem w_682 : Cond.code ({ cls := "IndexDesk$Cluster", name := "mustFetch", desc := "(LIndexDesk$Question;)Z" } : Jvm.MethodName) prog_3_method_2_code (2 : Nat) (Option.some Jvm.ClassFile.FieldType.boolean) ∈ x_gw := x_gwt 682 (by decide +kernel) (by decide +kernel)
theorem w_683 : Cond.selects RX2 yX4_mustFetch yX2_mustFetch ∈ x_gw := x_gwt 683 (by decide +kernel) (by decide +kernel)
theorem w_684 : Cond.instanceMethod yX2_mustFetch ∈ x_gw := x_gwt 684 (by decide +kernel) (by decide +kernel)
theorem w_685 : Cond.code ({ cls := "IndexDesk$Covering", name := "mustFetch", desc := "(LIndexDesk$Question;)Z" } : Jvm.MethodName) prog_4_method_2_code (2 : Nat) (Option.some Jvm.ClassFile.FieldType.boolean) ∈ x_gw := x_gwt 685 (by decide +kernel) (by decide +kernel)
theorem w_686 : Cond.methodLink RX2 18 yX6_touched ∈ x_gw := x_gwt 686 (by decide +kernel) (by decide +kernel)
theorem w_687 : Cond.instanceMethod yX6_touched ∈ x_gw := x_gwt 687 (by decide +kernel) (by decide +kernel)
theorem w_688 : Cond.selects RX6 yX6_touched yX6_touched ∈ x_gw := x_gwt 688 (by decide +kernel) (by decide +kernel)
theorem w_689 : Cond.code ({ cls := "IndexDesk$Question", name := "touched", desc := "()I" } : Jvm.MethodName) prog_8_method_11_code (1 : Nat) (Option.some Jvm.ClassFile.FieldType.int) ∈ x_gw := x_gwt 689 (by decide +kernel) (by decide +kernel)
theorem w_690 : Cond.selects RX3 yX4_mustFetch yX4_mustFetch ∈ x_gw := x_gwt 690 (by decide +kernel) (by decide +kernel)
theorem w_691 : Cond.selects RX5 yX4_mustFetch yX4_mustFetch ∈ x_gw := x_gwt 691 (by decide +kernel) (by decide +kernel)
theorem w_692 : Cond.code ({ cls := "IndexDesk$Ordered", name := "mustFetch", desc := "(LIndexDesk$Question;)Z" } : Jvm.MethodName) prog_6_method_6_code (2 : Nat) (Option.some Jvm.ClassFile.FieldType.boolean) ∈ x_gw := x_gwt 692 (by decide +kernel) (by decide +kernel)
theorem w_693 : Cond.methodLink RX4 60 yX9_countedPages ∈ x_gw := x_gwt 693 (by decide +kernel) (by decide +kernel)
theorem w_694 : Cond.methodLink RX4 63 yJ9_min_7cf53 ∈ x_gw := x_gwt 694 (by decide +kernel) (by decide +kernel)
theorem w_695 : Cond.methodLink RX4 68 yX4_entriesOnPage ∈ x_gw := x_gwt 695 (by decide +kernel) (by decide +kernel)
theorem w_696 : Cond.instanceMethod yX4_entriesOnPage ∈ x_gw := x_gwt 696 (by decide +kernel) (by decide +kernel)
theorem w_697 : Cond.sameMethod "IndexDesk$Ordered" "IndexDesk$Ordered" "entriesOnPage" "()I" ∈ x_gw := x_gwt 697 (by decide +kernel) (by decide +kernel)
theorem w_698 : Cond.selects RX1 yX4_entriesOnPage yX1_entriesOnPage ∈ x_gw := x_gwt 698 (by decide +kernel) (by decide +kernel)
theorem w_699 : Cond.instanceMethod yX1_entriesOnPage ∈ x_gw := x_gwt 699 (by decide +kernel) (by decide +kernel)
theorem w_700 : Cond.code ({ cls := "IndexDesk$Cluster", name := "entriesOnPage", desc := "()I" } : Jvm.MethodName) prog_3_method_3_code (1 : Nat) (Option.some Jvm.ClassFile.FieldType.int) ∈ x_gw := x_gwt 700 (by decide +kernel) (by decide +kernel)
theorem w_701 : Cond.selects RX2 yX4_entriesOnPage yX4_entriesOnPage ∈ x_gw := x_gwt 701 (by decide +kernel) (by decide +kernel)
theorem w_702 : Cond.selects RX3 yX4_entriesOnPage yX4_entriesOnPage ∈ x_gw := x_gwt 702 (by decide +kernel) (by decide +kernel)
theorem w_703 : Cond.selects RX5 yX4_entriesOnPage yX4_entriesOnPage ∈ x_gw := x_gwt 703 (by decide +kernel) (by decide +kernel)
theorem w_704 : Cond.code ({ cls := "IndexDesk$Ordered", name := "entriesOnPage", desc := "()I" } : Jvm.MethodName) prog_6_method_7_code (1 : Nat) (Option.some Jvm.ClassFile.FieldType.int) ∈ x_gw := x_gwt 704 (by decide +kernel) (by decide +kernel)
theorem w_705 : Cond.selects RX2 ⟨"IndexDesk$Aid", "foretold", "(LIndexDesk$Question;)I"⟩ yX4_foretold ∈ x_gw := x_gwt 705 (by decide +kernel) (by decide +kernel)
theorem w_706 : Cond.selects RX3 ⟨"IndexDesk$Aid", "foretold", "(LIndexDesk$Question;)I"⟩ yX4_foretold ∈ x_gw := x_gwt 706 (by decide +kernel) (by decide +kernel)
theorem w_707 : Cond.selects RX5 ⟨"IndexDesk$Aid", "foretold", "(LIndexDesk$Question;)I"⟩ yX4_foretold ∈ x_gw := x_gwt 707 (by decide +kernel) (by decide +kernel)
theorem w_708 : Cond.selects RX8 ⟨"IndexDesk$Aid", "foretold", "(LIndexDesk$Question;)I"⟩ yX8_foretold ∈ x_gw := x_gwt 708 (by decide +kernel) (by decide +kernel)
theorem w_709 : Cond.instanceMethod yX8_foretold ∈ x_gw := x_gwt 709 (by decide +kernel) (by decide +kernel)
theorem w_710 : Cond.code ({ cls := "IndexDesk$Sums", name := "foretold", desc := "(LIndexDesk$Question;)I" } : Jvm.MethodName) prog_10_method_3_code (2 : Nat) (Option.some Jvm.ClassFile.FieldType.int) ∈ x_gw := x_gwt 710 (by decide +kernel) (by decide +kernel)
theorem w_711 : Cond.methodLink RX8 29 yX8_space ∈ x_gw := x_gwt 711 (by decide +kernel) (by decide +kernel)
theorem w_712 : Cond.methodLink RX10 187 yX7_weigh ∈ x_gw := x_gwt 712 (by decide +kernel) (by decide +kernel)
theorem w_713 : Cond.instanceMethod yX7_weigh ∈ x_gw := x_gwt 713 (by decide +kernel) (by decide +kernel)
theorem w_714 : Cond.selects RX7 yX7_weigh yX7_weigh ∈ x_gw := x_gwt 714 (by decide +kernel) (by decide +kernel)
theorem w_715 : Cond.code ({ cls := "IndexDesk$Scales", name := "weigh", desc := "(I)J" } : Jvm.MethodName) prog_9_method_3_code (5 : Nat) (Option.some Jvm.ClassFile.FieldType.long) ∈ x_gw := x_gwt 715 (by decide +kernel) (by decide +kernel)
theorem w_716 : Cond.methodLink RX7 93 yX7_weighNothing ∈ x_gw := x_gwt 716 (by decide +kernel) (by decide +kernel)
theorem w_718 : Cond.instanceMethod yX7_weighNothing ∈ x_gw := x_gwt 718 (by decide +kernel) (by decide +kernel)
theorem w_719 : Cond.code ({ cls := "IndexDesk$Scales", name := "weighNothing", desc := "()J" } : Jvm.MethodName) prog_9_method_4_code (4 : Nat) (Option.some Jvm.ClassFile.FieldType.long) ∈ x_gw := x_gwt 719 (by decide +kernel) (by decide +kernel)
theorem w_721 : Cond.methodLink RX7 101 yX7_savedBy ∈ x_gw := x_gwt 721 (by decide +kernel) (by decide +kernel)
theorem w_723 : Cond.instanceMethod yX7_savedBy ∈ x_gw := x_gwt 723 (by decide +kernel) (by decide +kernel)
theorem w_724 : Cond.code ({ cls := "IndexDesk$Scales", name := "savedBy", desc := "(I[I)J" } : Jvm.MethodName) prog_9_method_5_code (6 : Nat) (Option.some Jvm.ClassFile.FieldType.long) ∈ x_gw := x_gwt 724 (by decide +kernel) (by decide +kernel)
theorem w_725 : Cond.methodLink RX7 109 yJ9_max_7cf53 ∈ x_gw := x_gwt 725 (by decide +kernel) (by decide +kernel)
theorem w_726 : Cond.methodLink RX7 105 yX7_settle ∈ x_gw := x_gwt 726 (by decide +kernel) (by decide +kernel)
theorem w_728 : Cond.instanceMethod yX7_settle ∈ x_gw := x_gwt 728 (by decide +kernel) (by decide +kernel)
theorem w_729 : Cond.code ({ cls := "IndexDesk$Scales", name := "settle", desc := "(IZ)V" } : Jvm.MethodName) prog_9_method_6_code (4 : Nat) (Option.none : Option Jvm.ClassFile.FieldType) ∈ x_gw := x_gwt 729 (by decide +kernel) (by decide +kernel)
theorem w_730 : Cond.methodLink RL 75 yX10_cost ∈ x_gw := x_gwt 730 (by decide +kernel) (by decide +kernel)
theorem w_731 : Cond.instanceMethod yX10_cost ∈ x_gw := x_gwt 731 (by decide +kernel) (by decide +kernel)
theorem w_732 : Cond.selects RX10 yX10_cost yX10_cost ∈ x_gw := x_gwt 732 (by decide +kernel) (by decide +kernel)
theorem w_733 : Cond.code ({ cls := "IndexDesk", name := "cost", desc := "(II)I" } : Jvm.MethodName) prog_1_method_15_code (5 : Nat) (Option.some Jvm.ClassFile.FieldType.int) ∈ x_gw := x_gwt 733 (by decide +kernel) (by decide +kernel)
theorem w_734 : Cond.methodLink RX10 191 ⟨"IndexDesk$Aid", "helps", "(LIndexDesk$Question;)Z"⟩ ∈ x_gw := x_gwt 734 (by decide +kernel) (by decide +kernel)
theorem w_735 : Cond.methodLink RX10 195 ⟨"IndexDesk$Aid", "foretold", "(LIndexDesk$Question;)I"⟩ ∈ x_gw := x_gwt 735 (by decide +kernel) (by decide +kernel)
theorem w_736 : Cond.methodLink RL 80 yX10_plan ∈ x_gw := x_gwt 736 (by decide +kernel) (by decide +kernel)
theorem w_737 : Cond.instanceMethod yX10_plan ∈ x_gw := x_gwt 737 (by decide +kernel) (by decide +kernel)
theorem w_738 : Cond.selects RX10 yX10_plan yX10_plan ∈ x_gw := x_gwt 738 (by decide +kernel) (by decide +kernel)
theorem w_739 : Cond.code ({ cls := "IndexDesk", name := "plan", desc := "(I)I" } : Jvm.MethodName) prog_1_method_16_code (7 : Nat) (Option.some Jvm.ClassFile.FieldType.int) ∈ x_gw := x_gwt 739 (by decide +kernel) (by decide +kernel)
theorem w_740 : Cond.methodLink RX10 199 yX10_cost ∈ x_gw := x_gwt 740 (by decide +kernel) (by decide +kernel)
theorem w_741 : Cond.methodLink RL 84 yX10_run ∈ x_gw := x_gwt 741 (by decide +kernel) (by decide +kernel)
theorem w_742 : Cond.instanceMethod yX10_run ∈ x_gw := x_gwt 742 (by decide +kernel) (by decide +kernel)
theorem w_743 : Cond.selects RX10 yX10_run yX10_run ∈ x_gw := x_gwt 743 (by decide +kernel) (by decide +kernel)
theorem w_744 : Cond.code ({ cls := "IndexDesk", name := "run", desc := "(II)I" } : Jvm.MethodName) prog_1_method_17_code (5 : Nat) (Option.some Jvm.ClassFile.FieldType.int) ∈ x_gw := x_gwt 744 (by decide +kernel) (by decide +kernel)
theorem w_745 : Cond.methodLink RX10 206 yX6_answering ∈ x_gw := x_gwt 745 (by decide +kernel) (by decide +kernel)
theorem w_746 : Cond.instanceMethod yX6_answering ∈ x_gw := x_gwt 746 (by decide +kernel) (by decide +kernel)
theorem w_747 : Cond.selects RX6 yX6_answering yX6_answering ∈ x_gw := x_gwt 747 (by decide +kernel) (by decide +kernel)
theorem w_748 : Cond.code ({ cls := "IndexDesk$Question", name := "answering", desc := "()I" } : Jvm.MethodName) prog_8_method_9_code (3 : Nat) (Option.some Jvm.ClassFile.FieldType.int) ∈ x_gw := x_gwt 748 (by decide +kernel) (by decide +kernel)
theorem w_749 : Cond.methodLink RX6 64 yX6_passes ∈ x_gw := x_gwt 749 (by decide +kernel) (by decide +kernel)
theorem w_751 : Cond.instanceMethod yX6_passes ∈ x_gw := x_gwt 751 (by decide +kernel) (by decide +kernel)
theorem w_752 : Cond.code ({ cls := "IndexDesk$Question", name := "passes", desc := "(I)Z" } : Jvm.MethodName) prog_8_method_8_code (3 : Nat) (Option.some Jvm.ClassFile.FieldType.boolean) ∈ x_gw := x_gwt 752 (by decide +kernel) (by decide +kernel)
theorem w_753 : Cond.methodLink RX6 57 yX6_passesAt ∈ x_gw := x_gwt 753 (by decide +kernel) (by decide +kernel)
theorem w_754 : Cond.instanceMethod yX6_passesAt ∈ x_gw := x_gwt 754 (by decide +kernel) (by decide +kernel)
theorem w_755 : Cond.selects RX6 yX6_passesAt yX6_passesAt ∈ x_gw := x_gwt 755 (by decide +kernel) (by decide +kernel)
theorem w_756 : Cond.code ({ cls := "IndexDesk$Question", name := "passesAt", desc := "(II)Z" } : Jvm.MethodName) prog_8_method_7_code (3 : Nat) (Option.some Jvm.ClassFile.FieldType.boolean) ∈ x_gw := x_gwt 756 (by decide +kernel) (by decide +kernel)
theorem w_757 : Cond.methodLink RX6 53 yX9_value ∈ x_gw := x_gwt 757 (by decide +kernel) (by decide +kernel)
theorem w_758 : Cond.methodLink RX10 209 yX6_addedUp ∈ x_gw := x_gwt 758 (by decide +kernel) (by decide +kernel)
theorem w_759 : Cond.instanceMethod yX6_addedUp ∈ x_gw := x_gwt 759 (by decide +kernel) (by decide +kernel)
theorem w_760 : Cond.selects RX6 yX6_addedUp yX6_addedUp ∈ x_gw := x_gwt 760 (by decide +kernel) (by decide +kernel)
theorem w_761 : Cond.code ({ cls := "IndexDesk$Question", name := "addedUp", desc := "()I" } : Jvm.MethodName) prog_8_method_10_code (3 : Nat) (Option.some Jvm.ClassFile.FieldType.int) ∈ x_gw := x_gwt 761 (by decide +kernel) (by decide +kernel)
theorem w_762 : Cond.methodLink RX6 67 yX9_has ∈ x_gw := x_gwt 762 (by decide +kernel) (by decide +kernel)
theorem w_763 : Cond.methodLink RX10 212 yX10_plan ∈ x_gw := x_gwt 763 (by decide +kernel) (by decide +kernel)
theorem w_764 : Cond.methodLink RX10 215 yX9_pages ∈ x_gw := x_gwt 764 (by decide +kernel) (by decide +kernel)
theorem w_765 : Cond.instanceMethod yX9_pages ∈ x_gw := x_gwt 765 (by decide +kernel) (by decide +kernel)
theorem w_766 : Cond.selects RX9 yX9_pages yX9_pages ∈ x_gw := x_gwt 766 (by decide +kernel) (by decide +kernel)
theorem w_767 : Cond.code ({ cls := "IndexDesk$Table", name := "pages", desc := "()I" } : Jvm.MethodName) prog_11_method_12_code (1 : Nat) (Option.some Jvm.ClassFile.FieldType.int) ∈ x_gw := x_gwt 767 (by decide +kernel) (by decide +kernel)
theorem w_768 : Cond.methodLink RX10 218 ⟨"IndexDesk$Aid", "fetched", "(LIndexDesk$Question;)I"⟩ ∈ x_gw := x_gwt 768 (by decide +kernel) (by decide +kernel)
theorem w_770 : Cond.sameMethod "IndexDesk$Aid" "IndexDesk$Aid" "fetched" "(LIndexDesk$Question;)I" ∈ x_gw := x_gwt 770 (by decide +kernel) (by decide +kernel)
theorem w_771 : Cond.selects RX1 ⟨"IndexDesk$Aid", "fetched", "(LIndexDesk$Question;)I"⟩ yX4_fetched ∈ x_gw := x_gwt 771 (by decide +kernel) (by decide +kernel)
theorem w_772 : Cond.instanceMethod yX4_fetched ∈ x_gw := x_gwt 772 (by decide +kernel) (by decide +kernel)
theorem w_773 : Cond.code ({ cls := "IndexDesk$Ordered", name := "fetched", desc := "(LIndexDesk$Question;)I" } : Jvm.MethodName) prog_6_method_9_code (7 : Nat) (Option.some Jvm.ClassFile.FieldType.int) ∈ x_gw := x_gwt 773 (by decide +kernel) (by decide +kernel)
theorem w_774 : Cond.methodLink RX4 77 yX4_holds ∈ x_gw := x_gwt 774 (by decide +kernel) (by decide +kernel)
theorem w_775 : Cond.instanceMethod yX4_holds ∈ x_gw := x_gwt 775 (by decide +kernel) (by decide +kernel)
theorem w_776 : Cond.sameMethod "IndexDesk$Ordered" "IndexDesk$Ordered" "holds" "(I)Z" ∈ x_gw := x_gwt 776 (by decide +kernel) (by decide +kernel)
theorem w_777 : Cond.selects RX1 yX4_holds yX4_holds ∈ x_gw := x_gwt 777 (by decide +kernel) (by decide +kernel)
theorem w_778 : Cond.selects RX2 yX4_holds yX4_holds ∈ x_gw := x_gwt 778 (by decide +kernel) (by decide +kernel)
theorem w_779 : Cond.selects RX3 yX4_holds yX4_holds ∈ x_gw := x_gwt 779 (by decide +kernel) (by decide +kernel)
theorem w_780 : Cond.selects RX5 yX4_holds yX5_holds ∈ x_gw := x_gwt 780 (by decide +kernel) (by decide +kernel)
theorem w_781 : Cond.instanceMethod yX5_holds ∈ x_gw := x_gwt 781 (by decide +kernel) (by decide +kernel)
theorem w_782 : Cond.code ({ cls := "IndexDesk$Part", name := "holds", desc := "(I)Z" } : Jvm.MethodName) prog_7_method_4_code (2 : Nat) (Option.some Jvm.ClassFile.FieldType.boolean) ∈ x_gw := x_gwt 782 (by decide +kernel) (by decide +kernel)
theorem w_783 : Cond.methodLink RX5 40 yX9_value ∈ x_gw := x_gwt 783 (by decide +kernel) (by decide +kernel)
theorem w_785 : Cond.code ({ cls := "IndexDesk$Ordered", name := "holds", desc := "(I)Z" } : Jvm.MethodName) prog_6_method_5_code (2 : Nat) (Option.some Jvm.ClassFile.FieldType.boolean) ∈ x_gw := x_gwt 785 (by decide +kernel) (by decide +kernel)
theorem w_786 : Cond.methodLink RX4 80 yX4_finds ∈ x_gw := x_gwt 786 (by decide +kernel) (by decide +kernel)
theorem w_788 : Cond.instanceMethod yX4_finds ∈ x_gw := x_gwt 788 (by decide +kernel) (by decide +kernel)
theorem w_789 : Cond.code ({ cls := "IndexDesk$Ordered", name := "finds", desc := "(LIndexDesk$Question;II)Z" } : Jvm.MethodName) prog_6_method_10_code (5 : Nat) (Option.some Jvm.ClassFile.FieldType.boolean) ∈ x_gw := x_gwt 789 (by decide +kernel) (by decide +kernel)
theorem w_790 : Cond.methodLink RX4 87 yX6_passesAt ∈ x_gw := x_gwt 790 (by decide +kernel) (by decide +kernel)
theorem w_791 : Cond.methodLink RX4 84 yX9_pageOf ∈ x_gw := x_gwt 791 (by decide +kernel) (by decide +kernel)
theorem w_792 : Cond.instanceMethod yX9_pageOf ∈ x_gw := x_gwt 792 (by decide +kernel) (by decide +kernel)
theorem w_793 : Cond.selects RX9 yX9_pageOf yX9_pageOf ∈ x_gw := x_gwt 793 (by decide +kernel) (by decide +kernel)
theorem w_794 : Cond.code ({ cls := "IndexDesk$Table", name := "pageOf", desc := "(I)I" } : Jvm.MethodName) prog_11_method_14_code (2 : Nat) (Option.some Jvm.ClassFile.FieldType.int) ∈ x_gw := x_gwt 794 (by decide +kernel) (by decide +kernel)
theorem w_795 : Cond.selects RX2 ⟨"IndexDesk$Aid", "fetched", "(LIndexDesk$Question;)I"⟩ yX4_fetched ∈ x_gw := x_gwt 795 (by decide +kernel) (by decide +kernel)
theorem w_796 : Cond.selects RX3 ⟨"IndexDesk$Aid", "fetched", "(LIndexDesk$Question;)I"⟩ yX4_fetched ∈ x_gw := x_gwt 796 (by decide +kernel) (by decide +kernel)
theorem w_797 : Cond.selects RX5 ⟨"IndexDesk$Aid", "fetched", "(LIndexDesk$Question;)I"⟩ yX4_fetched ∈ x_gw := x_gwt 797 (by decide +kernel) (by decide +kernel)
theorem w_798 : Cond.selects RX8 ⟨"IndexDesk$Aid", "fetched", "(LIndexDesk$Question;)I"⟩ yX8_fetched ∈ x_gw := x_gwt 798 (by decide +kernel) (by decide +kernel)
theorem w_799 : Cond.instanceMethod yX8_fetched ∈ x_gw := x_gwt 799 (by decide +kernel) (by decide +kernel)
theorem w_800 : Cond.code ({ cls := "IndexDesk$Sums", name := "fetched", desc := "(LIndexDesk$Question;)I" } : Jvm.MethodName) prog_10_method_4_code (2 : Nat) (Option.some Jvm.ClassFile.FieldType.int) ∈ x_gw := x_gwt 800 (by decide +kernel) (by decide +kernel)
theorem w_801 : Cond.methodLink RX8 37 yX9_unlikeRows ∈ x_gw := x_gwt 801 (by decide +kernel) (by decide +kernel)
theorem w_802 : Cond.methodLink RL 88 yX10_total ∈ x_gw := x_gwt 802 (by decide +kernel) (by decide +kernel)
theorem w_803 : Cond.instanceMethod yX10_total ∈ x_gw := x_gwt 803 (by decide +kernel) (by decide +kernel)
theorem w_804 : Cond.selects RX10 yX10_total yX10_total ∈ x_gw := x_gwt 804 (by decide +kernel) (by decide +kernel)
theorem w_805 : Cond.code ({ cls := "IndexDesk", name := "total", desc := "(I)J" } : Jvm.MethodName) prog_1_method_18_code (2 : Nat) (Option.some Jvm.ClassFile.FieldType.long) ∈ x_gw := x_gwt 805 (by decide +kernel) (by decide +kernel)
theorem w_806 : Cond.methodLink RX10 221 yX10_isSet ∈ x_gw := x_gwt 806 (by decide +kernel) (by decide +kernel)
theorem w_808 : Cond.instanceMethod yX10_isSet ∈ x_gw := x_gwt 808 (by decide +kernel) (by decide +kernel)
theorem w_809 : Cond.code ({ cls := "IndexDesk", name := "isSet", desc := "(I)Z" } : Jvm.MethodName) prog_1_method_29_code (3 : Nat) (Option.some Jvm.ClassFile.FieldType.boolean) ∈ x_gw := x_gwt 809 (by decide +kernel) (by decide +kernel)
theorem w_810 : Cond.methodLink RX10 224 yX10_isIn ∈ x_gw := x_gwt 810 (by decide +kernel) (by decide +kernel)
theorem w_811 : Cond.methodLink RL 93 yX10_room ∈ x_gw := x_gwt 811 (by decide +kernel) (by decide +kernel)
theorem w_812 : Cond.instanceMethod yX10_room ∈ x_gw := x_gwt 812 (by decide +kernel) (by decide +kernel)
theorem w_813 : Cond.selects RX10 yX10_room yX10_room ∈ x_gw := x_gwt 813 (by decide +kernel) (by decide +kernel)
theorem w_814 : Cond.code ({ cls := "IndexDesk", name := "room", desc := "(I)I" } : Jvm.MethodName) prog_1_method_19_code (4 : Nat) (Option.some Jvm.ClassFile.FieldType.int) ∈ x_gw := x_gwt 814 (by decide +kernel) (by decide +kernel)
theorem w_815 : Cond.methodLink RL 97 yX10_built ∈ x_gw := x_gwt 815 (by decide +kernel) (by decide +kernel)
theorem w_816 : Cond.methodLink RL 102 yX10_choose ∈ x_gw := x_gwt 816 (by decide +kernel) (by decide +kernel)
theorem w_817 : Cond.instanceMethod yX10_choose ∈ x_gw := x_gwt 817 (by decide +kernel) (by decide +kernel)
theorem w_818 : Cond.selects RX10 yX10_choose yX10_choose ∈ x_gw := x_gwt 818 (by decide +kernel) (by decide +kernel)
theorem w_819 : Cond.code ({ cls := "IndexDesk", name := "choose", desc := "(I)I" } : Jvm.MethodName) prog_1_method_21_code (2 : Nat) (Option.some Jvm.ClassFile.FieldType.int) ∈ x_gw := x_gwt 819 (by decide +kernel) (by decide +kernel)
theorem w_820 : Cond.methodLink RX10 227 yX7_cheapest ∈ x_gw := x_gwt 820 (by decide +kernel) (by decide +kernel)
theorem w_821 : Cond.instanceMethod yX7_cheapest ∈ x_gw := x_gwt 821 (by decide +kernel) (by decide +kernel)
theorem w_822 : Cond.selects RX7 yX7_cheapest yX7_cheapest ∈ x_gw := x_gwt 822 (by decide +kernel) (by decide +kernel)
theorem w_823 : Cond.code ({ cls := "IndexDesk$Scales", name := "cheapest", desc := "(I)I" } : Jvm.MethodName) prog_9_method_8_code (2 : Nat) (Option.some Jvm.ClassFile.FieldType.int) ∈ x_gw := x_gwt 823 (by decide +kernel) (by decide +kernel)
theorem w_824 : Cond.methodLink RX7 119 yX7_explore ∈ x_gw := x_gwt 824 (by decide +kernel) (by decide +kernel)
theorem w_826 : Cond.instanceMethod yX7_explore ∈ x_gw := x_gwt 826 (by decide +kernel) (by decide +kernel)
theorem w_827 : Cond.code ({ cls := "IndexDesk$Scales", name := "explore", desc := "(IIJI)V" } : Jvm.MethodName) prog_9_method_9_code (8 : Nat) (Option.none : Option Jvm.ClassFile.FieldType) ∈ x_gw := x_gwt 827 (by decide +kernel) (by decide +kernel)
theorem w_828 : Cond.methodLink RX7 123 yX7_keepIfBetter ∈ x_gw := x_gwt 828 (by decide +kernel) (by decide +kernel)
theorem w_830 : Cond.instanceMethod yX7_keepIfBetter ∈ x_gw := x_gwt 830 (by decide +kernel) (by decide +kernel)
theorem w_831 : Cond.code ({ cls := "IndexDesk$Scales", name := "keepIfBetter", desc := "(IJ)V" } : Jvm.MethodName) prog_9_method_10_code (5 : Nat) (Option.none : Option Jvm.ClassFile.FieldType) ∈ x_gw := x_gwt 831 (by decide +kernel) (by decide +kernel)
theorem w_832 : Cond.methodLink RX7 135 yJ6_bitCount_0f7a4 ∈ x_gw := x_gwt 832 (by decide +kernel) (by decide +kernel)
theorem w_833 : Cond.methodLink RX7 127 yX7_fits ∈ x_gw := x_gwt 833 (by decide +kernel) (by decide +kernel)
theorem w_835 : Cond.instanceMethod yX7_fits ∈ x_gw := x_gwt 835 (by decide +kernel) (by decide +kernel)
theorem w_836 : Cond.code ({ cls := "IndexDesk$Scales", name := "fits", desc := "(III)Z" } : Jvm.MethodName) prog_9_method_7_code (4 : Nat) (Option.some Jvm.ClassFile.FieldType.boolean) ∈ x_gw := x_gwt 836 (by decide +kernel) (by decide +kernel)
theorem w_838 : Cond.methodLink RL 106 yX10_greedy ∈ x_gw := x_gwt 838 (by decide +kernel) (by decide +kernel)
theorem w_839 : Cond.instanceMethod yX10_greedy ∈ x_gw := x_gwt 839 (by decide +kernel) (by decide +kernel)
theorem w_840 : Cond.selects RX10 yX10_greedy yX10_greedy ∈ x_gw := x_gwt 840 (by decide +kernel) (by decide +kernel)
theorem w_841 : Cond.code ({ cls := "IndexDesk", name := "greedy", desc := "(I)I" } : Jvm.MethodName) prog_1_method_22_code (2 : Nat) (Option.some Jvm.ClassFile.FieldType.int) ∈ x_gw := x_gwt 841 (by decide +kernel) (by decide +kernel)
theorem w_842 : Cond.methodLink RX10 230 yX7_gathered ∈ x_gw := x_gwt 842 (by decide +kernel) (by decide +kernel)
theorem w_843 : Cond.instanceMethod yX7_gathered ∈ x_gw := x_gwt 843 (by decide +kernel) (by decide +kernel)
theorem w_844 : Cond.selects RX7 yX7_gathered yX7_gathered ∈ x_gw := x_gwt 844 (by decide +kernel) (by decide +kernel)
theorem w_845 : Cond.code ({ cls := "IndexDesk$Scales", name := "gathered", desc := "(I)I" } : Jvm.MethodName) prog_9_method_11_code (6 : Nat) (Option.some Jvm.ClassFile.FieldType.int) ∈ x_gw := x_gwt 845 (by decide +kernel) (by decide +kernel)
theorem w_846 : Cond.methodLink RX7 140 yX7_mostSaving ∈ x_gw := x_gwt 846 (by decide +kernel) (by decide +kernel)
theorem w_848 : Cond.instanceMethod yX7_mostSaving ∈ x_gw := x_gwt 848 (by decide +kernel) (by decide +kernel)
theorem w_849 : Cond.code ({ cls := "IndexDesk$Scales", name := "mostSaving", desc := "(II)I" } : Jvm.MethodName) prog_9_method_12_code (10 : Nat) (Option.some Jvm.ClassFile.FieldType.int) ∈ x_gw := x_gwt 849 (by decide +kernel) (by decide +kernel)
theorem w_850 : Cond.methodLink RX7 143 yX7_lower ∈ x_gw := x_gwt 850 (by decide +kernel) (by decide +kernel)
theorem w_852 : Cond.instanceMethod yX7_lower ∈ x_gw := x_gwt 852 (by decide +kernel) (by decide +kernel)
theorem w_853 : Cond.code ({ cls := "IndexDesk$Scales", name := "lower", desc := "(I)V" } : Jvm.MethodName) prog_9_method_13_code (3 : Nat) (Option.none : Option Jvm.ClassFile.FieldType) ∈ x_gw := x_gwt 853 (by decide +kernel) (by decide +kernel)
theorem w_854 : Cond.methodLink RL 110 yX10_count ∈ x_gw := x_gwt 854 (by decide +kernel) (by decide +kernel)
theorem w_855 : Cond.instanceMethod yX10_count ∈ x_gw := x_gwt 855 (by decide +kernel) (by decide +kernel)
theorem w_856 : Cond.selects RX10 yX10_count yX10_count ∈ x_gw := x_gwt 856 (by decide +kernel) (by decide +kernel)
theorem w_857 : Cond.code ({ cls := "IndexDesk", name := "count", desc := "(I)I" } : Jvm.MethodName) prog_1_method_23_code (2 : Nat) (Option.some Jvm.ClassFile.FieldType.int) ∈ x_gw := x_gwt 857 (by decide +kernel) (by decide +kernel)
theorem w_858 : Cond.methodLink RX10 233 yX10_tablesTold ∈ x_gw := x_gwt 858 (by decide +kernel) (by decide +kernel)
theorem w_860 : Cond.instanceMethod yX10_tablesTold ∈ x_gw := x_gwt 860 (by decide +kernel) (by decide +kernel)
theorem w_861 : Cond.code ({ cls := "IndexDesk", name := "tablesTold", desc := "()I" } : Jvm.MethodName) prog_1_method_30_code (6 : Nat) (Option.some Jvm.ClassFile.FieldType.int) ∈ x_gw := x_gwt 861 (by decide +kernel) (by decide +kernel)
theorem w_862 : Cond.methodLink RX10 236 yX10_rowsInAll ∈ x_gw := x_gwt 862 (by decide +kernel) (by decide +kernel)
theorem w_864 : Cond.instanceMethod yX10_rowsInAll ∈ x_gw := x_gwt 864 (by decide +kernel) (by decide +kernel)
theorem w_865 : Cond.code ({ cls := "IndexDesk", name := "rowsInAll", desc := "()I" } : Jvm.MethodName) prog_1_method_31_code (6 : Nat) (Option.some Jvm.ClassFile.FieldType.int) ∈ x_gw := x_gwt 865 (by decide +kernel) (by decide +kernel)
theorem w_866 : Cond.classLink RL 10 RX11 ∈ x_gw := x_gwt 866 (by decide +kernel) (by decide +kernel)
theorem w_867 : Cond.instantiable RX11 29 ∈ x_gw := x_gwt 867 (by decide +kernel) (by decide +kernel)
theorem w_868 : Cond.methodLink RL 12 yX11_init ∈ x_gw := x_gwt 868 (by decide +kernel) (by decide +kernel)
theorem w_869 : Cond.instanceMethod yX11_init ∈ x_gw := x_gwt 869 (by decide +kernel) (by decide +kernel)
theorem w_870 : Cond.code ({ cls := "IndexDeskModel", name := "<init>", desc := "()V" } : Jvm.MethodName) prog_13_method_1_code (1 : Nat) (Option.none : Option Jvm.ClassFile.FieldType) ∈ x_gw := x_gwt 870 (by decide +kernel) (by decide +kernel)
theorem w_871 : Cond.methodLink RX11 1 objectInit ∈ x_gw := x_gwt 871 (by decide +kernel) (by decide +kernel)
theorem w_872 : Cond.fieldLink RX11 7 "IndexDeskModel" "columns" "[I" ∈ x_gw := x_gwt 872 (by decide +kernel) (by decide +kernel)
theorem w_873 : Cond.fieldLink RX11 13 "IndexDeskModel" "page" "[I" ∈ x_gw := x_gwt 873 (by decide +kernel) (by decide +kernel)
theorem w_874 : Cond.fieldLink RX11 16 "IndexDeskModel" "rows" "[I" ∈ x_gw := x_gwt 874 (by decide +kernel) (by decide +kernel)
theorem w_875 : Cond.fieldLink RX11 19 "IndexDeskModel" "value" "[I" ∈ x_gw := x_gwt 875 (by decide +kernel) (by decide +kernel)
theorem w_876 : Cond.fieldLink RX11 22 "IndexDeskModel" "counted" "[I" ∈ x_gw := x_gwt 876 (by decide +kernel) (by decide +kernel)
theorem w_877 : Cond.fieldLink RX11 25 "IndexDeskModel" "unlike" "[I" ∈ x_gw := x_gwt 877 (by decide +kernel) (by decide +kernel)
theorem w_878 : Cond.fieldLink RX11 28 "IndexDeskModel" "least" "[I" ∈ x_gw := x_gwt 878 (by decide +kernel) (by decide +kernel)
theorem w_879 : Cond.fieldLink RX11 31 "IndexDeskModel" "greatest" "[I" ∈ x_gw := x_gwt 879 (by decide +kernel) (by decide +kernel)
theorem w_880 : Cond.fieldLink RX11 34 "IndexDeskModel" "changes" "[I" ∈ x_gw := x_gwt 880 (by decide +kernel) (by decide +kernel)
theorem w_881 : Cond.fieldLink RX11 116 "IndexDeskModel" "questions" "I" ∈ x_gw := x_gwt 881 (by decide +kernel) (by decide +kernel)
theorem w_882 : Cond.fieldLink RX11 37 "IndexDeskModel" "asked" "[I" ∈ x_gw := x_gwt 882 (by decide +kernel) (by decide +kernel)
theorem w_883 : Cond.fieldLink RX11 40 "IndexDeskModel" "wants" "[I" ∈ x_gw := x_gwt 883 (by decide +kernel) (by decide +kernel)
theorem w_884 : Cond.fieldLink RX11 43 "IndexDeskModel" "adds" "[I" ∈ x_gw := x_gwt 884 (by decide +kernel) (by decide +kernel)
theorem w_885 : Cond.fieldLink RX11 46 "IndexDeskModel" "weight" "[I" ∈ x_gw := x_gwt 885 (by decide +kernel) (by decide +kernel)
theorem w_886 : Cond.fieldLink RX11 49 "IndexDeskModel" "isTested" "[Z" ∈ x_gw := x_gwt 886 (by decide +kernel) (by decide +kernel)
theorem w_887 : Cond.fieldLink RX11 53 "IndexDeskModel" "from" "[I" ∈ x_gw := x_gwt 887 (by decide +kernel) (by decide +kernel)
theorem w_888 : Cond.fieldLink RX11 56 "IndexDeskModel" "to" "[I" ∈ x_gw := x_gwt 888 (by decide +kernel) (by decide +kernel)
theorem w_889 : Cond.fieldLink RX11 123 "IndexDeskModel" "aids" "I" ∈ x_gw := x_gwt 889 (by decide +kernel) (by decide +kernel)
theorem w_890 : Cond.fieldLink RX11 140 "IndexDeskModel" "built" "I" ∈ x_gw := x_gwt 890 (by decide +kernel) (by decide +kernel)
theorem w_891 : Cond.fieldLink RX11 59 "IndexDeskModel" "kind" "[I" ∈ x_gw := x_gwt 891 (by decide +kernel) (by decide +kernel)
theorem w_892 : Cond.fieldLink RX11 62 "IndexDeskModel" "of" "[I" ∈ x_gw := x_gwt 892 (by decide +kernel) (by decide +kernel)
theorem w_893 : Cond.fieldLink RX11 65 "IndexDeskModel" "many" "[I" ∈ x_gw := x_gwt 893 (by decide +kernel) (by decide +kernel)
theorem w_894 : Cond.fieldLink RX11 68 "IndexDeskModel" "by" "[I" ∈ x_gw := x_gwt 894 (by decide +kernel) (by decide +kernel)
theorem w_895 : Cond.fieldLink RX11 71 "IndexDeskModel" "set" "[I" ∈ x_gw := x_gwt 895 (by decide +kernel) (by decide +kernel)
theorem w_896 : Cond.fieldLink RX11 74 "IndexDeskModel" "column" "[I" ∈ x_gw := x_gwt 896 (by decide +kernel) (by decide +kernel)
theorem w_897 : Cond.fieldLink RX11 77 "IndexDeskModel" "low" "[I" ∈ x_gw := x_gwt 897 (by decide +kernel) (by decide +kernel)
theorem w_898 : Cond.fieldLink RX11 80 "IndexDeskModel" "high" "[I" ∈ x_gw := x_gwt 898 (by decide +kernel) (by decide +kernel)
theorem w_899 : Cond.fieldLink RX11 83 "IndexDeskModel" "costs" "[I" ∈ x_gw := x_gwt 899 (by decide +kernel) (by decide +kernel)
theorem w_900 : Cond.fieldLink RX11 86 "IndexDeskModel" "rooms" "[I" ∈ x_gw := x_gwt 900 (by decide +kernel) (by decide +kernel)
theorem w_901 : Cond.laysFinal RX11 "IndexDeskModel" "columns" "[I" ∈ x_gw := x_gwt 901 (by decide +kernel) (by decide +kernel)
theorem w_903 : Cond.laysFinal RX11 "IndexDeskModel" "page" "[I" ∈ x_gw := x_gwt 903 (by decide +kernel) (by decide +kernel)
theorem w_905 : Cond.laysFinal RX11 "IndexDeskModel" "rows" "[I" ∈ x_gw := x_gwt 905 (by decide +kernel) (by decide +kernel)
theorem w_907 : Cond.laysFinal RX11 "IndexDeskModel" "value" "[I" ∈ x_gw := x_gwt 907 (by decide +kernel) (by decide +kernel)
theorem w_909 : Cond.laysFinal RX11 "IndexDeskModel" "counted" "[I" ∈ x_gw := x_gwt 909 (by decide +kernel) (by decide +kernel)
theorem w_911 : Cond.laysFinal RX11 "IndexDeskModel" "unlike" "[I" ∈ x_gw := x_gwt 911 (by decide +kernel) (by decide +kernel)
theorem w_913 : Cond.laysFinal RX11 "IndexDeskModel" "least" "[I" ∈ x_gw := x_gwt 913 (by decide +kernel) (by decide +kernel)
theorem w_915 : Cond.laysFinal RX11 "IndexDeskModel" "greatest" "[I" ∈ x_gw := x_gwt 915 (by decide +kernel) (by decide +kernel)
theorem w_917 : Cond.laysFinal RX11 "IndexDeskModel" "changes" "[I" ∈ x_gw := x_gwt 917 (by decide +kernel) (by decide +kernel)
theorem w_919 : Cond.lays RX11 "IndexDeskModel" "questions" "I" ∈ x_gw := x_gwt 919 (by decide +kernel) (by decide +kernel)
theorem w_921 : Cond.laysFinal RX11 "IndexDeskModel" "asked" "[I" ∈ x_gw := x_gwt 921 (by decide +kernel) (by decide +kernel)
theorem w_923 : Cond.laysFinal RX11 "IndexDeskModel" "wants" "[I" ∈ x_gw := x_gwt 923 (by decide +kernel) (by decide +kernel)
theorem w_925 : Cond.laysFinal RX11 "IndexDeskModel" "adds" "[I" ∈ x_gw := x_gwt 925 (by decide +kernel) (by decide +kernel)
theorem w_927 : Cond.laysFinal RX11 "IndexDeskModel" "weight" "[I" ∈ x_gw := x_gwt 927 (by decide +kernel) (by decide +kernel)
theorem w_929 : Cond.laysFinal RX11 "IndexDeskModel" "isTested" "[Z" ∈ x_gw := x_gwt 929 (by decide +kernel) (by decide +kernel)
theorem w_931 : Cond.laysFinal RX11 "IndexDeskModel" "from" "[I" ∈ x_gw := x_gwt 931 (by decide +kernel) (by decide +kernel)
theorem w_933 : Cond.laysFinal RX11 "IndexDeskModel" "to" "[I" ∈ x_gw := x_gwt 933 (by decide +kernel) (by decide +kernel)
theorem w_935 : Cond.lays RX11 "IndexDeskModel" "aids" "I" ∈ x_gw := x_gwt 935 (by decide +kernel) (by decide +kernel)
theorem w_937 : Cond.lays RX11 "IndexDeskModel" "built" "I" ∈ x_gw := x_gwt 937 (by decide +kernel) (by decide +kernel)
theorem w_939 : Cond.laysFinal RX11 "IndexDeskModel" "kind" "[I" ∈ x_gw := x_gwt 939 (by decide +kernel) (by decide +kernel)
theorem w_941 : Cond.laysFinal RX11 "IndexDeskModel" "of" "[I" ∈ x_gw := x_gwt 941 (by decide +kernel) (by decide +kernel)
theorem w_943 : Cond.laysFinal RX11 "IndexDeskModel" "many" "[I" ∈ x_gw := x_gwt 943 (by decide +kernel) (by decide +kernel)
theorem w_945 : Cond.laysFinal RX11 "IndexDeskModel" "by" "[I" ∈ x_gw := x_gwt 945 (by decide +kernel) (by decide +kernel)
theorem w_947 : Cond.laysFinal RX11 "IndexDeskModel" "set" "[I" ∈ x_gw := x_gwt 947 (by decide +kernel) (by decide +kernel)
theorem w_949 : Cond.laysFinal RX11 "IndexDeskModel" "column" "[I" ∈ x_gw := x_gwt 949 (by decide +kernel) (by decide +kernel)
theorem w_951 : Cond.laysFinal RX11 "IndexDeskModel" "low" "[I" ∈ x_gw := x_gwt 951 (by decide +kernel) (by decide +kernel)
theorem w_953 : Cond.laysFinal RX11 "IndexDeskModel" "high" "[I" ∈ x_gw := x_gwt 953 (by decide +kernel) (by decide +kernel)
theorem w_955 : Cond.laysFinal RX11 "IndexDeskModel" "costs" "[I" ∈ x_gw := x_gwt 955 (by decide +kernel) (by decide +kernel)
theorem w_957 : Cond.laysFinal RX11 "IndexDeskModel" "rooms" "[I" ∈ x_gw := x_gwt 957 (by decide +kernel) (by decide +kernel)
theorem w_959 : Cond.superclass RX11 "java/lang/Object" ∈ x_gw := x_gwt 959 (by decide +kernel) (by decide +kernel)
theorem w_960 : Cond.arrayClass Jvm.ClassFile.FieldType.boolean ∈ x_gw := x_gwt 960 (by decide +kernel) (by decide +kernel)
theorem w_961 : Cond.methodLink RL 17 yX11_table ∈ x_gw := x_gwt 961 (by decide +kernel) (by decide +kernel)
theorem w_962 : Cond.instanceMethod yX11_table ∈ x_gw := x_gwt 962 (by decide +kernel) (by decide +kernel)
theorem w_963 : Cond.selects RX11 yX11_table yX11_table ∈ x_gw := x_gwt 963 (by decide +kernel) (by decide +kernel)
theorem w_964 : Cond.code ({ cls := "IndexDeskModel", name := "table", desc := "(III)Z" } : Jvm.MethodName) prog_13_method_8_code (4 : Nat) (Option.some Jvm.ClassFile.FieldType.boolean) ∈ x_gw := x_gwt 964 (by decide +kernel) (by decide +kernel)
theorem w_965 : Cond.methodLink RX11 89 yX11_lies ∈ x_gw := x_gwt 965 (by decide +kernel) (by decide +kernel)
theorem w_966 : Cond.static yX11_lies ∈ x_gw := x_gwt 966 (by decide +kernel) (by decide +kernel)
theorem w_967 : Cond.code ({ cls := "IndexDeskModel", name := "lies", desc := "(III)Z" } : Jvm.MethodName) prog_13_method_2_code (3 : Nat) (Option.some Jvm.ClassFile.FieldType.boolean) ∈ x_gw := x_gwt 967 (by decide +kernel) (by decide +kernel)
theorem w_968 : Cond.methodLink RL 22 yX11_put ∈ x_gw := x_gwt 968 (by decide +kernel) (by decide +kernel)
theorem w_969 : Cond.instanceMethod yX11_put ∈ x_gw := x_gwt 969 (by decide +kernel) (by decide +kernel)
theorem w_970 : Cond.selects RX11 yX11_put yX11_put ∈ x_gw := x_gwt 970 (by decide +kernel) (by decide +kernel)
theorem w_971 : Cond.code ({ cls := "IndexDeskModel", name := "put", desc := "(IIIII)I" } : Jvm.MethodName) prog_13_method_10_code (7 : Nat) (Option.some Jvm.ClassFile.FieldType.int) ∈ x_gw := x_gwt 971 (by decide +kernel) (by decide +kernel)
theorem w_972 : Cond.methodLink RX11 93 yX11_isTable ∈ x_gw := x_gwt 972 (by decide +kernel) (by decide +kernel)
theorem w_974 : Cond.instanceMethod yX11_isTable ∈ x_gw := x_gwt 974 (by decide +kernel) (by decide +kernel)
theorem w_975 : Cond.code ({ cls := "IndexDeskModel", name := "isTable", desc := "(I)Z" } : Jvm.MethodName) prog_13_method_3_code (2 : Nat) (Option.some Jvm.ClassFile.FieldType.boolean) ∈ x_gw := x_gwt 975 (by decide +kernel) (by decide +kernel)
theorem w_976 : Cond.methodLink RL 27 yX11_strike ∈ x_gw := x_gwt 976 (by decide +kernel) (by decide +kernel)
theorem w_977 : Cond.instanceMethod yX11_strike ∈ x_gw := x_gwt 977 (by decide +kernel) (by decide +kernel)
theorem w_978 : Cond.selects RX11 yX11_strike yX11_strike ∈ x_gw := x_gwt 978 (by decide +kernel) (by decide +kernel)
theorem w_979 : Cond.code ({ cls := "IndexDeskModel", name := "strike", desc := "(II)Z" } : Jvm.MethodName) prog_13_method_11_code (4 : Nat) (Option.some Jvm.ClassFile.FieldType.boolean) ∈ x_gw := x_gwt 979 (by decide +kernel) (by decide +kernel)
theorem w_980 : Cond.methodLink RL 32 yX11_recount ∈ x_gw := x_gwt 980 (by decide +kernel) (by decide +kernel)
theorem w_981 : Cond.instanceMethod yX11_recount ∈ x_gw := x_gwt 981 (by decide +kernel) (by decide +kernel)
theorem w_982 : Cond.selects RX11 yX11_recount yX11_recount ∈ x_gw := x_gwt 982 (by decide +kernel) (by decide +kernel)
theorem w_983 : Cond.code ({ cls := "IndexDeskModel", name := "recount", desc := "(I)I" } : Jvm.MethodName) prog_13_method_12_code (8 : Nat) (Option.some Jvm.ClassFile.FieldType.int) ∈ x_gw := x_gwt 983 (by decide +kernel) (by decide +kernel)
theorem w_984 : Cond.methodLink RX11 101 yX11_at ∈ x_gw := x_gwt 984 (by decide +kernel) (by decide +kernel)
theorem w_986 : Cond.instanceMethod yX11_at ∈ x_gw := x_gwt 986 (by decide +kernel) (by decide +kernel)
theorem w_987 : Cond.code ({ cls := "IndexDeskModel", name := "at", desc := "(III)I" } : Jvm.MethodName) prog_13_method_9_code (4 : Nat) (Option.some Jvm.ClassFile.FieldType.int) ∈ x_gw := x_gwt 987 (by decide +kernel) (by decide +kernel)
theorem w_988 : Cond.methodLink RL 37 yX11_counts ∈ x_gw := x_gwt 988 (by decide +kernel) (by decide +kernel)
theorem w_989 : Cond.instanceMethod yX11_counts ∈ x_gw := x_gwt 989 (by decide +kernel) (by decide +kernel)
theorem w_990 : Cond.selects RX11 yX11_counts yX11_counts ∈ x_gw := x_gwt 990 (by decide +kernel) (by decide +kernel)
theorem w_991 : Cond.code ({ cls := "IndexDeskModel", name := "counts", desc := "(III)I" } : Jvm.MethodName) prog_13_method_14_code (4 : Nat) (Option.some Jvm.ClassFile.FieldType.int) ∈ x_gw := x_gwt 991 (by decide +kernel) (by decide +kernel)
theorem w_992 : Cond.methodLink RX11 109 yX11_pages ∈ x_gw := x_gwt 992 (by decide +kernel) (by decide +kernel)
theorem w_994 : Cond.instanceMethod yX11_pages ∈ x_gw := x_gwt 994 (by decide +kernel) (by decide +kernel)
theorem w_995 : Cond.code ({ cls := "IndexDeskModel", name := "pages", desc := "(I)I" } : Jvm.MethodName) prog_13_method_13_code (2 : Nat) (Option.some Jvm.ClassFile.FieldType.int) ∈ x_gw := x_gwt 995 (by decide +kernel) (by decide +kernel)
theorem w_996 : Cond.methodLink RX11 105 yX11_up ∈ x_gw := x_gwt 996 (by decide +kernel) (by decide +kernel)
theorem w_997 : Cond.static yX11_up ∈ x_gw := x_gwt 997 (by decide +kernel) (by decide +kernel)
theorem w_998 : Cond.code ({ cls := "IndexDeskModel", name := "up", desc := "(II)I" } : Jvm.MethodName) prog_13_method_5_code (2 : Nat) (Option.some Jvm.ClassFile.FieldType.int) ∈ x_gw := x_gwt 998 (by decide +kernel) (by decide +kernel)
theorem w_999 : Cond.methodLink RX11 113 yX11_isColumn ∈ x_gw := x_gwt 999 (by decide +kernel) (by decide +kernel)
theorem w_1001 : Cond.instanceMethod yX11_isColumn ∈ x_gw := x_gwt 1001 (by decide +kernel) (by decide +kernel)
theorem w_1002 : Cond.code ({ cls := "IndexDeskModel", name := "isColumn", desc := "(II)Z" } : Jvm.MethodName) prog_13_method_4_code (3 : Nat) (Option.some Jvm.ClassFile.FieldType.boolean) ∈ x_gw := x_gwt 1002 (by decide +kernel) (by decide +kernel)
theorem w_1003 : Cond.methodLink RL 41 yX11_changes ∈ x_gw := x_gwt 1003 (by decide +kernel) (by decide +kernel)
theorem w_1004 : Cond.instanceMethod yX11_changes ∈ x_gw := x_gwt 1004 (by decide +kernel) (by decide +kernel)
theorem w_1005 : Cond.selects RX11 yX11_changes yX11_changes ∈ x_gw := x_gwt 1005 (by decide +kernel) (by decide +kernel)
theorem w_1006 : Cond.code ({ cls := "IndexDeskModel", name := "changes", desc := "(II)Z" } : Jvm.MethodName) prog_13_method_15_code (3 : Nat) (Option.some Jvm.ClassFile.FieldType.boolean) ∈ x_gw := x_gwt 1006 (by decide +kernel) (by decide +kernel)
theorem w_1007 : Cond.methodLink RL 46 yX11_question ∈ x_gw := x_gwt 1007 (by decide +kernel) (by decide +kernel)
theorem w_1008 : Cond.instanceMethod yX11_question ∈ x_gw := x_gwt 1008 (by decide +kernel) (by decide +kernel)
theorem w_1009 : Cond.selects RX11 yX11_question yX11_question ∈ x_gw := x_gwt 1009 (by decide +kernel) (by decide +kernel)
theorem w_1010 : Cond.code ({ cls := "IndexDeskModel", name := "question", desc := "(IIII)I" } : Jvm.MethodName) prog_13_method_16_code (5 : Nat) (Option.some Jvm.ClassFile.FieldType.int) ∈ x_gw := x_gwt 1010 (by decide +kernel) (by decide +kernel)
theorem w_1011 : Cond.methodLink RL 51 yX11_test ∈ x_gw := x_gwt 1011 (by decide +kernel) (by decide +kernel)
theorem w_1012 : Cond.instanceMethod yX11_test ∈ x_gw := x_gwt 1012 (by decide +kernel) (by decide +kernel)
theorem w_1013 : Cond.selects RX11 yX11_test yX11_test ∈ x_gw := x_gwt 1013 (by decide +kernel) (by decide +kernel)
theorem w_1014 : Cond.code ({ cls := "IndexDeskModel", name := "test", desc := "(IIII)Z" } : Jvm.MethodName) prog_13_method_18_code (5 : Nat) (Option.some Jvm.ClassFile.FieldType.boolean) ∈ x_gw := x_gwt 1014 (by decide +kernel) (by decide +kernel)
theorem w_1015 : Cond.methodLink RX11 120 yX11_isQuestion ∈ x_gw := x_gwt 1015 (by decide +kernel) (by decide +kernel)
theorem w_1017 : Cond.instanceMethod yX11_isQuestion ∈ x_gw := x_gwt 1017 (by decide +kernel) (by decide +kernel)
theorem w_1018 : Cond.code ({ cls := "IndexDeskModel", name := "isQuestion", desc := "(I)Z" } : Jvm.MethodName) prog_13_method_17_code (2 : Nat) (Option.some Jvm.ClassFile.FieldType.boolean) ∈ x_gw := x_gwt 1018 (by decide +kernel) (by decide +kernel)
theorem w_1019 : Cond.methodLink RL 56 yX11_order ∈ x_gw := x_gwt 1019 (by decide +kernel) (by decide +kernel)
theorem w_1020 : Cond.instanceMethod yX11_order ∈ x_gw := x_gwt 1020 (by decide +kernel) (by decide +kernel)
theorem w_1021 : Cond.selects RX11 yX11_order yX11_order ∈ x_gw := x_gwt 1021 (by decide +kernel) (by decide +kernel)
theorem w_1022 : Cond.code ({ cls := "IndexDeskModel", name := "order", desc := "(IIIIII)I" } : Jvm.MethodName) prog_13_method_21_code (9 : Nat) (Option.some Jvm.ClassFile.FieldType.int) ∈ x_gw := x_gwt 1022 (by decide +kernel) (by decide +kernel)
theorem w_1023 : Cond.methodLink RX11 126 yX11_inTurn ∈ x_gw := x_gwt 1023 (by decide +kernel) (by decide +kernel)
theorem w_1025 : Cond.instanceMethod yX11_inTurn ∈ x_gw := x_gwt 1025 (by decide +kernel) (by decide +kernel)
theorem w_1026 : Cond.code ({ cls := "IndexDeskModel", name := "inTurn", desc := "(IIII)I" } : Jvm.MethodName) prog_13_method_20_code (5 : Nat) (Option.some Jvm.ClassFile.FieldType.int) ∈ x_gw := x_gwt 1026 (by decide +kernel) (by decide +kernel)
theorem w_1027 : Cond.methodLink RX11 130 yX11_aid ∈ x_gw := x_gwt 1027 (by decide +kernel) (by decide +kernel)
theorem w_1029 : Cond.instanceMethod yX11_aid ∈ x_gw := x_gwt 1029 (by decide +kernel) (by decide +kernel)
theorem w_1030 : Cond.code ({ cls := "IndexDeskModel", name := "aid", desc := "(IIIII)I" } : Jvm.MethodName) prog_13_method_19_code (6 : Nat) (Option.some Jvm.ClassFile.FieldType.int) ∈ x_gw := x_gwt 1030 (by decide +kernel) (by decide +kernel)
theorem w_1031 : Cond.methodLink RL 60 yX11_part ∈ x_gw := x_gwt 1031 (by decide +kernel) (by decide +kernel)
theorem w_1032 : Cond.instanceMethod yX11_part ∈ x_gw := x_gwt 1032 (by decide +kernel) (by decide +kernel)
theorem w_1033 : Cond.selects RX11 yX11_part yX11_part ∈ x_gw := x_gwt 1033 (by decide +kernel) (by decide +kernel)
theorem w_1034 : Cond.code ({ cls := "IndexDeskModel", name := "part", desc := "(IIIIII)I" } : Jvm.MethodName) prog_13_method_22_code (8 : Nat) (Option.some Jvm.ClassFile.FieldType.int) ∈ x_gw := x_gwt 1034 (by decide +kernel) (by decide +kernel)
theorem w_1035 : Cond.methodLink RL 64 yX11_sums ∈ x_gw := x_gwt 1035 (by decide +kernel) (by decide +kernel)
theorem w_1036 : Cond.instanceMethod yX11_sums ∈ x_gw := x_gwt 1036 (by decide +kernel) (by decide +kernel)
theorem w_1037 : Cond.selects RX11 yX11_sums yX11_sums ∈ x_gw := x_gwt 1037 (by decide +kernel) (by decide +kernel)
theorem w_1038 : Cond.code ({ cls := "IndexDeskModel", name := "sums", desc := "(III)I" } : Jvm.MethodName) prog_13_method_23_code (5 : Nat) (Option.some Jvm.ClassFile.FieldType.int) ∈ x_gw := x_gwt 1038 (by decide +kernel) (by decide +kernel)
theorem w_1039 : Cond.methodLink RX11 134 yX11_size ∈ x_gw := x_gwt 1039 (by decide +kernel) (by decide +kernel)
theorem w_1040 : Cond.static yX11_size ∈ x_gw := x_gwt 1040 (by decide +kernel) (by decide +kernel)
theorem w_1041 : Cond.code ({ cls := "IndexDeskModel", name := "size", desc := "(I)I" } : Jvm.MethodName) prog_13_method_7_code (3 : Nat) (Option.some Jvm.ClassFile.FieldType.int) ∈ x_gw := x_gwt 1041 (by decide +kernel) (by decide +kernel)
theorem w_1042 : Cond.methodLink RX11 97 yX11_isIn ∈ x_gw := x_gwt 1042 (by decide +kernel) (by decide +kernel)
theorem w_1043 : Cond.static yX11_isIn ∈ x_gw := x_gwt 1043 (by decide +kernel) (by decide +kernel)
theorem w_1044 : Cond.code ({ cls := "IndexDeskModel", name := "isIn", desc := "(II)Z" } : Jvm.MethodName) prog_13_method_6_code (2 : Nat) (Option.some Jvm.ClassFile.FieldType.boolean) ∈ x_gw := x_gwt 1044 (by decide +kernel) (by decide +kernel)
theorem w_1045 : Cond.methodLink RL 69 yX11_build ∈ x_gw := x_gwt 1045 (by decide +kernel) (by decide +kernel)
theorem w_1046 : Cond.instanceMethod yX11_build ∈ x_gw := x_gwt 1046 (by decide +kernel) (by decide +kernel)
theorem w_1047 : Cond.selects RX11 yX11_build yX11_build ∈ x_gw := x_gwt 1047 (by decide +kernel) (by decide +kernel)
theorem w_1048 : Cond.code ({ cls := "IndexDeskModel", name := "build", desc := "(IZ)Z" } : Jvm.MethodName) prog_13_method_25_code (3 : Nat) (Option.some Jvm.ClassFile.FieldType.boolean) ∈ x_gw := x_gwt 1048 (by decide +kernel) (by decide +kernel)
theorem w_1049 : Cond.methodLink RX11 137 yX11_isAid ∈ x_gw := x_gwt 1049 (by decide +kernel) (by decide +kernel)
theorem w_1051 : Cond.instanceMethod yX11_isAid ∈ x_gw := x_gwt 1051 (by decide +kernel) (by decide +kernel)
theorem w_1052 : Cond.code ({ cls := "IndexDeskModel", name := "isAid", desc := "(I)Z" } : Jvm.MethodName) prog_13_method_24_code (2 : Nat) (Option.some Jvm.ClassFile.FieldType.boolean) ∈ x_gw := x_gwt 1052 (by decide +kernel) (by decide +kernel)
theorem w_1053 : Cond.methodLink RX11 143 yX11_isSet ∈ x_gw := x_gwt 1053 (by decide +kernel) (by decide +kernel)
theorem w_1055 : Cond.instanceMethod yX11_isSet ∈ x_gw := x_gwt 1055 (by decide +kernel) (by decide +kernel)
theorem w_1056 : Cond.code ({ cls := "IndexDeskModel", name := "isSet", desc := "(I)Z" } : Jvm.MethodName) prog_13_method_26_code (4 : Nat) (Option.some Jvm.ClassFile.FieldType.boolean) ∈ x_gw := x_gwt 1056 (by decide +kernel) (by decide +kernel)
theorem w_1057 : Cond.methodLink RL 79 yX11_cost ∈ x_gw := x_gwt 1057 (by decide +kernel) (by decide +kernel)
theorem w_1058 : Cond.instanceMethod yX11_cost ∈ x_gw := x_gwt 1058 (by decide +kernel) (by decide +kernel)
theorem w_1059 : Cond.selects RX11 yX11_cost yX11_cost ∈ x_gw := x_gwt 1059 (by decide +kernel) (by decide +kernel)
theorem w_1060 : Cond.code ({ cls := "IndexDeskModel", name := "cost", desc := "(II)I" } : Jvm.MethodName) prog_13_method_38_code (3 : Nat) (Option.some Jvm.ClassFile.FieldType.int) ∈ x_gw := x_gwt 1060 (by decide +kernel) (by decide +kernel)
theorem w_1061 : Cond.methodLink RX11 167 yX11_helps ∈ x_gw := x_gwt 1061 (by decide +kernel) (by decide +kernel)
theorem w_1063 : Cond.instanceMethod yX11_helps ∈ x_gw := x_gwt 1063 (by decide +kernel) (by decide +kernel)
theorem w_1064 : Cond.code ({ cls := "IndexDeskModel", name := "helps", desc := "(II)Z" } : Jvm.MethodName) prog_13_method_35_code (4 : Nat) (Option.some Jvm.ClassFile.FieldType.boolean) ∈ x_gw := x_gwt 1064 (by decide +kernel) (by decide +kernel)
theorem w_1065 : Cond.methodLink RX11 158 yX11_tested ∈ x_gw := x_gwt 1065 (by decide +kernel) (by decide +kernel)
theorem w_1067 : Cond.instanceMethod yX11_tested ∈ x_gw := x_gwt 1067 (by decide +kernel) (by decide +kernel)
theorem w_1068 : Cond.code ({ cls := "IndexDeskModel", name := "tested", desc := "(I)I" } : Jvm.MethodName) prog_13_method_34_code (4 : Nat) (Option.some Jvm.ClassFile.FieldType.int) ∈ x_gw := x_gwt 1068 (by decide +kernel) (by decide +kernel)
theorem w_1069 : Cond.methodLink RX11 152 yX11_uses ∈ x_gw := x_gwt 1069 (by decide +kernel) (by decide +kernel)
theorem w_1071 : Cond.instanceMethod yX11_uses ∈ x_gw := x_gwt 1071 (by decide +kernel) (by decide +kernel)
theorem w_1072 : Cond.code ({ cls := "IndexDeskModel", name := "uses", desc := "(II)I" } : Jvm.MethodName) prog_13_method_28_code (5 : Nat) (Option.some Jvm.ClassFile.FieldType.int) ∈ x_gw := x_gwt 1072 (by decide +kernel) (by decide +kernel)
theorem w_1073 : Cond.methodLink RX11 170 yX11_costOf ∈ x_gw := x_gwt 1073 (by decide +kernel) (by decide +kernel)
theorem w_1075 : Cond.instanceMethod yX11_costOf ∈ x_gw := x_gwt 1075 (by decide +kernel) (by decide +kernel)
theorem w_1076 : Cond.code ({ cls := "IndexDeskModel", name := "costOf", desc := "(II)I" } : Jvm.MethodName) prog_13_method_37_code (6 : Nat) (Option.some Jvm.ClassFile.FieldType.int) ∈ x_gw := x_gwt 1076 (by decide +kernel) (by decide +kernel)
theorem w_1077 : Cond.methodLink RX11 155 yX11_groups ∈ x_gw := x_gwt 1077 (by decide +kernel) (by decide +kernel)
theorem w_1079 : Cond.instanceMethod yX11_groups ∈ x_gw := x_gwt 1079 (by decide +kernel) (by decide +kernel)
theorem w_1080 : Cond.code ({ cls := "IndexDeskModel", name := "groups", desc := "(I)I" } : Jvm.MethodName) prog_13_method_31_code (5 : Nat) (Option.some Jvm.ClassFile.FieldType.int) ∈ x_gw := x_gwt 1080 (by decide +kernel) (by decide +kernel)
theorem w_1081 : Cond.methodLink RX11 161 yX11_matched ∈ x_gw := x_gwt 1081 (by decide +kernel) (by decide +kernel)
theorem w_1083 : Cond.instanceMethod yX11_matched ∈ x_gw := x_gwt 1083 (by decide +kernel) (by decide +kernel)
theorem w_1084 : Cond.code ({ cls := "IndexDeskModel", name := "matched", desc := "(II)I" } : Jvm.MethodName) prog_13_method_30_code (7 : Nat) (Option.some Jvm.ClassFile.FieldType.int) ∈ x_gw := x_gwt 1084 (by decide +kernel) (by decide +kernel)
theorem w_1085 : Cond.methodLink RX11 149 yX11_own ∈ x_gw := x_gwt 1085 (by decide +kernel) (by decide +kernel)
theorem w_1087 : Cond.instanceMethod yX11_own ∈ x_gw := x_gwt 1087 (by decide +kernel) (by decide +kernel)
theorem w_1088 : Cond.code ({ cls := "IndexDeskModel", name := "own", desc := "(I)I" } : Jvm.MethodName) prog_13_method_29_code (2 : Nat) (Option.some Jvm.ClassFile.FieldType.int) ∈ x_gw := x_gwt 1088 (by decide +kernel) (by decide +kernel)
theorem w_1089 : Cond.methodLink RX11 146 yX11_passes ∈ x_gw := x_gwt 1089 (by decide +kernel) (by decide +kernel)
theorem w_1091 : Cond.instanceMethod yX11_passes ∈ x_gw := x_gwt 1091 (by decide +kernel) (by decide +kernel)
theorem w_1092 : Cond.code ({ cls := "IndexDeskModel", name := "passes", desc := "(IIIII)I" } : Jvm.MethodName) prog_13_method_27_code (9 : Nat) (Option.some Jvm.ClassFile.FieldType.int) ∈ x_gw := x_gwt 1092 (by decide +kernel) (by decide +kernel)
theorem w_1093 : Cond.methodLink RX11 164 yX11_covers ∈ x_gw := x_gwt 1093 (by decide +kernel) (by decide +kernel)
theorem w_1095 : Cond.instanceMethod yX11_covers ∈ x_gw := x_gwt 1095 (by decide +kernel) (by decide +kernel)
theorem w_1096 : Cond.code ({ cls := "IndexDeskModel", name := "covers", desc := "(II)Z" } : Jvm.MethodName) prog_13_method_36_code (3 : Nat) (Option.some Jvm.ClassFile.FieldType.boolean) ∈ x_gw := x_gwt 1096 (by decide +kernel) (by decide +kernel)
theorem w_1097 : Cond.methodLink RL 83 yX11_plan ∈ x_gw := x_gwt 1097 (by decide +kernel) (by decide +kernel)
theorem w_1098 : Cond.instanceMethod yX11_plan ∈ x_gw := x_gwt 1098 (by decide +kernel) (by decide +kernel)
theorem w_1099 : Cond.selects RX11 yX11_plan yX11_plan ∈ x_gw := x_gwt 1099 (by decide +kernel) (by decide +kernel)
theorem w_1100 : Cond.code ({ cls := "IndexDeskModel", name := "plan", desc := "(I)I" } : Jvm.MethodName) prog_13_method_40_code (2 : Nat) (Option.some Jvm.ClassFile.FieldType.int) ∈ x_gw := x_gwt 1100 (by decide +kernel) (by decide +kernel)
theorem w_1101 : Cond.methodLink RX11 176 yX11_planOf ∈ x_gw := x_gwt 1101 (by decide +kernel) (by decide +kernel)
theorem w_1103 : Cond.instanceMethod yX11_planOf ∈ x_gw := x_gwt 1103 (by decide +kernel) (by decide +kernel)
theorem w_1104 : Cond.code ({ cls := "IndexDeskModel", name := "planOf", desc := "(II)I" } : Jvm.MethodName) prog_13_method_39_code (5 : Nat) (Option.some Jvm.ClassFile.FieldType.int) ∈ x_gw := x_gwt 1104 (by decide +kernel) (by decide +kernel)
theorem w_1105 : Cond.methodLink RX11 173 yX11_cost ∈ x_gw := x_gwt 1105 (by decide +kernel) (by decide +kernel)
theorem w_1106 : Cond.methodLink RL 87 yX11_run ∈ x_gw := x_gwt 1106 (by decide +kernel) (by decide +kernel)
theorem w_1107 : Cond.instanceMethod yX11_run ∈ x_gw := x_gwt 1107 (by decide +kernel) (by decide +kernel)
theorem w_1108 : Cond.selects RX11 yX11_run yX11_run ∈ x_gw := x_gwt 1108 (by decide +kernel) (by decide +kernel)
theorem w_1109 : Cond.code ({ cls := "IndexDeskModel", name := "run", desc := "(II)I" } : Jvm.MethodName) prog_13_method_46_code (7 : Nat) (Option.some Jvm.ClassFile.FieldType.int) ∈ x_gw := x_gwt 1109 (by decide +kernel) (by decide +kernel)
theorem w_1110 : Cond.methodLink RX11 190 yX11_answers ∈ x_gw := x_gwt 1110 (by decide +kernel) (by decide +kernel)
theorem w_1112 : Cond.instanceMethod yX11_answers ∈ x_gw := x_gwt 1112 (by decide +kernel) (by decide +kernel)
theorem w_1113 : Cond.code ({ cls := "IndexDeskModel", name := "answers", desc := "(II)Z" } : Jvm.MethodName) prog_13_method_42_code (4 : Nat) (Option.some Jvm.ClassFile.FieldType.boolean) ∈ x_gw := x_gwt 1113 (by decide +kernel) (by decide +kernel)
theorem w_1114 : Cond.methodLink RX11 179 yX11_passesNow ∈ x_gw := x_gwt 1114 (by decide +kernel) (by decide +kernel)
theorem w_1116 : Cond.instanceMethod yX11_passesNow ∈ x_gw := x_gwt 1116 (by decide +kernel) (by decide +kernel)
theorem w_1117 : Cond.code ({ cls := "IndexDeskModel", name := "passesNow", desc := "(IIIII)Z" } : Jvm.MethodName) prog_13_method_41_code (6 : Nat) (Option.some Jvm.ClassFile.FieldType.boolean) ∈ x_gw := x_gwt 1117 (by decide +kernel) (by decide +kernel)
theorem w_1118 : Cond.methodLink RX11 193 yX11_fetched ∈ x_gw := x_gwt 1118 (by decide +kernel) (by decide +kernel)
theorem w_1120 : Cond.instanceMethod yX11_fetched ∈ x_gw := x_gwt 1120 (by decide +kernel) (by decide +kernel)
theorem w_1121 : Cond.code ({ cls := "IndexDeskModel", name := "fetched", desc := "(I)I" } : Jvm.MethodName) prog_13_method_45_code (8 : Nat) (Option.some Jvm.ClassFile.FieldType.int) ∈ x_gw := x_gwt 1121 (by decide +kernel) (by decide +kernel)
theorem w_1122 : Cond.methodLink RX11 183 yX11_alike ∈ x_gw := x_gwt 1122 (by decide +kernel) (by decide +kernel)
theorem w_1124 : Cond.instanceMethod yX11_alike ∈ x_gw := x_gwt 1124 (by decide +kernel) (by decide +kernel)
theorem w_1125 : Cond.code ({ cls := "IndexDeskModel", name := "alike", desc := "(IIII)Z" } : Jvm.MethodName) prog_13_method_44_code (6 : Nat) (Option.some Jvm.ClassFile.FieldType.boolean) ∈ x_gw := x_gwt 1125 (by decide +kernel) (by decide +kernel)
theorem w_1126 : Cond.methodLink RX11 187 yX11_matchesNow ∈ x_gw := x_gwt 1126 (by decide +kernel) (by decide +kernel)
theorem w_1128 : Cond.instanceMethod yX11_matchesNow ∈ x_gw := x_gwt 1128 (by decide +kernel) (by decide +kernel)
theorem w_1129 : Cond.code ({ cls := "IndexDeskModel", name := "matchesNow", desc := "(III)Z" } : Jvm.MethodName) prog_13_method_43_code (8 : Nat) (Option.some Jvm.ClassFile.FieldType.boolean) ∈ x_gw := x_gwt 1129 (by decide +kernel) (by decide +kernel)
theorem w_1130 : Cond.methodLink RL 92 yX11_total ∈ x_gw := x_gwt 1130 (by decide +kernel) (by decide +kernel)
theorem w_1131 : Cond.instanceMethod yX11_total ∈ x_gw := x_gwt 1131 (by decide +kernel) (by decide +kernel)
theorem w_1132 : Cond.selects RX11 yX11_total yX11_total ∈ x_gw := x_gwt 1132 (by decide +kernel) (by decide +kernel)
theorem w_1133 : Cond.code ({ cls := "IndexDeskModel", name := "total", desc := "(I)J" } : Jvm.MethodName) prog_13_method_49_code (2 : Nat) (Option.some Jvm.ClassFile.FieldType.long) ∈ x_gw := x_gwt 1133 (by decide +kernel) (by decide +kernel)
theorem w_1134 : Cond.methodLink RX11 202 yX11_totalOf ∈ x_gw := x_gwt 1134 (by decide +kernel) (by decide +kernel)
theorem w_1136 : Cond.instanceMethod yX11_totalOf ∈ x_gw := x_gwt 1136 (by decide +kernel) (by decide +kernel)
theorem w_1137 : Cond.code ({ cls := "IndexDeskModel", name := "totalOf", desc := "(I)J" } : Jvm.MethodName) prog_13_method_47_code (5 : Nat) (Option.some Jvm.ClassFile.FieldType.long) ∈ x_gw := x_gwt 1137 (by decide +kernel) (by decide +kernel)
theorem w_1138 : Cond.methodLink RX11 196 yX11_keeping ∈ x_gw := x_gwt 1138 (by decide +kernel) (by decide +kernel)
theorem w_1140 : Cond.instanceMethod yX11_keeping ∈ x_gw := x_gwt 1140 (by decide +kernel) (by decide +kernel)
theorem w_1141 : Cond.code ({ cls := "IndexDeskModel", name := "keeping", desc := "(I)I" } : Jvm.MethodName) prog_13_method_33_code (2 : Nat) (Option.some Jvm.ClassFile.FieldType.int) ∈ x_gw := x_gwt 1141 (by decide +kernel) (by decide +kernel)
theorem w_1142 : Cond.constantLong RX11 206 (-1) ∈ x_gw := x_gwt 1142 (by decide +kernel) (by decide +kernel)
theorem w_1143 : Cond.methodLink RL 96 yX11_room ∈ x_gw := x_gwt 1143 (by decide +kernel) (by decide +kernel)
theorem w_1144 : Cond.instanceMethod yX11_room ∈ x_gw := x_gwt 1144 (by decide +kernel) (by decide +kernel)
theorem w_1145 : Cond.selects RX11 yX11_room yX11_room ∈ x_gw := x_gwt 1145 (by decide +kernel) (by decide +kernel)
theorem w_1146 : Cond.code ({ cls := "IndexDeskModel", name := "room", desc := "(I)I" } : Jvm.MethodName) prog_13_method_50_code (2 : Nat) (Option.some Jvm.ClassFile.FieldType.int) ∈ x_gw := x_gwt 1146 (by decide +kernel) (by decide +kernel)
theorem w_1147 : Cond.methodLink RX11 208 yX11_roomOfSet ∈ x_gw := x_gwt 1147 (by decide +kernel) (by decide +kernel)
theorem w_1149 : Cond.instanceMethod yX11_roomOfSet ∈ x_gw := x_gwt 1149 (by decide +kernel) (by decide +kernel)
theorem w_1150 : Cond.code ({ cls := "IndexDeskModel", name := "roomOfSet", desc := "(I)I" } : Jvm.MethodName) prog_13_method_48_code (4 : Nat) (Option.some Jvm.ClassFile.FieldType.int) ∈ x_gw := x_gwt 1150 (by decide +kernel) (by decide +kernel)
theorem w_1151 : Cond.methodLink RX11 199 yX11_roomOf ∈ x_gw := x_gwt 1151 (by decide +kernel) (by decide +kernel)
theorem w_1153 : Cond.instanceMethod yX11_roomOf ∈ x_gw := x_gwt 1153 (by decide +kernel) (by decide +kernel)
theorem w_1154 : Cond.code ({ cls := "IndexDeskModel", name := "roomOf", desc := "(I)I" } : Jvm.MethodName) prog_13_method_32_code (3 : Nat) (Option.some Jvm.ClassFile.FieldType.int) ∈ x_gw := x_gwt 1154 (by decide +kernel) (by decide +kernel)
theorem w_1155 : Cond.methodLink RL 101 yX11_built ∈ x_gw := x_gwt 1155 (by decide +kernel) (by decide +kernel)
theorem w_1156 : Cond.instanceMethod yX11_built ∈ x_gw := x_gwt 1156 (by decide +kernel) (by decide +kernel)
theorem w_1157 : Cond.selects RX11 yX11_built yX11_built ∈ x_gw := x_gwt 1157 (by decide +kernel) (by decide +kernel)
theorem w_1158 : Cond.code ({ cls := "IndexDeskModel", name := "built", desc := "()I" } : Jvm.MethodName) prog_13_method_51_code (1 : Nat) (Option.some Jvm.ClassFile.FieldType.int) ∈ x_gw := x_gwt 1158 (by decide +kernel) (by decide +kernel)
theorem w_1159 : Cond.methodLink RL 74 yX11_look ∈ x_gw := x_gwt 1159 (by decide +kernel) (by decide +kernel)
theorem w_1160 : Cond.instanceMethod yX11_look ∈ x_gw := x_gwt 1160 (by decide +kernel) (by decide +kernel)
theorem w_1161 : Cond.selects RX11 yX11_look yX11_look ∈ x_gw := x_gwt 1161 (by decide +kernel) (by decide +kernel)
theorem w_1162 : Cond.code ({ cls := "IndexDeskModel", name := "look", desc := "(II)J" } : Jvm.MethodName) prog_13_method_52_code (3 : Nat) (Option.some Jvm.ClassFile.FieldType.long) ∈ x_gw := x_gwt 1162 (by decide +kernel) (by decide +kernel)
theorem w_1163 : Cond.methodLink RL 105 yX11_choose ∈ x_gw := x_gwt 1163 (by decide +kernel) (by decide +kernel)
theorem w_1164 : Cond.instanceMethod yX11_choose ∈ x_gw := x_gwt 1164 (by decide +kernel) (by decide +kernel)
theorem w_1165 : Cond.selects RX11 yX11_choose yX11_choose ∈ x_gw := x_gwt 1165 (by decide +kernel) (by decide +kernel)
theorem w_1166 : Cond.code ({ cls := "IndexDeskModel", name := "choose", desc := "(I)I" } : Jvm.MethodName) prog_13_method_56_code (8 : Nat) (Option.some Jvm.ClassFile.FieldType.int) ∈ x_gw := x_gwt 1166 (by decide +kernel) (by decide +kernel)
theorem w_1167 : Cond.methodLink RX11 211 yX11_works ∈ x_gw := x_gwt 1167 (by decide +kernel) (by decide +kernel)
theorem w_1169 : Cond.instanceMethod yX11_works ∈ x_gw := x_gwt 1169 (by decide +kernel) (by decide +kernel)
theorem w_1170 : Cond.code ({ cls := "IndexDeskModel", name := "works", desc := "()V" } : Jvm.MethodName) prog_13_method_53_code (3 : Nat) (Option.none : Option Jvm.ClassFile.FieldType) ∈ x_gw := x_gwt 1170 (by decide +kernel) (by decide +kernel)
theorem w_1171 : Cond.methodLink RX11 214 yX11_totalWorked ∈ x_gw := x_gwt 1171 (by decide +kernel) (by decide +kernel)
theorem w_1173 : Cond.instanceMethod yX11_totalWorked ∈ x_gw := x_gwt 1173 (by decide +kernel) (by decide +kernel)
theorem w_1174 : Cond.code ({ cls := "IndexDeskModel", name := "totalWorked", desc := "(I)J" } : Jvm.MethodName) prog_13_method_54_code (7 : Nat) (Option.some Jvm.ClassFile.FieldType.long) ∈ x_gw := x_gwt 1174 (by decide +kernel) (by decide +kernel)
theorem w_1175 : Cond.methodLink RX11 217 yX11_isAhead ∈ x_gw := x_gwt 1175 (by decide +kernel) (by decide +kernel)
theorem w_1176 : Cond.static yX11_isAhead ∈ x_gw := x_gwt 1176 (by decide +kernel) (by decide +kernel)
theorem w_1177 : Cond.code ({ cls := "IndexDeskModel", name := "isAhead", desc := "(II)Z" } : Jvm.MethodName) prog_13_method_55_code (3 : Nat) (Option.some Jvm.ClassFile.FieldType.boolean) ∈ x_gw := x_gwt 1177 (by decide +kernel) (by decide +kernel)
theorem w_1178 : Cond.methodLink RL 109 yX11_greedy ∈ x_gw := x_gwt 1178 (by decide +kernel) (by decide +kernel)
theorem w_1179 : Cond.instanceMethod yX11_greedy ∈ x_gw := x_gwt 1179 (by decide +kernel) (by decide +kernel)
theorem w_1180 : Cond.selects RX11 yX11_greedy yX11_greedy ∈ x_gw := x_gwt 1180 (by decide +kernel) (by decide +kernel)
theorem w_1181 : Cond.code ({ cls := "IndexDeskModel", name := "greedy", desc := "(I)I" } : Jvm.MethodName) prog_13_method_57_code (12 : Nat) (Option.some Jvm.ClassFile.FieldType.int) ∈ x_gw := x_gwt 1181 (by decide +kernel) (by decide +kernel)
theorem w_1182 : Cond.methodLink RL 113 yX11_count ∈ x_gw := x_gwt 1182 (by decide +kernel) (by decide +kernel)
theorem w_1183 : Cond.instanceMethod yX11_count ∈ x_gw := x_gwt 1183 (by decide +kernel) (by decide +kernel)
theorem w_1184 : Cond.selects RX11 yX11_count yX11_count ∈ x_gw := x_gwt 1184 (by decide +kernel) (by decide +kernel)
theorem w_1185 : Cond.code ({ cls := "IndexDeskModel", name := "count", desc := "(I)I" } : Jvm.MethodName) prog_13_method_58_code (4 : Nat) (Option.some Jvm.ClassFile.FieldType.int) ∈ x_gw := x_gwt 1185 (by decide +kernel) (by decide +kernel)
theorem w_1186 : Cond.selects RX8 yX8_space yX8_space ∈ x_gw := x_gwt 1186 (by decide +kernel) (by decide +kernel)
theorem w_1187 : Cond.sameMethod "IndexDesk$Ordered" "IndexDesk$Ordered" "finds" "(LIndexDesk$Question;II)Z" ∈ x_gw := x_gwt 1187 (by decide +kernel) (by decide +kernel)
theorem w_1204 : Cond.sameMethod "[Ljava/lang/Object;" "java/lang/Object" "getClass" "()Ljava/lang/Class;" ∈ x_gw := x_gwt 1204 (by decide +kernel) (by decide +kernel)
theorem w_1205 : Cond.selects "[Ljava/lang/Object;" ⟨"java/lang/Object", "getClass", "()Ljava/lang/Class;"⟩ ⟨"java/lang/Object", "getClass", "()Ljava/lang/Class;"⟩ ∈ x_gw := x_gwt 1205 (by decide +kernel) (by decide +kernel)
theorem ws_0 : Cond.selects RX10 yX10_tableAt yX10_tableAt ∈ x_gw := x_gwp 0 (by decide +kernel) (by decide +kernel)
theorem ws_1 : Cond.selects RX9 yX9_allowsAt yX9_allowsAt ∈ x_gw := x_gwp 1 (by decide +kernel) (by decide +kernel)
theorem ws_2 : Cond.selects RX9 yX9_write yX9_write ∈ x_gw := x_gwp 2 (by decide +kernel) (by decide +kernel)
theorem ws_3 : Cond.selects RX9 yX9_isCell yX9_isCell ∈ x_gw := x_gwp 3 (by decide +kernel) (by decide +kernel)
theorem ws_4 : Cond.selects RX9 yX9_isFirstOfItsLike yX9_isFirstOfItsLike ∈ x_gw := x_gwp 4 (by decide +kernel) (by decide +kernel)
theorem ws_5 : Cond.selects RX9 yX9_areAlike yX9_areAlike ∈ x_gw := x_gwp 5 (by decide +kernel) (by decide +kernel)
theorem ws_6 : Cond.selects RX9 yX9_takeEnds yX9_takeEnds ∈ x_gw := x_gwp 6 (by decide +kernel) (by decide +kernel)
theorem ws_7 : Cond.selects RJx4a65c yJx4a65c_add_72be8 yJx4a65c_add_72be8 ∈ x_gw := x_gwp 7 (by decide +kernel) (by decide +kernel)
theorem ws_8 : Cond.selects RJx4a65c yJx4a65c_grow_d5877 yJx4a65c_grow_d5877 ∈ x_gw := x_gwp 8 (by decide +kernel) (by decide +kernel)
theorem ws_9 : Cond.selects RJx4a65c yJx4a65c_grow_92f84 yJx4a65c_grow_92f84 ∈ x_gw := x_gwp 9 (by decide +kernel) (by decide +kernel)
theorem ws_10 : Cond.selects RX10 yX10_questionAt yX10_questionAt ∈ x_gw := x_gwp 10 (by decide +kernel) (by decide +kernel)
theorem ws_11 : Cond.selects RX10 yX10_tableForAid yX10_tableForAid ∈ x_gw := x_gwp 11 (by decide +kernel) (by decide +kernel)
theorem ws_12 : Cond.selects RX10 yX10_enlist yX10_enlist ∈ x_gw := x_gwp 12 (by decide +kernel) (by decide +kernel)
theorem ws_13 : Cond.selects RX10 yX10_aidAt yX10_aidAt ∈ x_gw := x_gwp 13 (by decide +kernel) (by decide +kernel)
theorem ws_14 : Cond.selects RX7 yX7_weighNothing yX7_weighNothing ∈ x_gw := x_gwp 14 (by decide +kernel) (by decide +kernel)
theorem ws_15 : Cond.selects RX7 yX7_savedBy yX7_savedBy ∈ x_gw := x_gwp 15 (by decide +kernel) (by decide +kernel)
theorem ws_16 : Cond.selects RX7 yX7_settle yX7_settle ∈ x_gw := x_gwp 16 (by decide +kernel) (by decide +kernel)
theorem ws_17 : Cond.selects RX6 yX6_passes yX6_passes ∈ x_gw := x_gwp 17 (by decide +kernel) (by decide +kernel)
theorem ws_18 : Cond.selects RX10 yX10_isSet yX10_isSet ∈ x_gw := x_gwp 18 (by decide +kernel) (by decide +kernel)
theorem ws_19 : Cond.selects RX7 yX7_explore yX7_explore ∈ x_gw := x_gwp 19 (by decide +kernel) (by decide +kernel)
theorem ws_20 : Cond.selects RX7 yX7_keepIfBetter yX7_keepIfBetter ∈ x_gw := x_gwp 20 (by decide +kernel) (by decide +kernel)
theorem ws_21 : Cond.selects RX7 yX7_fits yX7_fits ∈ x_gw := x_gwp 21 (by decide +kernel) (by decide +kernel)
theorem ws_22 : Cond.selects RX7 yX7_mostSaving yX7_mostSaving ∈ x_gw := x_gwp 22 (by decide +kernel) (by decide +kernel)
theorem ws_23 : Cond.selects RX7 yX7_lower yX7_lower ∈ x_gw := x_gwp 23 (by decide +kernel) (by decide +kernel)
theorem ws_24 : Cond.selects RX10 yX10_tablesTold yX10_tablesTold ∈ x_gw := x_gwp 24 (by decide +kernel) (by decide +kernel)
theorem ws_25 : Cond.selects RX10 yX10_rowsInAll yX10_rowsInAll ∈ x_gw := x_gwp 25 (by decide +kernel) (by decide +kernel)
theorem ws_26 : Cond.selects RX11 yX11_isTable yX11_isTable ∈ x_gw := x_gwp 26 (by decide +kernel) (by decide +kernel)
theorem ws_27 : Cond.selects RX11 yX11_at yX11_at ∈ x_gw := x_gwp 27 (by decide +kernel) (by decide +kernel)
theorem ws_28 : Cond.selects RX11 yX11_pages yX11_pages ∈ x_gw := x_gwp 28 (by decide +kernel) (by decide +kernel)
theorem ws_29 : Cond.selects RX11 yX11_isColumn yX11_isColumn ∈ x_gw := x_gwp 29 (by decide +kernel) (by decide +kernel)
theorem ws_30 : Cond.selects RX11 yX11_isQuestion yX11_isQuestion ∈ x_gw := x_gwp 30 (by decide +kernel) (by decide +kernel)
theorem ws_31 : Cond.selects RX11 yX11_inTurn yX11_inTurn ∈ x_gw := x_gwp 31 (by decide +kernel) (by decide +kernel)
theorem ws_32 : Cond.selects RX11 yX11_aid yX11_aid ∈ x_gw := x_gwp 32 (by decide +kernel) (by decide +kernel)
theorem ws_33 : Cond.selects RX11 yX11_isAid yX11_isAid ∈ x_gw := x_gwp 33 (by decide +kernel) (by decide +kernel)
theorem ws_34 : Cond.selects RX11 yX11_isSet yX11_isSet ∈ x_gw := x_gwp 34 (by decide +kernel) (by decide +kernel)
theorem ws_35 : Cond.selects RX11 yX11_helps yX11_helps ∈ x_gw := x_gwp 35 (by decide +kernel) (by decide +kernel)
theorem ws_36 : Cond.selects RX11 yX11_tested yX11_tested ∈ x_gw := x_gwp 36 (by decide +kernel) (by decide +kernel)
theorem ws_37 : Cond.selects RX11 yX11_uses yX11_uses ∈ x_gw := x_gwp 37 (by decide +kernel) (by decide +kernel)
theorem ws_38 : Cond.selects RX11 yX11_costOf yX11_costOf ∈ x_gw := x_gwp 38 (by decide +kernel) (by decide +kernel)
theorem ws_39 : Cond.selects RX11 yX11_groups yX11_groups ∈ x_gw := x_gwp 39 (by decide +kernel) (by decide +kernel)
theorem ws_40 : Cond.selects RX11 yX11_matched yX11_matched ∈ x_gw := x_gwp 40 (by decide +kernel) (by decide +kernel)
theorem ws_41 : Cond.selects RX11 yX11_own yX11_own ∈ x_gw := x_gwp 41 (by decide +kernel) (by decide +kernel)
theorem ws_42 : Cond.selects RX11 yX11_passes yX11_passes ∈ x_gw := x_gwp 42 (by decide +kernel) (by decide +kernel)
theorem ws_43 : Cond.selects RX11 yX11_covers yX11_covers ∈ x_gw := x_gwp 43 (by decide +kernel) (by decide +kernel)
theorem ws_44 : Cond.selects RX11 yX11_planOf yX11_planOf ∈ x_gw := x_gwp 44 (by decide +kernel) (by decide +kernel)
theorem ws_45 : Cond.selects RX11 yX11_answers yX11_answers ∈ x_gw := x_gwp 45 (by decide +kernel) (by decide +kernel)
theorem ws_46 : Cond.selects RX11 yX11_passesNow yX11_passesNow ∈ x_gw := x_gwp 46 (by decide +kernel) (by decide +kernel)
theorem ws_47 : Cond.selects RX11 yX11_fetched yX11_fetched ∈ x_gw := x_gwp 47 (by decide +kernel) (by decide +kernel)
theorem ws_48 : Cond.selects RX11 yX11_alike yX11_alike ∈ x_gw := x_gwp 48 (by decide +kernel) (by decide +kernel)
theorem ws_49 : Cond.selects RX11 yX11_matchesNow yX11_matchesNow ∈ x_gw := x_gwp 49 (by decide +kernel) (by decide +kernel)
theorem ws_50 : Cond.selects RX11 yX11_totalOf yX11_totalOf ∈ x_gw := x_gwp 50 (by decide +kernel) (by decide +kernel)
theorem ws_51 : Cond.selects RX11 yX11_keeping yX11_keeping ∈ x_gw := x_gwp 51 (by decide +kernel) (by decide +kernel)
theorem ws_52 : Cond.selects RX11 yX11_roomOfSet yX11_roomOfSet ∈ x_gw := x_gwp 52 (by decide +kernel) (by decide +kernel)
theorem ws_53 : Cond.selects RX11 yX11_roomOf yX11_roomOf ∈ x_gw := x_gwp 53 (by decide +kernel) (by decide +kernel)
theorem ws_54 : Cond.selects RX11 yX11_works yX11_works ∈ x_gw := x_gwp 54 (by decide +kernel) (by decide +kernel)
theorem ws_55 : Cond.selects RX11 yX11_totalWorked yX11_totalWorked ∈ x_gw := x_gwp 55 (by decide +kernel) (by decide +kernel)
end
section
/-! the worlds of this claim: cells by tags; lo: where a tag lies; co: what it holds -/
abbrev x_G : Type := va_G × (Nat → ClassId)
abbrev x_L : Type := Nat → Nat
abbrev x_C : Type := Nat → Option va_E
def x_tys (G : x_G) : List (ClassId × FieldType) := [(G.2 0, .int), (G.2 1, .boolean), (G.2 2, .object "IndexDesk$Table"), (G.2 3, .object "java/lang/Object"), (G.2 4, .array .int)]
def x_nN : List (String × Nat × MethodName × String) := [(RX10, 27, yX7_init, RX10), (RX9, 42, yX10_isBetween, RX10), (RX9, 66, yX10_bit, RX10), (RX9, 91, yX10_isIn, RX10), (RX9, 60, yX10_dividedUp, RX10), (RX6, 32, yX10_isBetween, RX10), (RX6, 39, yX10_bit, RX10), (RX4, 9, yX10_bit, RX10), (RX2, 42, yX10_dividedUp, RX10), (RX4, 71, yX10_dividedUp, RX10), (RX8, 46, yX10_dividedUp, RX10), (RX7, 81, yX10_rivalsOf, RX10), (RX7, 97, yX10_isIn, RX10), (RX5, 44, yX10_isBetween, RX10), (RX7, 131, yX10_bit, RX10)]
def x_nC : List (String × String) := [(RX1, "IndexDesk$Aid"), (RX2, "IndexDesk$Aid"), (RX3, "IndexDesk$Aid"), (RX5, "IndexDesk$Aid"), (RX8, "IndexDesk$Aid"), (RX9, "java/lang/Object"), (RX10, "java/lang/Object"), (RJx4a65c, "java/lang/Object"), (RX7, "java/lang/Object"), (RX11, "java/lang/Object"), (RX6, "java/lang/Object"), (RX3, "java/lang/Object"), (RX2, "java/lang/Object"), (RX1, "java/lang/Object"), (RX5, "java/lang/Object"), (RX8, "java/lang/Object"), ("[LIndexDesk$Table;", "java/lang/Object"), ("[[I", "java/lang/Object"), ("[I", "java/lang/Object"), ("[Ljava/lang/Object;", "java/lang/Object"), ("[Z", "java/lang/Object")]
def x_nD : List MethodName := [⟨"IndexDesk$Aid", "space", "()I"⟩, ⟨"IndexDesk$Aid", "keeping", "()I"⟩, ⟨"IndexDesk$Aid", "helps", "(LIndexDesk$Question;)Z"⟩, ⟨"IndexDesk$Aid", "foretold", "(LIndexDesk$Question;)I"⟩, ⟨"IndexDesk$Aid", "fetched", "(LIndexDesk$Question;)I"⟩, ⟨"java/lang/Object", "getClass", "()Ljava/lang/Class;"⟩]
def x_K (G : x_G) (U : State) : Prop := va_K G.1 vwCl (x_tys G) U ∧ (∀ q ∈ x_nN, va_Nw (.methodLinkNest q.1 q.2.1 q.2.2.1 q.2.2.2) U) ∧ (∀ q ∈ x_nC, va_Nw (.castable q.1 q.2) U) ∧ ∀ q ∈ x_nD, va_Nw (.declares q) U
theorem x_K.warm {G : x_G} {s U : State} (hW : s.WarmedH U.vm) (h : x_K G s) : x_K G U := ⟨va_K.moved hW.alike h.1, fun q hq => (h.2.1 q hq).warmM hW, fun q hq => (h.2.2.1 q hq).warmC hW, fun q hq => (h.2.2.2 q hq).warmD hW⟩
theorem x_Nw.same {w : Cond} (hw : w.onTables = true) {u U : State} (h : u.vm = U.vm) (hZ : va_Nw w u) : va_Nw w U := va_Nw.same hw h hZ
theorem x_K.same {G : x_G} {s U : State} (e : s.vm = U.vm) (h : x_K G s) : x_K G U := ⟨va_K.moved (by rw [e]; exact Vm.Alike.refl U.vm) h.1, fun q hq => (h.2.1 q hq).same rfl e, fun q hq => (h.2.2.1 q hq).same rfl e, fun q hq => (h.2.2.2 q hq).same rfl e⟩
def x_R (G : x_G) (lo : x_L) (co : x_C) (H : Heap) : Prop := ∀ (t : Nat) (e : va_E), co t = some e → va_at G.1 vwCl (lo t, e) H
theorem x_R.P {G : x_G} {lo : x_L} {co : x_C} {H : Heap} (h : x_R G lo co H) {t : Nat} {e : va_E} (ht : co t = some e) : va_P G.1 vwCl [(lo t, e)] H := fun k q hq => by
  have hz : k < 1 := (List.getElem?_eq_some_iff.mp hq).1
  rw [show k = 0 by omega] at hq
  cases hq
  exact h t e ht
/-- a bool as an int -/
def bI (b : Bool) : Int32 := if b then 1 else 0
theorem bI_t : bI true = 1 := rfl
theorem bI_f : bI false = 0 := rfl
theorem bI_0 {b : Bool} : bI b = 0 ↔ b = false := by cases b <;> decide
theorem bI_nar (b : Bool) : narrow .boolean (.int (bI b)) = .int (bI b) := by cases b <;> rfl
abbrev x_rm (d : Nat) : Room := { frames := d, cells := 0, slots := 0, locals := 40 * d }
/-- a reader's contract: given the cells, from these arguments, this answer, nothing changed -/
def x_Qr (v : Option Value) : Array Value → State → Outcome → State → Prop := fun _ st o t => o = .returned v ∧ t.heap = st.heap
def x_Rd (l : Launch) (G : x_G) (lo : x_L) (co : x_C) (y : MethodName) (cc : ByteArray) (n : Nat) (r : Option FieldType) (d : Nat) (av : List Value) (v : Option Value) : Prop :=
  Met l y (Cond.code y cc n r :: x_gw) (x_rm d) (va_Pc av (fun U => x_R G lo co U.heap ∧ x_K G U)) (x_Qr v) 0 0 (fun _ => False)
theorem x_Rd.to {l : Launch} {G : x_G} {lo : x_L} {co : x_C} {y : MethodName} {cc : ByteArray} {n : Nat} {r : Option FieldType} {d : Nat} {av : List Value} {v v' : Option Value} (h : x_Rd l G lo co y cc n r d av v) (e : v = v') : x_Rd l G lo co y cc n r d av v' := e ▸ h
theorem x_good {y y' : MethodName} {cc cc' : ByteArray} {n n' : Nat} {r r' : Option FieldType} (h : Cond.code y' cc' n' r' ∈ x_gw) : GoodIn x_gw (Cond.code y' cc' n' r' :: x_gw) := fun w hw => by
  have hm : w ∈ x_gw := (List.mem_cons.mp hw).elim (fun e => by rw [e]; exact h) id
  exact ⟨hm, good_of_word (List.mem_filter.mp hm).2⟩
theorem x_goodw {w : Cond} (hm : w ∈ x_gw) : w ∈ x_gw ∧ ((w.onTables && w.keeps) = true ∨ ∃ ty, w = .arrayClass ty) := ⟨hm, good_of_word (List.mem_filter.mp hm).2⟩
theorem x_goodcons {w : Cond} {ws : List Cond} (hm : w ∈ x_gw) (h : GoodIn x_gw ws) : GoodIn x_gw (w :: ws) := fun q hq => (List.mem_cons.mp hq).elim (fun e => by rw [e]; exact x_goodw hm) (h q)
theorem x_enter {l : Launch} {G : x_G} {lo : x_L} {co : x_C} {y : MethodName} {cc : ByteArray} {n : Nat} {r : Option FieldType} {d : Nat} {av : List Value} {v : Option Value} (own : String) (ho : y.cls = own) (hy : plainName y.cls = true) (hn : (lg_sl av).length ≤ n)
    (body : ∀ (p : Program) (e : Env) (s : State) (m : MethodId) (below : List Frame) (meth : Method) (c : Code) (ls : Array Slot), CallFix p m c cc n s av.toArray x_gw own → x_K G s → x_R G lo co s.heap → meth.sig.returnType = r → meth.locks = false → lv_has ls n (lv_args 0 av) →
      W p l e (x_rm d) s m av.toArray below meth c s.heap [] 0 0 (MQ below (x_Qr v) av.toArray s 0 0 (fun _ => False)) (F0 m 0 ls [])) : x_Rd l G lo co y cc n r d av v := by
  refine Met.ofW (cc := cc) (maxL := n) (ret := r) hy rfl ?_
  intro p e s m args below meth c s₁ B hml hv
  obtain ⟨rfl, hR, hK⟩ := hv
  have hts := atoms_spec (ws := Cond.code y cc n r :: x_gw) B.pre
  have hl := lv_entry av (n := n) hn
  rw [lg_entry_eq]
  exact body p e s m below meth c _ ⟨B.exec, B.bytes, hml, by rw [← ho]; exact findClass_of_methodNamed B.named, fun w hw => hts w (List.mem_cons_of_mem _ hw)⟩ hK hR B.returns B.notSynchronized hl
section XW
variable {p : Program} {l : Launch} {e : Env} {R : Room} {s : State} {m : MethodId} {args : Array Value} {below : List Frame} {meth : Method} {c : Code} {H : Heap} {locs : List Loc} {cells slots : Nat} {Q : State → Prop}
variable {cc : ByteArray} {pc : Nat} {ls : Array Slot} {rest : List Value} {G : x_G} {lo : x_L} {co : x_C} {nL : Nat} {own : String}
/-- an answer -/
theorem x_iret {v : Option Value} {x : Int32} (cx : CallFix p m c cc nL s args x_gw own) (hr : meth.sig.returnType = some .int) (hlk : meth.locks = false) (hdg : decode cc pc = .ok (.ireturn, 1)) (hv : some (Value.int x) = v) : W p l e R s m args below meth c s.heap [] 0 0 (MQ below (x_Qr v) args s 0 0 (fun _ => False)) (F0 m pc ls [.int x]) :=
  W.iret cx.1 cx.2.1 hr (fun t ht _ => ⟨by rw [← hv], ht⟩) (fun q h => absurd h List.not_mem_nil) hdg hlk
theorem x_zret {v : Option Value} {x : Int32} (b : Bool) (cx : CallFix p m c cc nL s args x_gw own) (hr : meth.sig.returnType = some .boolean) (hlk : meth.locks = false) (hdg : decode cc pc = .ok (.ireturn, 1)) (hx : x = bI b) (hv : some (Value.int (bI b)) = v) : W p l e R s m args below meth c s.heap [] 0 0 (MQ below (x_Qr v) args s 0 0 (fun _ => False)) (F0 m pc ls [.int x]) := by
  subst hx
  exact W.zret cx.1 cx.2.1 hr (bI_nar b) (fun t ht _ => ⟨by rw [← hv], ht⟩) (fun q h => absurd h List.not_mem_nil) hdg hlk
theorem x_lret {v : Option Value} {x : Int64} (cx : CallFix p m c cc nL s args x_gw own) (hr : meth.sig.returnType = some .long) (hlk : meth.locks = false) (hdg : decode cc pc = .ok (.lreturn, 1)) (hv : some (Value.long x) = v) : W p l e R s m args below meth c s.heap [] 0 0 (MQ below (x_Qr v) args s 0 0 (fun _ => False)) (F0 m pc ls [.long x]) :=
  W.lret cx.1 cx.2.1 hr (fun t ht _ => ⟨by rw [← hv], ht⟩) (fun q h => absurd h List.not_mem_nil) hdg hlk
theorem x_aret {v : Option Value} {w : Value} {rt : String} (cx : CallFix p m c cc nL s args x_gw own) (hr : meth.sig.returnType = some (.object rt)) (hlk : meth.locks = false) (hw : w = .null ∨ ∃ a, w = .ref a) (hdg : decode cc pc = .ok (.areturn, 1)) (hv : some w = v) : W p l e R s m args below meth c s.heap [] 0 0 (MQ below (x_Qr v) args s 0 0 (fun _ => False)) (F0 m pc ls [w]) :=
  W.aret cx.1 cx.2.1 hr (Or.inl ⟨_, rfl⟩) hw (fun t ht _ => ⟨by rw [← hv], ht⟩) (fun q h => absurd h List.not_mem_nil) hdg hlk
theorem x_vret {v : Option Value} (cx : CallFix p m c cc nL s args x_gw own) (hr : meth.sig.returnType = none) (hlk : meth.locks = false) (hdg : decode cc pc = .ok (.return_, 1)) (hv : none = v) : W p l e R s m args below meth c s.heap [] 0 0 (MQ below (x_Qr v) args s 0 0 (fun _ => False)) (F0 m pc ls []) :=
  W.vret cx.1 cx.2.1 hr (fun t ht _ => ⟨by rw [← hv], ht⟩) (fun q h => absurd h List.not_mem_nil) hdg hlk
/-- branches on a bool -/
theorem x_if_eq {b : Bool} {off : Int} {tgt : Nat} (cx : CallFix p m c cc nL s args x_gw own) (hdg : decode cc pc = .ok (.ifCond .eq off, 3)) (ht : (pc : Int) + off = (tgt : Int))
    (kt : b = false → W p l e R s m args below meth c H locs cells slots Q (F0 m tgt ls rest)) (kf : b = true → W p l e R s m args below meth c H locs cells slots Q (F0 m (pc + 3) ls rest)) : W p l e R s m args below meth c H locs cells slots Q (F0 m pc ls (.int (bI b) :: rest)) :=
  lv_if_eq cx.1 cx.2.1 hdg ht (fun h => kt (bI_0.mp h)) (fun h => kf (by cases b with | true => rfl | false => exact absurd rfl h))
theorem x_if_ne {b : Bool} {off : Int} {tgt : Nat} (cx : CallFix p m c cc nL s args x_gw own) (hdg : decode cc pc = .ok (.ifCond .ne off, 3)) (ht : (pc : Int) + off = (tgt : Int))
    (kt : b = true → W p l e R s m args below meth c H locs cells slots Q (F0 m tgt ls rest)) (kf : b = false → W p l e R s m args below meth c H locs cells slots Q (F0 m (pc + 3) ls rest)) : W p l e R s m args below meth c H locs cells slots Q (F0 m pc ls (.int (bI b) :: rest)) :=
  lv_if_ne cx.1 cx.2.1 hdg ht (fun h => kt (by cases b with | true => rfl | false => exact absurd rfl h)) (fun h => kf (bI_0.mp h))
/-- field facts: the field at index, as own spells it, is the k-th of class ci -/
def x_F (own : String) (index ci k : Nat) : Prop := ∃ (C : String) (T : u_T) (N : Nat) (ref : String), vwCl[ci]? = some (C, T, N) ∧ k < N ∧ (∀ w ∈ u_ws C T N, w ∈ x_gw) ∧ Cond.fieldLink own index ref (T k).2.1 (T k).2.2.1 ∈ x_gw ∧ (ref = (T k).1 ∨ Cond.sameField ref (T k).1 (T k).2.1 (T k).2.2.1 ∈ x_gw)
theorem x_get {t ci k index : Nat} {fs : List Value} {v : Value} (cx : CallFix p m c cc nL s args x_gw own) (hk : x_K G s) (hw : x_R G lo co H) (ha : co t = some (.inr (ci, fs))) (hF : x_F own index ci k) (hv : fs[k]? = some v) (hdg : decode cc pc = .ok (.getfield index, 3))
    (kk : W p l e R s m args below meth c H locs cells slots Q (F0 m (pc + 3) ls (v :: rest))) : W p l e R s m args below meth c H locs cells slots Q (F0 m pc ls (.ref (lo t) :: rest)) := by
  obtain ⟨C, T, N, ref, h1, h2, h3, h4, h5⟩ := hF
  exact va_get cx.1 cx.2.1 cx.2.2.2.2 h3 cx.2.2.2.1 hk.1 (hw.P ha) 0 rfl h1 k h2 (cx.2.2.2.2 _ h4) (fun x hx => h5.elim (fun e => e ▸ hx) (fun h => u_same (cx.2.2.2.2 _ h) x hx)) hv hdg kk
theorem x_iald {t n : Nat} {f : Nat → Int32} {i : Int32} (cx : CallFix p m c cc nL s args x_gw own) (hk : x_K G s) (hw : x_R G lo co H) (ha : co t = some (.inl (G.2 0, n, .inl f))) (hin : vp_in i n) (hdg : decode cc pc = .ok (.iaload, 1))
    (kk : W p l e R s m args below meth c H locs cells slots Q (F0 m (pc + 1) ls (.int (f i.toNatClampNeg) :: rest))) : W p l e R s m args below meth c H locs cells slots Q (F0 m pc ls (.int i :: .ref (lo t) :: rest)) :=
  va_iald cx.1 cx.2.1 hk.1 (hw.P ha) 0 0 rfl rfl hin hdg kk
theorem x_zald {t n : Nat} {f : Nat → Int32} {i : Int32} (cx : CallFix p m c cc nL s args x_gw own) (hk : x_K G s) (hw : x_R G lo co H) (ha : co t = some (.inl (G.2 1, n, .inl f))) (hin : vp_in i n) (hdg : decode cc pc = .ok (.baload, 1))
    (kk : W p l e R s m args below meth c H locs cells slots Q (F0 m (pc + 1) ls (.int (f i.toNatClampNeg) :: rest))) : W p l e R s m args below meth c H locs cells slots Q (F0 m pc ls (.int i :: .ref (lo t) :: rest)) :=
  va_zald cx.1 cx.2.1 hk.1 (hw.P ha) 0 1 rfl rfl hin hdg kk
theorem x_aaldT {t n : Nat} {f : Nat → Option Nat} {i : Int32} (cx : CallFix p m c cc nL s args x_gw own) (hk : x_K G s) (hw : x_R G lo co H) (ha : co t = some (.inl (G.2 2, n, .inr (.inr (.inr (.inr f)))))) (hin : vp_in i n) (hdg : decode cc pc = .ok (.aaload, 1))
    (kk : W p l e R s m args below meth c H locs cells slots Q (F0 m (pc + 1) ls (va_rf (f i.toNatClampNeg) :: rest))) : W p l e R s m args below meth c H locs cells slots Q (F0 m pc ls (.int i :: .ref (lo t) :: rest)) :=
  va_aldq cx.1 cx.2.1 hk.1 (hw.P ha) 0 2 rfl rfl hin hdg kk
theorem x_aaldO {t n : Nat} {f : Nat → Option Nat} {i : Int32} (cx : CallFix p m c cc nL s args x_gw own) (hk : x_K G s) (hw : x_R G lo co H) (ha : co t = some (.inl (G.2 3, n, .inr (.inr (.inr (.inr f)))))) (hin : vp_in i n) (hdg : decode cc pc = .ok (.aaload, 1))
    (kk : W p l e R s m args below meth c H locs cells slots Q (F0 m (pc + 1) ls (va_rf (f i.toNatClampNeg) :: rest))) : W p l e R s m args below meth c H locs cells slots Q (F0 m pc ls (.int i :: .ref (lo t) :: rest)) :=
  va_aldq cx.1 cx.2.1 hk.1 (hw.P ha) 0 3 rfl rfl hin hdg kk
theorem x_alenI {t n : Nat} {f : Nat → Int32} (cx : CallFix p m c cc nL s args x_gw own) (hk : x_K G s) (hw : x_R G lo co H) (ha : co t = some (.inl (G.2 0, n, .inl f))) (hdg : decode cc pc = .ok (.arraylength, 1))
    (kk : W p l e R s m args below meth c H locs cells slots Q (F0 m (pc + 1) ls (.int (nI n) :: rest))) : W p l e R s m args below meth c H locs cells slots Q (F0 m pc ls (.ref (lo t) :: rest)) :=
  va_alen cx.1 cx.2.1 hk.1 (hw.P ha) 0 0 rfl rfl rfl hdg kk
/-- calls of readers -/
theorem x_cr {v : Option Value} {st0 : List Value} {a : Array Value} (hr : va_Run p l e R s m args below meth c H locs cells slots 0 0 (F0 m pc ls st0) rest (x_Qr v a) (fun _ => False))
    (kk : W p l e R s m args below meth c H locs cells slots Q (F0 m (pc + 3) ls (v.toList ++ rest))) : W p l e R s m args below meth c H locs cells slots Q (F0 m pc ls st0) := by
  intro T hT X
  obtain ⟨v', st₀, t, T', L, h0, X', hL, e1, e2, ⟨hv, hh⟩, st⟩ := hr T hT X
  cases hv
  obtain ⟨t2, a1, b1⟩ := kk T' (by rw [e1, hh, h0]) (Stand.forget X' (fun q h => (hL q h).elim))
  exact ⟨t2, st t2 a1, b1⟩
theorem x_blind {G : x_G} {lo : x_L} {co : x_C} {av : List Value} : FrameBlind (va_Pc av (fun U => x_R G lo co U.heap ∧ x_K G U)) := fun a U g mk h => ⟨h.1, h.2.1, x_K.same rfl h.2.2⟩
/-- what a static call of y at index needs -/
def x_S (own : String) (index : Nat) (y : MethodName) (cb : ByteArray) (n : Nat) (r : Option FieldType) (k : Nat) : Prop := Cond.methodLink own index y ∈ x_gw ∧ Cond.static y ∈ x_gw ∧ Cond.initialized y.cls ∈ x_gw ∧ Cond.code y cb n r ∈ x_gw ∧ (y.cls ≠ "java/lang/invoke/MethodHandle" ∧ y.cls ≠ "java/lang/invoke/VarHandle" ∧ (parseMethodDescriptor y.desc).map (fun d => d.parameters.length) = some k)
theorem x_rdS {y : MethodName} {cb : ByteArray} {n d index k : Nat} {r : Option FieldType} {av st : List Value} {v : Option Value} (cx : CallFix p m c cc nL s args x_gw own) (hk : x_K G s) (hw : x_R G lo co H) (hS : x_S own index y cb n r k) (hc : x_Rd l G lo co y cb n r d av v)
    (hl : ls.size = nL) (hn : av.length = k) (hst : st = av.reverse ++ rest) (hW : (rest.map fun v => v.category).sum ≤ 8) (hR : d + 1 ≤ R.frames ∧ 8 + (n + 11) + 40 * d ≤ R.locals) (hf : cells ≤ R.cells ∧ slots ≤ R.slots) (hdg : decode cc pc = .ok (.invokestatic index, 3))
    (kk : W p l e R s m args below meth c H locs cells slots Q (F0 m (pc + 3) ls (v.toList ++ rest))) : W p l e R s m args below meth c H locs cells slots Q (F0 m pc ls st) :=
  x_cr (va_runS (As := av) (rest := rest) cx hc (va_cwS k cx.2.2.2.2 (x_goodcons hS.1 (x_goodcons hS.2.1 (x_goodcons hS.2.2.1 (x_good (y := y) (cc := cb) (n := n) (r := r) hS.2.2.2.1)))) rfl rfl rfl hS.2.2.2.2 hR) ⟨x_blind, fun U hU hWm => ⟨rfl, by rw [hU]; exact hw, hk.warm hWm⟩⟩ rfl hn hl hst (by simpa [F0, JFrame.monitorRoom] using hW) hdg hf) kk
/-- what a virtual call of y at index on an object of class ci needs -/
def x_V (own : String) (index ci : Nat) (y : MethodName) (cb : ByteArray) (n : Nat) (r : Option FieldType) (k : Nat) : Prop := ∃ (C : String) (T : u_T) (N : Nat), vwCl[ci]? = some (C, T, N) ∧ Cond.methodLink own index y ∈ x_gw ∧ Cond.instanceMethod y ∈ x_gw ∧ Cond.selects C y y ∈ x_gw ∧ Cond.initialized C ∈ x_gw ∧ Cond.code y cb n r ∈ x_gw ∧ (y.cls = C ∧ y.cls ≠ "java/lang/invoke/MethodHandle" ∧ y.cls ≠ "java/lang/invoke/VarHandle" ∧ (parseMethodDescriptor y.desc).map (fun d => d.parameters.length) = some k)
theorem x_rdV {y : MethodName} {cb : ByteArray} {n d index k ci t : Nat} {r : Option FieldType} {av st fs : List Value} {v : Option Value} (cx : CallFix p m c cc nL s args x_gw own) (hk : x_K G s) (hw : x_R G lo co H) (ha : co t = some (.inr (ci, fs))) (hS : x_V own index ci y cb n r k) (hc : x_Rd l G lo co y cb n r d (.ref (lo t) :: av) v)
    (hl : ls.size = nL) (hn : av.length = k) (hst : st = av.reverse ++ .ref (lo t) :: rest) (hW : (rest.map fun v => v.category).sum ≤ 8) (hR : d + 1 ≤ R.frames ∧ 8 + (n + 11) + 40 * d ≤ R.locals) (hf : cells ≤ R.cells ∧ slots ≤ R.slots) (hdg : decode cc pc = .ok (.invokevirtual index, 3))
    (kk : W p l e R s m args below meth c H locs cells slots Q (F0 m (pc + 3) ls (v.toList ++ rest))) : W p l e R s m args below meth c H locs cells slots Q (F0 m pc ls st) := by
  obtain ⟨C, T, N, h0, h1, h2, h3, h4, h5, h6⟩ := hS
  exact x_cr (va_runV (As := av) (rest := rest) cx hc (cwV k cx.2.2.2.2 (x_goodcons h1 (x_goodcons h2 (x_goodcons h3 (x_goodcons h4 (x_good (y := y) (cc := cb) (n := n) (r := r) h5))))) rfl rfl rfl h6 hR) ⟨x_blind, va_recv hk.1 (hw.P ha) h0 (q0 := 0) rfl, fun U hU hWm => ⟨rfl, by rw [hU]; exact hw, hk.warm hWm⟩⟩ rfl hn hl hst (by simpa [F0, JFrame.monitorRoom] using hW) hdg hf) kk
/-- a private static of a nest mate -/
def x_SN (own : String) (index : Nat) (y : MethodName) (cb : ByteArray) (n : Nat) (r : Option FieldType) (k : Nat) : Prop := ∃ host : String, (own, index, y, host) ∈ x_nN ∧ Cond.static y ∈ x_gw ∧ Cond.initialized y.cls ∈ x_gw ∧ Cond.code y cb n r ∈ x_gw ∧ (y.cls ≠ "java/lang/invoke/MethodHandle" ∧ y.cls ≠ "java/lang/invoke/VarHandle" ∧ (parseMethodDescriptor y.desc).map (fun d => d.parameters.length) = some k)
theorem x_rdSN {y : MethodName} {cb : ByteArray} {n d index k : Nat} {r : Option FieldType} {av st : List Value} {v : Option Value} (cx : CallFix p m c cc nL s args x_gw own) (hk : x_K G s) (hw : x_R G lo co H) (hS : x_SN own index y cb n r k) (hc : x_Rd l G lo co y cb n r d av v)
    (hl : ls.size = nL) (hn : av.length = k) (hst : st = av.reverse ++ rest) (hW : (rest.map fun v => v.category).sum ≤ 8) (hR : d + 1 ≤ R.frames ∧ 8 + (n + 11) + 40 * d ≤ R.locals) (hf : cells ≤ R.cells ∧ slots ≤ R.slots) (hdg : decode cc pc = .ok (.invokestatic index, 3))
    (kk : W p l e R s m args below meth c H locs cells slots Q (F0 m (pc + 3) ls (v.toList ++ rest))) : W p l e R s m args below meth c H locs cells slots Q (F0 m pc ls st) := by
  obtain ⟨host, h1, h2, h3, h4, h5⟩ := hS
  exact x_cr (va_runSN (As := av) (rest := rest) cx hc ⟨va_cnB k cx.2.2.2.2 (x_good (y := y) (cc := cb) (n := n) (r := r) h4) rfl rfl rfl (hk.2.1 _ h1) (cx.2.2.2.2 _ h3) h5 hR, cx.2.2.2.2 _ h2, trivial⟩ ⟨x_blind, fun U hU hWm => ⟨rfl, by rw [hU]; exact hw, hk.warm hWm⟩⟩ rfl hn hl hst (by simpa [F0, JFrame.monitorRoom] using hW) hdg hf) kk
/-- a call that names x, of class owner; the receiver's class ci selects y. x is y itself (U), another with code (O), abstract (A) -/
def x_U (own : String) (index ci : Nat) (owner : String) (x y : MethodName) (cb : ByteArray) (n : Nat) (r : Option FieldType) (k : Nat) : Prop := ∃ (C : String) (T : u_T) (N : Nat), vwCl[ci]? = some (C, T, N) ∧ Cond.methodLink own index x ∈ x_gw ∧ Cond.sameMethod x.cls owner x.name x.desc ∈ x_gw ∧ Cond.selects C x y ∈ x_gw ∧ Cond.instanceMethod y ∈ x_gw ∧ Cond.initialized y.cls ∈ x_gw ∧ Cond.code y cb n r ∈ x_gw ∧
  (y = ⟨owner, x.name, x.desc⟩ ∨ (Cond.instanceMethod ⟨owner, x.name, x.desc⟩ ∈ x_gw ∧ ∃ (b0 : ByteArray) (m0 : Nat) (r0 : Option FieldType), Cond.code ⟨owner, x.name, x.desc⟩ b0 m0 r0 ∈ x_gw) ∨ (⟨owner, x.name, x.desc⟩ : MethodName) ∈ x_nD) ∧ (owner ≠ "java/lang/invoke/MethodHandle" ∧ owner ≠ "java/lang/invoke/VarHandle" ∧ (parseMethodDescriptor x.desc).map (fun d => d.parameters.length) = some k)
theorem x_rdU {owner : String} {x y : MethodName} {cb : ByteArray} {n d index k ci t : Nat} {r : Option FieldType} {av st fs : List Value} {v : Option Value} (cx : CallFix p m c cc nL s args x_gw own) (hk : x_K G s) (hw : x_R G lo co H) (ha : co t = some (.inr (ci, fs))) (hS : x_U own index ci owner x y cb n r k) (hc : x_Rd l G lo co y cb n r d (.ref (lo t) :: av) v)
    (hl : ls.size = nL) (hn : av.length = k) (hst : st = av.reverse ++ .ref (lo t) :: rest) (hW : (rest.map fun v => v.category).sum ≤ 8) (hR : d + 1 ≤ R.frames ∧ 8 + (n + 11) + 40 * d ≤ R.locals) (hf : cells ≤ R.cells ∧ slots ≤ R.slots) (hdg : decode cc pc = .ok (.invokevirtual index, 3))
    (kk : W p l e R s m args below meth c H locs cells slots Q (F0 m (pc + 3) ls (v.toList ++ rest))) : W p l e R s m args below meth c H locs cells slots Q (F0 m pc ls st) := by
  obtain ⟨C, T, N, h0, h1, h2, h3, h4, h5, h6, h7, h8⟩ := hS
  have hg : GoodIn x_gw (va_wsU own index C owner x y (Cond.code y cb n r :: x_gw)) := x_goodcons h1 (x_goodcons h2 (x_goodcons h3 (x_goodcons h4 (x_goodcons h5 (x_good (y := y) (cc := cb) (n := n) (r := r) h6)))))
  have cw : va_CU R s args own C owner index x y cb n r (Cond.code y cb n r :: x_gw) (x_rm d) 0 0 k := by
    rcases h7 with e | ⟨e, b0, m0, r0, e2⟩ | e
    · exact va_cwU k cx.2.2.2.2 hg rfl rfl rfl e h8 hR
    · exact va_cwO k cx.2.2.2.2 (x_goodcons h1 (x_goodcons h2 (x_goodcons e (x_goodcons h3 (x_goodcons h4 (x_goodcons h5 (x_good (y := y) (cc := cb) (n := n) (r := r) h6))))))) rfl rfl rfl e2 h8 hR
    · exact va_cwA k cx.2.2.2.2 hg rfl rfl rfl (hk.2.2.2 _ e) h8 hR
  exact x_cr (va_runU (As := av) (rest := rest) cx hc cw ⟨x_blind, va_recv hk.1 (hw.P ha) h0 (q0 := 0) rfl, fun U hU hWm => ⟨rfl, by rw [hU]; exact hw, hk.warm hWm⟩⟩ rfl hn hl hst (by simpa [F0, JFrame.monitorRoom] using hW) hdg hf) kk
end XW
end
section
theorem ui_0 : ∀ w ∈ u_ws RJx4a65c TJx4a65c 3, w ∈ x_gw := by decide +kernel
theorem ui_1 : ∀ w ∈ u_ws RX1 TX1 5, w ∈ x_gw := by decide +kernel
theorem ui_2 : ∀ w ∈ u_ws RX2 TX2 6, w ∈ x_gw := by decide +kernel
theorem ui_3 : ∀ w ∈ u_ws RX3 TX3 5, w ∈ x_gw := by decide +kernel
theorem ui_4 : ∀ w ∈ u_ws RX5 TX5 8, w ∈ x_gw := by decide +kernel
theorem ui_5 : ∀ w ∈ u_ws RX6 TX6 7, w ∈ x_gw := by decide +kernel
theorem ui_6 : ∀ w ∈ u_ws RX7 TX7 10, w ∈ x_gw := by decide +kernel
theorem ui_7 : ∀ w ∈ u_ws RX8 TX8 5, w ∈ x_gw := by decide +kernel
theorem ui_8 : ∀ w ∈ u_ws RX9 TX9 10, w ∈ x_gw := by decide +kernel
theorem ui_9 : ∀ w ∈ u_ws RX10 TX10 4, w ∈ x_gw := by decide +kernel
theorem ui_10 : ∀ w ∈ u_ws RX11 TX11 29, w ∈ x_gw := by decide +kernel
theorem f_RX0_7_1 : x_F RX0 7 1 2 := ⟨_, _, _, "IndexDesk$Aid", rfl, by decide, ui_1, w_433, Or.inl rfl⟩
theorem f_RX0_7_2 : x_F RX0 7 2 2 := ⟨_, _, _, "IndexDesk$Aid", rfl, by decide, ui_2, w_433, Or.inl rfl⟩
theorem f_RX0_7_3 : x_F RX0 7 3 2 := ⟨_, _, _, "IndexDesk$Aid", rfl, by decide, ui_3, w_433, Or.inl rfl⟩
theorem f_RX0_7_4 : x_F RX0 7 4 2 := ⟨_, _, _, "IndexDesk$Aid", rfl, by decide, ui_4, w_433, Or.inl rfl⟩
theorem f_RX0_7_7 : x_F RX0 7 7 0 := ⟨_, _, _, "IndexDesk$Aid", rfl, by decide, ui_7, w_433, Or.inl rfl⟩
theorem f_RX0_13_1 : x_F RX0 13 1 3 := ⟨_, _, _, "IndexDesk$Aid", rfl, by decide, ui_1, w_435, Or.inl rfl⟩
theorem f_RX0_13_2 : x_F RX0 13 2 3 := ⟨_, _, _, "IndexDesk$Aid", rfl, by decide, ui_2, w_435, Or.inl rfl⟩
theorem f_RX0_13_3 : x_F RX0 13 3 3 := ⟨_, _, _, "IndexDesk$Aid", rfl, by decide, ui_3, w_435, Or.inl rfl⟩
theorem f_RX0_13_4 : x_F RX0 13 4 3 := ⟨_, _, _, "IndexDesk$Aid", rfl, by decide, ui_4, w_435, Or.inl rfl⟩
theorem f_RX0_13_7 : x_F RX0 13 7 1 := ⟨_, _, _, "IndexDesk$Aid", rfl, by decide, ui_7, w_435, Or.inl rfl⟩
theorem f_RX1_9_1 : x_F RX1 9 1 3 := ⟨_, _, _, "IndexDesk$Cluster", rfl, by decide, ui_1, w_439, Or.inr w_440⟩
theorem f_RX1_15_8 : x_F RX1 15 8 2 := ⟨_, _, _, "IndexDesk$Table", rfl, by decide, ui_8, w_128, Or.inl rfl⟩
theorem f_RX2_9_2 : x_F RX2 9 2 0 := ⟨_, _, _, "IndexDesk$Covering", rfl, by decide, ui_2, w_429, Or.inr w_430⟩
theorem f_RX2_15_2 : x_F RX2 15 2 5 := ⟨_, _, _, "IndexDesk$Covering", rfl, by decide, ui_2, w_470, Or.inl rfl⟩
theorem cv_RX2_18_5 : x_V RX2 18 5 yX6_touched cX6_touched 1 (some .int) 0 := ⟨_, _, _, rfl, w_686, w_687, w_688, w_9, w_689, by decide +kernel⟩
theorem cs_RX2_24 : x_S RX2 24 yJ6_bitCount_0f7a4 cJ6_bitCount_0f7a4 1 (some .int) 1 := ⟨w_572, w_521, w_21, w_522, by decide +kernel⟩
theorem f_RX2_30_2 : x_F RX2 30 2 3 := ⟨_, _, _, "IndexDesk$Covering", rfl, by decide, ui_2, w_441, Or.inr w_442⟩
theorem f_RX2_34_8 : x_F RX2 34 8 5 := ⟨_, _, _, "IndexDesk$Table", rfl, by decide, ui_8, w_139, Or.inl rfl⟩
theorem f_RX2_39_8 : x_F RX2 39 8 2 := ⟨_, _, _, "IndexDesk$Table", rfl, by decide, ui_8, w_129, Or.inl rfl⟩
theorem cn_RX2_42 : x_SN RX2 42 yX10_dividedUp cX10_dividedUp 2 (some .int) 2 := ⟨RX10, by decide +kernel, w_258, w_1, w_259, by decide +kernel⟩
theorem cn_RX4_9 : x_SN RX4 9 yX10_bit cX10_bit 1 (some .int) 1 := ⟨RX10, by decide +kernel, w_222, w_1, w_223, by decide +kernel⟩
theorem f_RX4_13_1 : x_F RX4 13 1 0 := ⟨_, _, _, "IndexDesk$Ordered", rfl, by decide, ui_1, w_431, Or.inl rfl⟩
theorem f_RX4_13_2 : x_F RX4 13 2 0 := ⟨_, _, _, "IndexDesk$Ordered", rfl, by decide, ui_2, w_431, Or.inl rfl⟩
theorem f_RX4_13_3 : x_F RX4 13 3 0 := ⟨_, _, _, "IndexDesk$Ordered", rfl, by decide, ui_3, w_431, Or.inl rfl⟩
theorem f_RX4_13_4 : x_F RX4 13 4 0 := ⟨_, _, _, "IndexDesk$Ordered", rfl, by decide, ui_4, w_431, Or.inl rfl⟩
theorem f_RX4_19_1 : x_F RX4 19 1 1 := ⟨_, _, _, "IndexDesk$Ordered", rfl, by decide, ui_1, w_432, Or.inl rfl⟩
theorem f_RX4_19_2 : x_F RX4 19 2 1 := ⟨_, _, _, "IndexDesk$Ordered", rfl, by decide, ui_2, w_432, Or.inl rfl⟩
theorem f_RX4_19_3 : x_F RX4 19 3 1 := ⟨_, _, _, "IndexDesk$Ordered", rfl, by decide, ui_3, w_432, Or.inl rfl⟩
theorem f_RX4_19_4 : x_F RX4 19 4 1 := ⟨_, _, _, "IndexDesk$Ordered", rfl, by decide, ui_4, w_432, Or.inl rfl⟩
theorem cv_RX4_23_5 : x_V RX4 23 5 yX6_testsAlike cX6_testsAlike 2 (some .boolean) 1 := ⟨_, _, _, rfl, w_645, w_646, w_647, w_9, w_648, by decide +kernel⟩
theorem cv_RX4_29_5 : x_V RX4 29 5 yX6_tests cX6_tests 2 (some .boolean) 1 := ⟨_, _, _, rfl, w_653, w_650, w_651, w_9, w_652, by decide +kernel⟩
theorem cu_RX4_32_1 : x_U RX4 32 1 "IndexDesk$Ordered" yX4_usedBy yX4_usedBy cX4_usedBy 3 (some .int) 1 := ⟨_, _, _, rfl, w_637, w_639, w_640, w_638, w_16, w_644, Or.inl rfl, by decide +kernel⟩
theorem cu_RX4_32_2 : x_U RX4 32 2 "IndexDesk$Ordered" yX4_usedBy yX4_usedBy cX4_usedBy 3 (some .int) 1 := ⟨_, _, _, rfl, w_637, w_639, w_641, w_638, w_16, w_644, Or.inl rfl, by decide +kernel⟩
theorem cu_RX4_32_3 : x_U RX4 32 3 "IndexDesk$Ordered" yX4_usedBy yX4_usedBy cX4_usedBy 3 (some .int) 1 := ⟨_, _, _, rfl, w_637, w_639, w_642, w_638, w_16, w_644, Or.inl rfl, by decide +kernel⟩
theorem cu_RX4_32_4 : x_U RX4 32 4 "IndexDesk$Ordered" yX4_usedBy yX4_usedBy cX4_usedBy 3 (some .int) 1 := ⟨_, _, _, rfl, w_637, w_639, w_643, w_638, w_16, w_644, Or.inl rfl, by decide +kernel⟩
theorem f_RX4_36_1 : x_F RX4 36 1 3 := ⟨_, _, _, "IndexDesk$Ordered", rfl, by decide, ui_1, w_443, Or.inr w_444⟩
theorem f_RX4_36_2 : x_F RX4 36 2 3 := ⟨_, _, _, "IndexDesk$Ordered", rfl, by decide, ui_2, w_443, Or.inr w_444⟩
theorem f_RX4_36_3 : x_F RX4 36 3 3 := ⟨_, _, _, "IndexDesk$Ordered", rfl, by decide, ui_3, w_443, Or.inr w_444⟩
theorem f_RX4_36_4 : x_F RX4 36 4 3 := ⟨_, _, _, "IndexDesk$Ordered", rfl, by decide, ui_4, w_443, Or.inr w_444⟩
theorem f_RX4_40_8 : x_F RX4 40 8 5 := ⟨_, _, _, "IndexDesk$Table", rfl, by decide, ui_8, w_140, Or.inl rfl⟩
theorem f_RX4_45_8 : x_F RX4 45 8 2 := ⟨_, _, _, "IndexDesk$Table", rfl, by decide, ui_8, w_131, Or.inl rfl⟩
theorem cu_RX4_48_1 : x_U RX4 48 1 "IndexDesk$Ordered" yX4_foretoldRows yX4_foretoldRows cX4_foretoldRows 1 (some .int) 0 := ⟨_, _, _, rfl, w_577, w_579, w_580, w_578, w_16, w_590, Or.inl rfl, by decide +kernel⟩
theorem cu_RX4_48_2 : x_U RX4 48 2 "IndexDesk$Ordered" yX4_foretoldRows yX4_foretoldRows cX4_foretoldRows 1 (some .int) 0 := ⟨_, _, _, rfl, w_577, w_579, w_581, w_578, w_16, w_590, Or.inl rfl, by decide +kernel⟩
theorem cu_RX4_48_3 : x_U RX4 48 3 "IndexDesk$Ordered" yX4_foretoldRows yX4_foretoldRows cX4_foretoldRows 1 (some .int) 0 := ⟨_, _, _, rfl, w_577, w_579, w_582, w_578, w_16, w_590, Or.inl rfl, by decide +kernel⟩
theorem cu_RX4_48_4 : x_U RX4 48 4 "IndexDesk$Ordered" yX4_foretoldRows yX5_foretoldRows cX5_foretoldRows 1 (some .int) 0 := ⟨_, _, _, rfl, w_577, w_579, w_583, w_584, w_20, w_585, Or.inr (Or.inl ⟨w_578, _, _, _, w_590⟩), by decide +kernel⟩
theorem cv_RX4_52_5 : x_V RX4 52 5 yX6_foretoldPassing cX6_foretoldPassing 3 (some .int) 2 := ⟨_, _, _, rfl, w_672, w_673, w_674, w_9, w_675, by decide +kernel⟩
theorem cu_RX4_56_1 : x_U RX4 56 1 "IndexDesk$Ordered" yX4_mustFetch yX1_mustFetch cX1_mustFetch 2 (some .boolean) 1 := ⟨_, _, _, rfl, w_677, w_679, w_680, w_681, w_19, w_682, Or.inr (Or.inl ⟨w_678, _, _, _, w_692⟩), by decide +kernel⟩
theorem cu_RX4_56_2 : x_U RX4 56 2 "IndexDesk$Ordered" yX4_mustFetch yX2_mustFetch cX2_mustFetch 2 (some .boolean) 1 := ⟨_, _, _, rfl, w_677, w_679, w_683, w_684, w_18, w_685, Or.inr (Or.inl ⟨w_678, _, _, _, w_692⟩), by decide +kernel⟩
theorem cu_RX4_56_3 : x_U RX4 56 3 "IndexDesk$Ordered" yX4_mustFetch yX4_mustFetch cX4_mustFetch 2 (some .boolean) 1 := ⟨_, _, _, rfl, w_677, w_679, w_690, w_678, w_16, w_692, Or.inl rfl, by decide +kernel⟩
theorem cu_RX4_56_4 : x_U RX4 56 4 "IndexDesk$Ordered" yX4_mustFetch yX4_mustFetch cX4_mustFetch 2 (some .boolean) 1 := ⟨_, _, _, rfl, w_677, w_679, w_691, w_678, w_16, w_692, Or.inl rfl, by decide +kernel⟩
theorem cv_RX4_60_8 : x_V RX4 60 8 yX9_countedPages cX9_countedPages 1 (some .int) 0 := ⟨_, _, _, rfl, w_693, w_254, w_255, w_7, w_256, by decide +kernel⟩
theorem cs_RX4_63 : x_S RX4 63 yJ9_min_7cf53 cJ9_min_7cf53 2 (some .int) 2 := ⟨w_694, w_244, w_8, w_245, by decide +kernel⟩
theorem cu_RX4_68_1 : x_U RX4 68 1 "IndexDesk$Ordered" yX4_entriesOnPage yX1_entriesOnPage cX1_entriesOnPage 1 (some .int) 0 := ⟨_, _, _, rfl, w_695, w_697, w_698, w_699, w_19, w_700, Or.inr (Or.inl ⟨w_696, _, _, _, w_704⟩), by decide +kernel⟩
theorem cu_RX4_68_2 : x_U RX4 68 2 "IndexDesk$Ordered" yX4_entriesOnPage yX4_entriesOnPage cX4_entriesOnPage 1 (some .int) 0 := ⟨_, _, _, rfl, w_695, w_697, w_701, w_696, w_16, w_704, Or.inl rfl, by decide +kernel⟩
theorem cu_RX4_68_3 : x_U RX4 68 3 "IndexDesk$Ordered" yX4_entriesOnPage yX4_entriesOnPage cX4_entriesOnPage 1 (some .int) 0 := ⟨_, _, _, rfl, w_695, w_697, w_702, w_696, w_16, w_704, Or.inl rfl, by decide +kernel⟩
theorem cu_RX4_68_4 : x_U RX4 68 4 "IndexDesk$Ordered" yX4_entriesOnPage yX4_entriesOnPage cX4_entriesOnPage 1 (some .int) 0 := ⟨_, _, _, rfl, w_695, w_697, w_703, w_696, w_16, w_704, Or.inl rfl, by decide +kernel⟩
theorem cn_RX4_71 : x_SN RX4 71 yX10_dividedUp cX10_dividedUp 2 (some .int) 2 := ⟨RX10, by decide +kernel, w_258, w_1, w_259, by decide +kernel⟩
theorem f_RX4_74_8 : x_F RX4 74 8 3 := ⟨_, _, _, "IndexDesk$Table", rfl, by decide, ui_8, w_135, Or.inl rfl⟩
theorem cu_RX4_77_1 : x_U RX4 77 1 "IndexDesk$Ordered" yX4_holds yX4_holds cX4_holds 2 (some .boolean) 1 := ⟨_, _, _, rfl, w_774, w_776, w_777, w_775, w_16, w_785, Or.inl rfl, by decide +kernel⟩
theorem cu_RX4_77_2 : x_U RX4 77 2 "IndexDesk$Ordered" yX4_holds yX4_holds cX4_holds 2 (some .boolean) 1 := ⟨_, _, _, rfl, w_774, w_776, w_778, w_775, w_16, w_785, Or.inl rfl, by decide +kernel⟩
theorem cu_RX4_77_3 : x_U RX4 77 3 "IndexDesk$Ordered" yX4_holds yX4_holds cX4_holds 2 (some .boolean) 1 := ⟨_, _, _, rfl, w_774, w_776, w_779, w_775, w_16, w_785, Or.inl rfl, by decide +kernel⟩
theorem cu_RX4_77_4 : x_U RX4 77 4 "IndexDesk$Ordered" yX4_holds yX5_holds cX5_holds 2 (some .boolean) 1 := ⟨_, _, _, rfl, w_774, w_776, w_780, w_781, w_20, w_782, Or.inr (Or.inl ⟨w_775, _, _, _, w_785⟩), by decide +kernel⟩
theorem cv_RX4_84_8 : x_V RX4 84 8 yX9_pageOf cX9_pageOf 2 (some .int) 1 := ⟨_, _, _, rfl, w_791, w_792, w_793, w_7, w_794, by decide +kernel⟩
theorem cv_RX4_87_5 : x_V RX4 87 5 yX6_passesAt cX6_passesAt 3 (some .boolean) 2 := ⟨_, _, _, rfl, w_790, w_754, w_755, w_9, w_756, by decide +kernel⟩
theorem f_RX5_9_4 : x_F RX5 9 4 5 := ⟨_, _, _, "IndexDesk$Part", rfl, by decide, ui_4, w_501, Or.inl rfl⟩
theorem f_RX5_15_4 : x_F RX5 15 4 6 := ⟨_, _, _, "IndexDesk$Part", rfl, by decide, ui_4, w_502, Or.inl rfl⟩
theorem f_RX5_18_4 : x_F RX5 18 4 7 := ⟨_, _, _, "IndexDesk$Part", rfl, by decide, ui_4, w_503, Or.inl rfl⟩
theorem cv_RX5_21_5 : x_V RX5 21 5 yX6_testsWithin cX6_testsWithin 4 (some .boolean) 3 := ⟨_, _, _, rfl, w_659, w_660, w_661, w_9, w_662, by decide +kernel⟩
theorem f_RX5_27_4 : x_F RX5 27 4 3 := ⟨_, _, _, "IndexDesk$Part", rfl, by decide, ui_4, w_437, Or.inr w_438⟩
theorem f_RX5_31_8 : x_F RX5 31 8 5 := ⟨_, _, _, "IndexDesk$Table", rfl, by decide, ui_8, w_138, Or.inl rfl⟩
theorem cv_RX5_36_8 : x_V RX5 36 8 yX9_foretoldPassing cX9_foretoldPassing 6 (some .int) 4 := ⟨_, _, _, rfl, w_586, w_587, w_588, w_7, w_589, by decide +kernel⟩
theorem cv_RX5_40_8 : x_V RX5 40 8 yX9_value cX9_value 3 (some .int) 2 := ⟨_, _, _, rfl, w_783, w_210, w_211, w_7, w_212, by decide +kernel⟩
theorem cn_RX5_44 : x_SN RX5 44 yX10_isBetween cX10_isBetween 3 (some .boolean) 3 := ⟨RX10, by decide +kernel, w_117, w_1, w_118, by decide +kernel⟩
theorem f_RX6_9_5 : x_F RX6 9 5 5 := ⟨_, _, _, "IndexDesk$Question", rfl, by decide, ui_5, w_301, Or.inl rfl⟩
theorem f_RX6_15_5 : x_F RX6 15 5 6 := ⟨_, _, _, "IndexDesk$Question", rfl, by decide, ui_5, w_302, Or.inl rfl⟩
theorem f_RX6_18_5 : x_F RX6 18 5 0 := ⟨_, _, _, "IndexDesk$Question", rfl, by decide, ui_5, w_290, Or.inl rfl⟩
theorem f_RX6_22_5 : x_F RX6 22 5 1 := ⟨_, _, _, "IndexDesk$Question", rfl, by decide, ui_5, w_293, Or.inl rfl⟩
theorem f_RX6_26_5 : x_F RX6 26 5 2 := ⟨_, _, _, "IndexDesk$Question", rfl, by decide, ui_5, w_295, Or.inl rfl⟩
theorem f_RX6_29_5 : x_F RX6 29 5 3 := ⟨_, _, _, "IndexDesk$Question", rfl, by decide, ui_5, w_297, Or.inl rfl⟩
theorem cn_RX6_32 : x_SN RX6 32 yX10_isBetween cX10_isBetween 3 (some .boolean) 3 := ⟨RX10, by decide +kernel, w_117, w_1, w_118, by decide +kernel⟩
theorem f_RX6_36_5 : x_F RX6 36 5 4 := ⟨_, _, _, "IndexDesk$Question", rfl, by decide, ui_5, w_299, Or.inl rfl⟩
theorem cn_RX6_39 : x_SN RX6 39 yX10_bit cX10_bit 1 (some .int) 1 := ⟨RX10, by decide +kernel, w_222, w_1, w_223, by decide +kernel⟩
theorem cv_RX6_43_5 : x_V RX6 43 5 yX6_tests cX6_tests 2 (some .boolean) 1 := ⟨_, _, _, rfl, w_649, w_650, w_651, w_9, w_652, by decide +kernel⟩
theorem cv_RX6_47_8 : x_V RX6 47 8 yX9_foretoldPassing cX9_foretoldPassing 6 (some .int) 4 := ⟨_, _, _, rfl, w_676, w_587, w_588, w_7, w_589, by decide +kernel⟩
theorem cv_RX6_53_8 : x_V RX6 53 8 yX9_value cX9_value 3 (some .int) 2 := ⟨_, _, _, rfl, w_757, w_210, w_211, w_7, w_212, by decide +kernel⟩
theorem cv_RX6_57_5 : x_V RX6 57 5 yX6_passesAt cX6_passesAt 3 (some .boolean) 2 := ⟨_, _, _, rfl, w_753, w_754, w_755, w_9, w_756, by decide +kernel⟩
theorem f_RX6_61_8 : x_F RX6 61 8 3 := ⟨_, _, _, "IndexDesk$Table", rfl, by decide, ui_8, w_134, Or.inl rfl⟩
theorem cv_RX6_64_5 : x_V RX6 64 5 yX6_passes cX6_passes 3 (some .boolean) 1 := ⟨_, _, _, rfl, w_749, w_751, ws_17, w_9, w_752, by decide +kernel⟩
theorem cv_RX6_67_8 : x_V RX6 67 8 yX9_has cX9_has 2 (some .boolean) 1 := ⟨_, _, _, rfl, w_762, w_185, w_186, w_7, w_187, by decide +kernel⟩
theorem f_RX7_9_6 : x_F RX7 9 6 2 := ⟨_, _, _, "IndexDesk$Scales", rfl, by decide, ui_6, w_69, Or.inl rfl⟩
theorem f_RX7_17_6 : x_F RX7 17 6 3 := ⟨_, _, _, "IndexDesk$Scales", rfl, by decide, ui_6, w_70, Or.inl rfl⟩
theorem f_RX7_20_6 : x_F RX7 20 6 4 := ⟨_, _, _, "IndexDesk$Scales", rfl, by decide, ui_6, w_71, Or.inl rfl⟩
theorem f_RX7_23_6 : x_F RX7 23 6 5 := ⟨_, _, _, "IndexDesk$Scales", rfl, by decide, ui_6, w_72, Or.inl rfl⟩
theorem f_RX7_26_6 : x_F RX7 26 6 6 := ⟨_, _, _, "IndexDesk$Scales", rfl, by decide, ui_6, w_73, Or.inl rfl⟩
theorem f_RX7_29_6 : x_F RX7 29 6 7 := ⟨_, _, _, "IndexDesk$Scales", rfl, by decide, ui_6, w_74, Or.inl rfl⟩
theorem cv_RX7_32_0 : x_V RX7 32 0 yJx4a65c_size_8abf5 cJx4a65c_size_8abf5 1 (some .int) 0 := ⟨_, _, _, rfl, w_605, w_273, w_274, w_4, w_275, by decide +kernel⟩
theorem cs_RX7_38 : x_S RX7 38 yJ9_min_7cf53 cJ9_min_7cf53 2 (some .int) 2 := ⟨w_606, w_244, w_8, w_245, by decide +kernel⟩
theorem f_RX7_44_6 : x_F RX7 44 6 0 := ⟨_, _, _, "IndexDesk$Scales", rfl, by decide, ui_6, w_67, Or.inl rfl⟩
theorem f_RX7_48_6 : x_F RX7 48 6 1 := ⟨_, _, _, "IndexDesk$Scales", rfl, by decide, ui_6, w_68, Or.inl rfl⟩
theorem cv_RX7_51_0 : x_V RX7 51 0 yJx4a65c_get_915e3 cJx4a65c_get_915e3 2 (some (.object "java/lang/Object")) 1 := ⟨_, _, _, rfl, w_607, w_381, w_382, w_4, w_383, by decide +kernel⟩
theorem f_RX7_57_5 : x_F RX7 57 5 3 := ⟨_, _, _, "IndexDesk$Question", rfl, by decide, ui_5, w_298, Or.inl rfl⟩
theorem f_RX7_60_5 : x_F RX7 60 5 0 := ⟨_, _, _, "IndexDesk$Question", rfl, by decide, ui_5, w_291, Or.inl rfl⟩
theorem cv_RX7_64_8 : x_V RX7 64 8 yX9_countedPages cX9_countedPages 1 (some .int) 0 := ⟨_, _, _, rfl, w_609, w_254, w_255, w_7, w_256, by decide +kernel⟩
theorem cu_RX7_71_1 : x_U RX7 71 1 "IndexDesk$Aid" ⟨"IndexDesk$Aid", "space", "()I"⟩ yX1_space cX1_space 1 (some .int) 0 := ⟨_, _, _, rfl, w_611, w_565, w_566, w_567, w_19, w_568, Or.inr (Or.inr (by decide +kernel)), by decide +kernel⟩
theorem cu_RX7_71_2 : x_U RX7 71 2 "IndexDesk$Aid" ⟨"IndexDesk$Aid", "space", "()I"⟩ yX2_space cX2_space 2 (some .int) 0 := ⟨_, _, _, rfl, w_611, w_565, w_569, w_570, w_18, w_571, Or.inr (Or.inr (by decide +kernel)), by decide +kernel⟩
theorem cu_RX7_71_3 : x_U RX7 71 3 "IndexDesk$Aid" ⟨"IndexDesk$Aid", "space", "()I"⟩ yX4_space cX4_space 1 (some .int) 0 := ⟨_, _, _, rfl, w_611, w_565, w_574, w_575, w_16, w_576, Or.inr (Or.inr (by decide +kernel)), by decide +kernel⟩
theorem cu_RX7_71_4 : x_U RX7 71 4 "IndexDesk$Aid" ⟨"IndexDesk$Aid", "space", "()I"⟩ yX4_space cX4_space 1 (some .int) 0 := ⟨_, _, _, rfl, w_611, w_565, w_592, w_575, w_16, w_576, Or.inr (Or.inr (by decide +kernel)), by decide +kernel⟩
theorem cu_RX7_71_7 : x_U RX7 71 7 "IndexDesk$Aid" ⟨"IndexDesk$Aid", "space", "()I"⟩ yX8_space cX8_space 1 (some .int) 0 := ⟨_, _, _, rfl, w_611, w_565, w_593, w_594, w_22, w_595, Or.inr (Or.inr (by decide +kernel)), by decide +kernel⟩
theorem cu_RX7_74_1 : x_U RX7 74 1 "IndexDesk$Aid" ⟨"IndexDesk$Aid", "keeping", "()I"⟩ yX1_keeping cX1_keeping 1 (some .int) 0 := ⟨_, _, _, rfl, w_612, w_614, w_615, w_616, w_19, w_617, Or.inr (Or.inr (by decide +kernel)), by decide +kernel⟩
theorem cu_RX7_74_2 : x_U RX7 74 2 "IndexDesk$Aid" ⟨"IndexDesk$Aid", "keeping", "()I"⟩ yX2_keeping cX2_keeping 1 (some .int) 0 := ⟨_, _, _, rfl, w_612, w_614, w_618, w_619, w_18, w_620, Or.inr (Or.inr (by decide +kernel)), by decide +kernel⟩
theorem cu_RX7_74_3 : x_U RX7 74 3 "IndexDesk$Aid" ⟨"IndexDesk$Aid", "keeping", "()I"⟩ yX3_keeping cX3_keeping 1 (some .int) 0 := ⟨_, _, _, rfl, w_612, w_614, w_621, w_622, w_17, w_623, Or.inr (Or.inr (by decide +kernel)), by decide +kernel⟩
theorem cu_RX7_74_4 : x_U RX7 74 4 "IndexDesk$Aid" ⟨"IndexDesk$Aid", "keeping", "()I"⟩ yX5_keeping cX5_keeping 1 (some .int) 0 := ⟨_, _, _, rfl, w_612, w_614, w_624, w_625, w_20, w_626, Or.inr (Or.inr (by decide +kernel)), by decide +kernel⟩
theorem cu_RX7_74_7 : x_U RX7 74 7 "IndexDesk$Aid" ⟨"IndexDesk$Aid", "keeping", "()I"⟩ yX8_keeping cX8_keeping 1 (some .int) 0 := ⟨_, _, _, rfl, w_612, w_614, w_627, w_628, w_22, w_629, Or.inr (Or.inr (by decide +kernel)), by decide +kernel⟩
theorem f_RX7_77_1 : x_F RX7 77 1 3 := ⟨_, _, _, "IndexDesk$Aid", rfl, by decide, ui_1, w_436, Or.inl rfl⟩
theorem f_RX7_77_2 : x_F RX7 77 2 3 := ⟨_, _, _, "IndexDesk$Aid", rfl, by decide, ui_2, w_436, Or.inl rfl⟩
theorem f_RX7_77_3 : x_F RX7 77 3 3 := ⟨_, _, _, "IndexDesk$Aid", rfl, by decide, ui_3, w_436, Or.inl rfl⟩
theorem f_RX7_77_4 : x_F RX7 77 4 3 := ⟨_, _, _, "IndexDesk$Aid", rfl, by decide, ui_4, w_436, Or.inl rfl⟩
theorem f_RX7_77_7 : x_F RX7 77 7 1 := ⟨_, _, _, "IndexDesk$Aid", rfl, by decide, ui_7, w_436, Or.inl rfl⟩
theorem f_RX7_78_8 : x_F RX7 78 8 4 := ⟨_, _, _, "IndexDesk$Table", rfl, by decide, ui_8, w_136, Or.inl rfl⟩
theorem cn_RX7_81 : x_SN RX7 81 yX10_rivalsOf cX10_rivalsOf 5 (some .int) 2 := ⟨RX10, by decide +kernel, w_552, w_1, w_553, by decide +kernel⟩
theorem cu_RX7_85_1 : x_U RX7 85 1 "IndexDesk$Aid" ⟨"IndexDesk$Aid", "helps", "(LIndexDesk$Question;)Z"⟩ yX4_helps cX4_helps 2 (some .boolean) 1 := ⟨_, _, _, rfl, w_631, w_633, w_634, w_635, w_16, w_636, Or.inr (Or.inr (by decide +kernel)), by decide +kernel⟩
theorem cu_RX7_85_2 : x_U RX7 85 2 "IndexDesk$Aid" ⟨"IndexDesk$Aid", "helps", "(LIndexDesk$Question;)Z"⟩ yX4_helps cX4_helps 2 (some .boolean) 1 := ⟨_, _, _, rfl, w_631, w_633, w_654, w_635, w_16, w_636, Or.inr (Or.inr (by decide +kernel)), by decide +kernel⟩
theorem cu_RX7_85_3 : x_U RX7 85 3 "IndexDesk$Aid" ⟨"IndexDesk$Aid", "helps", "(LIndexDesk$Question;)Z"⟩ yX4_helps cX4_helps 2 (some .boolean) 1 := ⟨_, _, _, rfl, w_631, w_633, w_655, w_635, w_16, w_636, Or.inr (Or.inr (by decide +kernel)), by decide +kernel⟩
theorem cu_RX7_85_4 : x_U RX7 85 4 "IndexDesk$Aid" ⟨"IndexDesk$Aid", "helps", "(LIndexDesk$Question;)Z"⟩ yX5_helps cX5_helps 2 (some .boolean) 1 := ⟨_, _, _, rfl, w_631, w_633, w_656, w_657, w_20, w_658, Or.inr (Or.inr (by decide +kernel)), by decide +kernel⟩
theorem cu_RX7_85_7 : x_U RX7 85 7 "IndexDesk$Aid" ⟨"IndexDesk$Aid", "helps", "(LIndexDesk$Question;)Z"⟩ yX8_helps cX8_helps 2 (some .boolean) 1 := ⟨_, _, _, rfl, w_631, w_633, w_663, w_664, w_22, w_665, Or.inr (Or.inr (by decide +kernel)), by decide +kernel⟩
theorem cu_RX7_89_1 : x_U RX7 89 1 "IndexDesk$Aid" ⟨"IndexDesk$Aid", "foretold", "(LIndexDesk$Question;)I"⟩ yX4_foretold cX4_foretold 5 (some .int) 1 := ⟨_, _, _, rfl, w_666, w_668, w_669, w_670, w_16, w_671, Or.inr (Or.inr (by decide +kernel)), by decide +kernel⟩
theorem cu_RX7_89_2 : x_U RX7 89 2 "IndexDesk$Aid" ⟨"IndexDesk$Aid", "foretold", "(LIndexDesk$Question;)I"⟩ yX4_foretold cX4_foretold 5 (some .int) 1 := ⟨_, _, _, rfl, w_666, w_668, w_705, w_670, w_16, w_671, Or.inr (Or.inr (by decide +kernel)), by decide +kernel⟩
theorem cu_RX7_89_3 : x_U RX7 89 3 "IndexDesk$Aid" ⟨"IndexDesk$Aid", "foretold", "(LIndexDesk$Question;)I"⟩ yX4_foretold cX4_foretold 5 (some .int) 1 := ⟨_, _, _, rfl, w_666, w_668, w_706, w_670, w_16, w_671, Or.inr (Or.inr (by decide +kernel)), by decide +kernel⟩
theorem cu_RX7_89_4 : x_U RX7 89 4 "IndexDesk$Aid" ⟨"IndexDesk$Aid", "foretold", "(LIndexDesk$Question;)I"⟩ yX4_foretold cX4_foretold 5 (some .int) 1 := ⟨_, _, _, rfl, w_666, w_668, w_707, w_670, w_16, w_671, Or.inr (Or.inr (by decide +kernel)), by decide +kernel⟩
theorem cu_RX7_89_7 : x_U RX7 89 7 "IndexDesk$Aid" ⟨"IndexDesk$Aid", "foretold", "(LIndexDesk$Question;)I"⟩ yX8_foretold cX8_foretold 2 (some .int) 1 := ⟨_, _, _, rfl, w_666, w_668, w_708, w_709, w_22, w_710, Or.inr (Or.inr (by decide +kernel)), by decide +kernel⟩
theorem cv_RX7_93_6 : x_V RX7 93 6 yX7_weighNothing cX7_weighNothing 4 (some .long) 0 := ⟨_, _, _, rfl, w_716, w_718, ws_14, w_5, w_719, by decide +kernel⟩
theorem cn_RX7_97 : x_SN RX7 97 yX10_isIn cX10_isIn 2 (some .boolean) 2 := ⟨RX10, by decide +kernel, w_237, w_1, w_238, by decide +kernel⟩
theorem cv_RX7_101_6 : x_V RX7 101 6 yX7_savedBy cX7_savedBy 6 (some .long) 2 := ⟨_, _, _, rfl, w_721, w_723, ws_15, w_5, w_724, by decide +kernel⟩
theorem cv_RX7_105_6 : x_V RX7 105 6 yX7_settle cX7_settle 4 none 2 := ⟨_, _, _, rfl, w_726, w_728, ws_16, w_5, w_729, by decide +kernel⟩
theorem cs_RX7_109 : x_S RX7 109 yJ9_max_7cf53 cJ9_max_7cf53 2 (some .int) 2 := ⟨w_725, w_247, w_8, w_248, by decide +kernel⟩
theorem f_RX7_112_6 : x_F RX7 112 6 8 := ⟨_, _, _, "IndexDesk$Scales", rfl, by decide, ui_6, w_75, Or.inl rfl⟩
theorem f_RX7_115_6 : x_F RX7 115 6 9 := ⟨_, _, _, "IndexDesk$Scales", rfl, by decide, ui_6, w_76, Or.inl rfl⟩
theorem cv_RX7_119_6 : x_V RX7 119 6 yX7_explore cX7_explore 8 none 4 := ⟨_, _, _, rfl, w_824, w_826, ws_19, w_5, w_827, by decide +kernel⟩
theorem cv_RX7_123_6 : x_V RX7 123 6 yX7_keepIfBetter cX7_keepIfBetter 5 none 2 := ⟨_, _, _, rfl, w_828, w_830, ws_20, w_5, w_831, by decide +kernel⟩
theorem cv_RX7_127_6 : x_V RX7 127 6 yX7_fits cX7_fits 4 (some .boolean) 3 := ⟨_, _, _, rfl, w_833, w_835, ws_21, w_5, w_836, by decide +kernel⟩
theorem cn_RX7_131 : x_SN RX7 131 yX10_bit cX10_bit 1 (some .int) 1 := ⟨RX10, by decide +kernel, w_222, w_1, w_223, by decide +kernel⟩
theorem cs_RX7_135 : x_S RX7 135 yJ6_bitCount_0f7a4 cJ6_bitCount_0f7a4 1 (some .int) 1 := ⟨w_832, w_521, w_21, w_522, by decide +kernel⟩
theorem cv_RX7_140_6 : x_V RX7 140 6 yX7_mostSaving cX7_mostSaving 10 (some .int) 2 := ⟨_, _, _, rfl, w_846, w_848, ws_22, w_5, w_849, by decide +kernel⟩
theorem cv_RX7_143_6 : x_V RX7 143 6 yX7_lower cX7_lower 3 none 1 := ⟨_, _, _, rfl, w_850, w_852, ws_23, w_5, w_853, by decide +kernel⟩
theorem f_RX8_9_7 : x_F RX8 9 7 3 := ⟨_, _, _, "IndexDesk$Sums", rfl, by decide, ui_7, w_532, Or.inl rfl⟩
theorem f_RX8_15_7 : x_F RX8 15 7 4 := ⟨_, _, _, "IndexDesk$Sums", rfl, by decide, ui_7, w_533, Or.inl rfl⟩
theorem f_RX8_18_5 : x_F RX8 18 5 1 := ⟨_, _, _, "IndexDesk$Question", rfl, by decide, ui_5, w_294, Or.inl rfl⟩
theorem f_RX8_23_5 : x_F RX8 23 5 2 := ⟨_, _, _, "IndexDesk$Question", rfl, by decide, ui_5, w_296, Or.inl rfl⟩
theorem f_RX8_26_5 : x_F RX8 26 5 4 := ⟨_, _, _, "IndexDesk$Question", rfl, by decide, ui_5, w_300, Or.inl rfl⟩
theorem cv_RX8_29_7 : x_V RX8 29 7 yX8_space cX8_space 1 (some .int) 0 := ⟨_, _, _, rfl, w_711, w_594, w_1186, w_22, w_595, by decide +kernel⟩
theorem f_RX8_33_7 : x_F RX8 33 7 1 := ⟨_, _, _, "IndexDesk$Sums", rfl, by decide, ui_7, w_445, Or.inr w_446⟩
theorem cv_RX8_37_8 : x_V RX8 37 8 yX9_unlikeRows cX9_unlikeRows 4 (some .int) 1 := ⟨_, _, _, rfl, w_801, w_225, w_226, w_7, w_227, by decide +kernel⟩
theorem f_RX8_43_8 : x_F RX8 43 8 2 := ⟨_, _, _, "IndexDesk$Table", rfl, by decide, ui_8, w_130, Or.inl rfl⟩
theorem cn_RX8_46 : x_SN RX8 46 yX10_dividedUp cX10_dividedUp 2 (some .int) 2 := ⟨RX10, by decide +kernel, w_258, w_1, w_259, by decide +kernel⟩
theorem cv_RX8_50_8 : x_V RX8 50 8 yX9_foretoldGroups cX9_foretoldGroups 4 (some .int) 1 := ⟨_, _, _, rfl, w_596, w_597, w_598, w_7, w_599, by decide +kernel⟩
theorem f_RX9_9_8 : x_F RX9 9 8 6 := ⟨_, _, _, "IndexDesk$Table", rfl, by decide, ui_8, w_143, Or.inl rfl⟩
theorem f_RX9_15_8 : x_F RX9 15 8 7 := ⟨_, _, _, "IndexDesk$Table", rfl, by decide, ui_8, w_144, Or.inl rfl⟩
theorem f_RX9_18_8 : x_F RX9 18 8 8 := ⟨_, _, _, "IndexDesk$Table", rfl, by decide, ui_8, w_145, Or.inl rfl⟩
theorem f_RX9_21_8 : x_F RX9 21 8 9 := ⟨_, _, _, "IndexDesk$Table", rfl, by decide, ui_8, w_146, Or.inl rfl⟩
theorem f_RX9_24_8 : x_F RX9 24 8 0 := ⟨_, _, _, "IndexDesk$Table", rfl, by decide, ui_8, w_124, Or.inl rfl⟩
theorem f_RX9_28_8 : x_F RX9 28 8 1 := ⟨_, _, _, "IndexDesk$Table", rfl, by decide, ui_8, w_126, Or.inl rfl⟩
theorem f_RX9_31_8 : x_F RX9 31 8 2 := ⟨_, _, _, "IndexDesk$Table", rfl, by decide, ui_8, w_127, Or.inl rfl⟩
theorem cv_RX9_34_8 : x_V RX9 34 8 yX9_has cX9_has 2 (some .boolean) 1 := ⟨_, _, _, rfl, w_184, w_185, w_186, w_7, w_187, by decide +kernel⟩
theorem cv_RX9_38_8 : x_V RX9 38 8 yX9_allowsAt cX9_allowsAt 3 (some .boolean) 2 := ⟨_, _, _, rfl, w_180, w_182, ws_1, w_7, w_183, by decide +kernel⟩
theorem cn_RX9_42 : x_SN RX9 42 yX10_isBetween cX10_isBetween 3 (some .boolean) 3 := ⟨RX10, by decide +kernel, w_117, w_1, w_118, by decide +kernel⟩
theorem f_RX9_46_8 : x_F RX9 46 8 3 := ⟨_, _, _, "IndexDesk$Table", rfl, by decide, ui_8, w_133, Or.inl rfl⟩
theorem cv_RX9_49_8 : x_V RX9 49 8 yX9_write cX9_write 4 none 3 := ⟨_, _, _, rfl, w_193, w_195, ws_2, w_7, w_196, by decide +kernel⟩
theorem cv_RX9_53_8 : x_V RX9 53 8 yX9_isCell cX9_isCell 3 (some .boolean) 2 := ⟨_, _, _, rfl, w_197, w_199, ws_3, w_7, w_200, by decide +kernel⟩
theorem cv_RX9_56_8 : x_V RX9 56 8 yX9_value cX9_value 3 (some .int) 2 := ⟨_, _, _, rfl, w_209, w_210, w_211, w_7, w_212, by decide +kernel⟩
theorem cn_RX9_60 : x_SN RX9 60 yX10_dividedUp cX10_dividedUp 2 (some .int) 2 := ⟨RX10, by decide +kernel, w_258, w_1, w_259, by decide +kernel⟩
theorem f_RX9_63_8 : x_F RX9 63 8 5 := ⟨_, _, _, "IndexDesk$Table", rfl, by decide, ui_8, w_142, Or.inl rfl⟩
theorem cn_RX9_66 : x_SN RX9 66 yX10_bit cX10_bit 1 (some .int) 1 := ⟨RX10, by decide +kernel, w_222, w_1, w_223, by decide +kernel⟩
theorem cv_RX9_70_8 : x_V RX9 70 8 yX9_unlikeRows cX9_unlikeRows 4 (some .int) 1 := ⟨_, _, _, rfl, w_224, w_225, w_226, w_7, w_227, by decide +kernel⟩
theorem cv_RX9_73_8 : x_V RX9 73 8 yX9_takeEnds cX9_takeEnds 5 none 1 := ⟨_, _, _, rfl, w_239, w_241, ws_6, w_7, w_242, by decide +kernel⟩
theorem cs_RX9_77 : x_S RX9 77 yJ9_min_7cf53 cJ9_min_7cf53 2 (some .int) 2 := ⟨w_243, w_244, w_8, w_245, by decide +kernel⟩
theorem cs_RX9_82 : x_S RX9 82 yJ9_max_7cf53 cJ9_max_7cf53 2 (some .int) 2 := ⟨w_246, w_247, w_8, w_248, by decide +kernel⟩
theorem cv_RX9_85_8 : x_V RX9 85 8 yX9_isFirstOfItsLike cX9_isFirstOfItsLike 4 (some .boolean) 2 := ⟨_, _, _, rfl, w_228, w_230, ws_4, w_7, w_231, by decide +kernel⟩
theorem cv_RX9_88_8 : x_V RX9 88 8 yX9_areAlike cX9_areAlike 5 (some .boolean) 3 := ⟨_, _, _, rfl, w_232, w_234, ws_5, w_7, w_235, by decide +kernel⟩
theorem cn_RX9_91 : x_SN RX9 91 yX10_isIn cX10_isIn 2 (some .boolean) 2 := ⟨RX10, by decide +kernel, w_237, w_1, w_238, by decide +kernel⟩
theorem f_RX10_11_9 : x_F RX10 11 9 0 := ⟨_, _, _, "IndexDesk", rfl, by decide, ui_9, w_99, Or.inl rfl⟩
theorem f_RX10_18_9 : x_F RX10 18 9 1 := ⟨_, _, _, "IndexDesk", rfl, by decide, ui_9, w_100, Or.inl rfl⟩
theorem f_RX10_22_9 : x_F RX10 22 9 2 := ⟨_, _, _, "IndexDesk", rfl, by decide, ui_9, w_101, Or.inl rfl⟩
theorem f_RX10_28_9 : x_F RX10 28 9 3 := ⟨_, _, _, "IndexDesk", rfl, by decide, ui_9, w_102, Or.inl rfl⟩
theorem cs_RX10_32 : x_S RX10 32 yX10_isBetween cX10_isBetween 3 (some .boolean) 3 := ⟨w_116, w_117, w_1, w_118, by decide +kernel⟩
theorem cv_RX10_39_9 : x_V RX10 39 9 yX10_tableAt cX10_tableAt 2 (some (.object "IndexDesk$Table")) 1 := ⟨_, _, _, rfl, w_172, w_174, ws_0, w_1, w_175, by decide +kernel⟩
theorem f_RX10_43_8 : x_F RX10 43 8 3 := ⟨_, _, _, "IndexDesk$Table", rfl, by decide, ui_8, w_132, Or.inl rfl⟩
theorem cv_RX10_47_8 : x_V RX10 47 8 yX9_allows cX9_allows 5 (some .boolean) 4 := ⟨_, _, _, rfl, w_176, w_177, w_178, w_7, w_179, by decide +kernel⟩
theorem cv_RX10_51_8 : x_V RX10 51 8 yX9_append cX9_append 6 (some .int) 4 := ⟨_, _, _, rfl, w_189, w_190, w_191, w_7, w_192, by decide +kernel⟩
theorem cv_RX10_55_8 : x_V RX10 55 8 yX9_remove cX9_remove 4 none 1 := ⟨_, _, _, rfl, w_205, w_206, w_207, w_7, w_208, by decide +kernel⟩
theorem cv_RX10_59_8 : x_V RX10 59 8 yX9_takeCounts cX9_takeCounts 2 none 0 := ⟨_, _, _, rfl, w_217, w_218, w_219, w_7, w_220, by decide +kernel⟩
theorem f_RX10_62_8 : x_F RX10 62 8 5 := ⟨_, _, _, "IndexDesk$Table", rfl, by decide, ui_8, w_141, Or.inl rfl⟩
theorem cv_RX10_65_8 : x_V RX10 65 8 yX9_countedPages cX9_countedPages 1 (some .int) 0 := ⟨_, _, _, rfl, w_253, w_254, w_255, w_7, w_256, by decide +kernel⟩
theorem cv_RX10_69_8 : x_V RX10 69 8 yX9_countOfColumn cX9_countOfColumn 3 (some .int) 2 := ⟨_, _, _, rfl, w_260, w_261, w_262, w_7, w_263, by decide +kernel⟩
theorem f_RX10_73_8 : x_F RX10 73 8 4 := ⟨_, _, _, "IndexDesk$Table", rfl, by decide, ui_8, w_137, Or.inl rfl⟩
theorem cv_RX10_76_0 : x_V RX10 76 0 yJx4a65c_size_8abf5 cJx4a65c_size_8abf5 1 (some .int) 0 := ⟨_, _, _, rfl, w_272, w_273, w_274, w_4, w_275, by decide +kernel⟩
theorem cv_RX10_79_8 : x_V RX10 79 8 yX9_hasAll cX9_hasAll 2 (some .boolean) 1 := ⟨_, _, _, rfl, w_276, w_277, w_278, w_7, w_279, by decide +kernel⟩
theorem cv_RX10_83_8 : x_V RX10 83 8 yX9_hasOrNone cX9_hasOrNone 2 (some .boolean) 1 := ⟨_, _, _, rfl, w_280, w_281, w_282, w_7, w_283, by decide +kernel⟩
theorem cv_RX10_91_0 : x_V RX10 91 0 yJx4a65c_add_9ea2d cJx4a65c_add_9ea2d 2 (some .boolean) 1 := ⟨_, _, _, rfl, w_318, w_319, w_320, w_4, w_321, by decide +kernel⟩
theorem cv_RX10_95_9 : x_V RX10 95 9 yX10_questionAt cX10_questionAt 2 (some (.object "IndexDesk$Question")) 1 := ⟨_, _, _, rfl, w_376, w_378, ws_10, w_1, w_379, by decide +kernel⟩
theorem f_RX10_99_5 : x_F RX10 99 5 0 := ⟨_, _, _, "IndexDesk$Question", rfl, by decide, ui_5, w_292, Or.inl rfl⟩
theorem cv_RX10_103_8 : x_V RX10 103 8 yX9_has cX9_has 2 (some .boolean) 1 := ⟨_, _, _, rfl, w_394, w_185, w_186, w_7, w_187, by decide +kernel⟩
theorem cs_RX10_106 : x_S RX10 106 yX10_isRange cX10_isRange 2 (some .boolean) 2 := ⟨w_395, w_396, w_1, w_397, by decide +kernel⟩
theorem cv_RX10_110_5 : x_V RX10 110 5 yX6_limit cX6_limit 4 none 3 := ⟨_, _, _, rfl, w_398, w_399, w_400, w_9, w_401, by decide +kernel⟩
theorem cv_RX10_113_9 : x_V RX10 113 9 yX10_tableForAid cX10_tableForAid 2 (some (.object "IndexDesk$Table")) 1 := ⟨_, _, _, rfl, w_408, w_410, ws_11, w_1, w_411, by decide +kernel⟩
theorem cs_RX10_116 : x_S RX10 116 yX10_canOrderBy cX10_canOrderBy 4 (some .boolean) 4 := ⟨w_412, w_413, w_1, w_414, by decide +kernel⟩
theorem cs_RX10_120 : x_S RX10 120 yX10_bit cX10_bit 1 (some .int) 1 := ⟨w_415, w_222, w_1, w_223, by decide +kernel⟩
theorem cv_RX10_127_9 : x_V RX10 127 9 yX10_enlist cX10_enlist 2 (some .int) 1 := ⟨_, _, _, rfl, w_460, w_462, ws_12, w_1, w_463, by decide +kernel⟩
theorem cs_RX10_144 : x_S RX10 144 yJ6_bitCount_0f7a4 cJ6_bitCount_0f7a4 1 (some .int) 1 := ⟨w_520, w_521, w_21, w_522, by decide +kernel⟩
theorem cv_RX10_154_9 : x_V RX10 154 9 yX10_aidAt cX10_aidAt 2 (some (.object "IndexDesk$Aid")) 1 := ⟨_, _, _, rfl, w_546, w_548, ws_13, w_1, w_549, by decide +kernel⟩
theorem f_RX10_158_1 : x_F RX10 158 1 4 := ⟨_, _, _, "IndexDesk$Aid", rfl, by decide, ui_1, w_448, Or.inl rfl⟩
theorem f_RX10_158_2 : x_F RX10 158 2 4 := ⟨_, _, _, "IndexDesk$Aid", rfl, by decide, ui_2, w_448, Or.inl rfl⟩
theorem f_RX10_158_3 : x_F RX10 158 3 4 := ⟨_, _, _, "IndexDesk$Aid", rfl, by decide, ui_3, w_448, Or.inl rfl⟩
theorem f_RX10_158_4 : x_F RX10 158 4 4 := ⟨_, _, _, "IndexDesk$Aid", rfl, by decide, ui_4, w_448, Or.inl rfl⟩
theorem f_RX10_158_7 : x_F RX10 158 7 2 := ⟨_, _, _, "IndexDesk$Aid", rfl, by decide, ui_7, w_448, Or.inl rfl⟩
theorem cs_RX10_164 : x_S RX10 164 yX10_rivalsOf cX10_rivalsOf 5 (some .int) 2 := ⟨w_551, w_552, w_1, w_553, by decide +kernel⟩
theorem cv_RX10_168_9 : x_V RX10 168 9 yX10_built cX10_built 3 (some .int) 0 := ⟨_, _, _, rfl, w_554, w_555, w_556, w_1, w_557, by decide +kernel⟩
theorem f_RX10_173_1 : x_F RX10 173 1 2 := ⟨_, _, _, "IndexDesk$Aid", rfl, by decide, ui_1, w_434, Or.inl rfl⟩
theorem f_RX10_173_2 : x_F RX10 173 2 2 := ⟨_, _, _, "IndexDesk$Aid", rfl, by decide, ui_2, w_434, Or.inl rfl⟩
theorem f_RX10_173_3 : x_F RX10 173 3 2 := ⟨_, _, _, "IndexDesk$Aid", rfl, by decide, ui_3, w_434, Or.inl rfl⟩
theorem f_RX10_173_4 : x_F RX10 173 4 2 := ⟨_, _, _, "IndexDesk$Aid", rfl, by decide, ui_4, w_434, Or.inl rfl⟩
theorem f_RX10_173_7 : x_F RX10 173 7 0 := ⟨_, _, _, "IndexDesk$Aid", rfl, by decide, ui_7, w_434, Or.inl rfl⟩
theorem f_RX10_176_1 : x_F RX10 176 1 3 := ⟨_, _, _, "IndexDesk$Aid", rfl, by decide, ui_1, w_447, Or.inl rfl⟩
theorem f_RX10_176_2 : x_F RX10 176 2 3 := ⟨_, _, _, "IndexDesk$Aid", rfl, by decide, ui_2, w_447, Or.inl rfl⟩
theorem f_RX10_176_3 : x_F RX10 176 3 3 := ⟨_, _, _, "IndexDesk$Aid", rfl, by decide, ui_3, w_447, Or.inl rfl⟩
theorem f_RX10_176_4 : x_F RX10 176 4 3 := ⟨_, _, _, "IndexDesk$Aid", rfl, by decide, ui_4, w_447, Or.inl rfl⟩
theorem f_RX10_176_7 : x_F RX10 176 7 1 := ⟨_, _, _, "IndexDesk$Aid", rfl, by decide, ui_7, w_447, Or.inl rfl⟩
theorem f_RX10_177_8 : x_F RX10 177 8 0 := ⟨_, _, _, "IndexDesk$Table", rfl, by decide, ui_8, w_125, Or.inl rfl⟩
theorem cu_RX10_180_1 : x_U RX10 180 1 "IndexDesk$Aid" ⟨"IndexDesk$Aid", "space", "()I"⟩ yX1_space cX1_space 1 (some .int) 0 := ⟨_, _, _, rfl, w_563, w_565, w_566, w_567, w_19, w_568, Or.inr (Or.inr (by decide +kernel)), by decide +kernel⟩
theorem cu_RX10_180_2 : x_U RX10 180 2 "IndexDesk$Aid" ⟨"IndexDesk$Aid", "space", "()I"⟩ yX2_space cX2_space 2 (some .int) 0 := ⟨_, _, _, rfl, w_563, w_565, w_569, w_570, w_18, w_571, Or.inr (Or.inr (by decide +kernel)), by decide +kernel⟩
theorem cu_RX10_180_3 : x_U RX10 180 3 "IndexDesk$Aid" ⟨"IndexDesk$Aid", "space", "()I"⟩ yX4_space cX4_space 1 (some .int) 0 := ⟨_, _, _, rfl, w_563, w_565, w_574, w_575, w_16, w_576, Or.inr (Or.inr (by decide +kernel)), by decide +kernel⟩
theorem cu_RX10_180_4 : x_U RX10 180 4 "IndexDesk$Aid" ⟨"IndexDesk$Aid", "space", "()I"⟩ yX4_space cX4_space 1 (some .int) 0 := ⟨_, _, _, rfl, w_563, w_565, w_592, w_575, w_16, w_576, Or.inr (Or.inr (by decide +kernel)), by decide +kernel⟩
theorem cu_RX10_180_7 : x_U RX10 180 7 "IndexDesk$Aid" ⟨"IndexDesk$Aid", "space", "()I"⟩ yX8_space cX8_space 1 (some .int) 0 := ⟨_, _, _, rfl, w_563, w_565, w_593, w_594, w_22, w_595, Or.inr (Or.inr (by decide +kernel)), by decide +kernel⟩
theorem cv_RX10_183_6 : x_V RX10 183 6 yX7_load cX7_load 8 none 2 := ⟨_, _, _, rfl, w_601, w_602, w_603, w_5, w_604, by decide +kernel⟩
theorem cv_RX10_187_6 : x_V RX10 187 6 yX7_weigh cX7_weigh 5 (some .long) 1 := ⟨_, _, _, rfl, w_712, w_713, w_714, w_5, w_715, by decide +kernel⟩
theorem cu_RX10_191_1 : x_U RX10 191 1 "IndexDesk$Aid" ⟨"IndexDesk$Aid", "helps", "(LIndexDesk$Question;)Z"⟩ yX4_helps cX4_helps 2 (some .boolean) 1 := ⟨_, _, _, rfl, w_734, w_633, w_634, w_635, w_16, w_636, Or.inr (Or.inr (by decide +kernel)), by decide +kernel⟩
theorem cu_RX10_191_2 : x_U RX10 191 2 "IndexDesk$Aid" ⟨"IndexDesk$Aid", "helps", "(LIndexDesk$Question;)Z"⟩ yX4_helps cX4_helps 2 (some .boolean) 1 := ⟨_, _, _, rfl, w_734, w_633, w_654, w_635, w_16, w_636, Or.inr (Or.inr (by decide +kernel)), by decide +kernel⟩
theorem cu_RX10_191_3 : x_U RX10 191 3 "IndexDesk$Aid" ⟨"IndexDesk$Aid", "helps", "(LIndexDesk$Question;)Z"⟩ yX4_helps cX4_helps 2 (some .boolean) 1 := ⟨_, _, _, rfl, w_734, w_633, w_655, w_635, w_16, w_636, Or.inr (Or.inr (by decide +kernel)), by decide +kernel⟩
theorem cu_RX10_191_4 : x_U RX10 191 4 "IndexDesk$Aid" ⟨"IndexDesk$Aid", "helps", "(LIndexDesk$Question;)Z"⟩ yX5_helps cX5_helps 2 (some .boolean) 1 := ⟨_, _, _, rfl, w_734, w_633, w_656, w_657, w_20, w_658, Or.inr (Or.inr (by decide +kernel)), by decide +kernel⟩
theorem cu_RX10_191_7 : x_U RX10 191 7 "IndexDesk$Aid" ⟨"IndexDesk$Aid", "helps", "(LIndexDesk$Question;)Z"⟩ yX8_helps cX8_helps 2 (some .boolean) 1 := ⟨_, _, _, rfl, w_734, w_633, w_663, w_664, w_22, w_665, Or.inr (Or.inr (by decide +kernel)), by decide +kernel⟩
theorem cu_RX10_195_1 : x_U RX10 195 1 "IndexDesk$Aid" ⟨"IndexDesk$Aid", "foretold", "(LIndexDesk$Question;)I"⟩ yX4_foretold cX4_foretold 5 (some .int) 1 := ⟨_, _, _, rfl, w_735, w_668, w_669, w_670, w_16, w_671, Or.inr (Or.inr (by decide +kernel)), by decide +kernel⟩
theorem cu_RX10_195_2 : x_U RX10 195 2 "IndexDesk$Aid" ⟨"IndexDesk$Aid", "foretold", "(LIndexDesk$Question;)I"⟩ yX4_foretold cX4_foretold 5 (some .int) 1 := ⟨_, _, _, rfl, w_735, w_668, w_705, w_670, w_16, w_671, Or.inr (Or.inr (by decide +kernel)), by decide +kernel⟩
theorem cu_RX10_195_3 : x_U RX10 195 3 "IndexDesk$Aid" ⟨"IndexDesk$Aid", "foretold", "(LIndexDesk$Question;)I"⟩ yX4_foretold cX4_foretold 5 (some .int) 1 := ⟨_, _, _, rfl, w_735, w_668, w_706, w_670, w_16, w_671, Or.inr (Or.inr (by decide +kernel)), by decide +kernel⟩
theorem cu_RX10_195_4 : x_U RX10 195 4 "IndexDesk$Aid" ⟨"IndexDesk$Aid", "foretold", "(LIndexDesk$Question;)I"⟩ yX4_foretold cX4_foretold 5 (some .int) 1 := ⟨_, _, _, rfl, w_735, w_668, w_707, w_670, w_16, w_671, Or.inr (Or.inr (by decide +kernel)), by decide +kernel⟩
theorem cu_RX10_195_7 : x_U RX10 195 7 "IndexDesk$Aid" ⟨"IndexDesk$Aid", "foretold", "(LIndexDesk$Question;)I"⟩ yX8_foretold cX8_foretold 2 (some .int) 1 := ⟨_, _, _, rfl, w_735, w_668, w_708, w_709, w_22, w_710, Or.inr (Or.inr (by decide +kernel)), by decide +kernel⟩
theorem cv_RX10_199_9 : x_V RX10 199 9 yX10_cost cX10_cost 5 (some .int) 2 := ⟨_, _, _, rfl, w_740, w_731, w_732, w_1, w_733, by decide +kernel⟩
theorem cv_RX10_202_0 : x_V RX10 202 0 yJx4a65c_get_915e3 cJx4a65c_get_915e3 2 (some (.object "java/lang/Object")) 1 := ⟨_, _, _, rfl, w_380, w_381, w_382, w_4, w_383, by decide +kernel⟩
theorem cv_RX10_206_5 : x_V RX10 206 5 yX6_answering cX6_answering 3 (some .int) 0 := ⟨_, _, _, rfl, w_745, w_746, w_747, w_9, w_748, by decide +kernel⟩
theorem cv_RX10_209_5 : x_V RX10 209 5 yX6_addedUp cX6_addedUp 3 (some .int) 0 := ⟨_, _, _, rfl, w_758, w_759, w_760, w_9, w_761, by decide +kernel⟩
theorem cv_RX10_212_9 : x_V RX10 212 9 yX10_plan cX10_plan 7 (some .int) 1 := ⟨_, _, _, rfl, w_763, w_737, w_738, w_1, w_739, by decide +kernel⟩
theorem cv_RX10_215_8 : x_V RX10 215 8 yX9_pages cX9_pages 1 (some .int) 0 := ⟨_, _, _, rfl, w_764, w_765, w_766, w_7, w_767, by decide +kernel⟩
theorem cu_RX10_218_1 : x_U RX10 218 1 "IndexDesk$Aid" ⟨"IndexDesk$Aid", "fetched", "(LIndexDesk$Question;)I"⟩ yX4_fetched cX4_fetched 7 (some .int) 1 := ⟨_, _, _, rfl, w_768, w_770, w_771, w_772, w_16, w_773, Or.inr (Or.inr (by decide +kernel)), by decide +kernel⟩
theorem cu_RX10_218_2 : x_U RX10 218 2 "IndexDesk$Aid" ⟨"IndexDesk$Aid", "fetched", "(LIndexDesk$Question;)I"⟩ yX4_fetched cX4_fetched 7 (some .int) 1 := ⟨_, _, _, rfl, w_768, w_770, w_795, w_772, w_16, w_773, Or.inr (Or.inr (by decide +kernel)), by decide +kernel⟩
theorem cu_RX10_218_3 : x_U RX10 218 3 "IndexDesk$Aid" ⟨"IndexDesk$Aid", "fetched", "(LIndexDesk$Question;)I"⟩ yX4_fetched cX4_fetched 7 (some .int) 1 := ⟨_, _, _, rfl, w_768, w_770, w_796, w_772, w_16, w_773, Or.inr (Or.inr (by decide +kernel)), by decide +kernel⟩
theorem cu_RX10_218_4 : x_U RX10 218 4 "IndexDesk$Aid" ⟨"IndexDesk$Aid", "fetched", "(LIndexDesk$Question;)I"⟩ yX4_fetched cX4_fetched 7 (some .int) 1 := ⟨_, _, _, rfl, w_768, w_770, w_797, w_772, w_16, w_773, Or.inr (Or.inr (by decide +kernel)), by decide +kernel⟩
theorem cu_RX10_218_7 : x_U RX10 218 7 "IndexDesk$Aid" ⟨"IndexDesk$Aid", "fetched", "(LIndexDesk$Question;)I"⟩ yX8_fetched cX8_fetched 2 (some .int) 1 := ⟨_, _, _, rfl, w_768, w_770, w_798, w_799, w_22, w_800, Or.inr (Or.inr (by decide +kernel)), by decide +kernel⟩
theorem cv_RX10_221_9 : x_V RX10 221 9 yX10_isSet cX10_isSet 3 (some .boolean) 1 := ⟨_, _, _, rfl, w_806, w_808, ws_18, w_1, w_809, by decide +kernel⟩
theorem cs_RX10_224 : x_S RX10 224 yX10_isIn cX10_isIn 2 (some .boolean) 2 := ⟨w_810, w_237, w_1, w_238, by decide +kernel⟩
theorem cv_RX10_227_6 : x_V RX10 227 6 yX7_cheapest cX7_cheapest 2 (some .int) 1 := ⟨_, _, _, rfl, w_820, w_821, w_822, w_5, w_823, by decide +kernel⟩
theorem cv_RX10_230_6 : x_V RX10 230 6 yX7_gathered cX7_gathered 6 (some .int) 1 := ⟨_, _, _, rfl, w_842, w_843, w_844, w_5, w_845, by decide +kernel⟩
theorem cv_RX10_233_9 : x_V RX10 233 9 yX10_tablesTold cX10_tablesTold 6 (some .int) 0 := ⟨_, _, _, rfl, w_858, w_860, ws_24, w_1, w_861, by decide +kernel⟩
theorem cv_RX10_236_9 : x_V RX10 236 9 yX10_rowsInAll cX10_rowsInAll 6 (some .int) 0 := ⟨_, _, _, rfl, w_862, w_864, ws_25, w_1, w_865, by decide +kernel⟩
theorem f_RX11_7_10 : x_F RX11 7 10 0 := ⟨_, _, _, "IndexDeskModel", rfl, by decide, ui_10, w_872, Or.inl rfl⟩
theorem f_RX11_13_10 : x_F RX11 13 10 1 := ⟨_, _, _, "IndexDeskModel", rfl, by decide, ui_10, w_873, Or.inl rfl⟩
theorem f_RX11_16_10 : x_F RX11 16 10 2 := ⟨_, _, _, "IndexDeskModel", rfl, by decide, ui_10, w_874, Or.inl rfl⟩
theorem f_RX11_19_10 : x_F RX11 19 10 3 := ⟨_, _, _, "IndexDeskModel", rfl, by decide, ui_10, w_875, Or.inl rfl⟩
theorem f_RX11_22_10 : x_F RX11 22 10 4 := ⟨_, _, _, "IndexDeskModel", rfl, by decide, ui_10, w_876, Or.inl rfl⟩
theorem f_RX11_25_10 : x_F RX11 25 10 5 := ⟨_, _, _, "IndexDeskModel", rfl, by decide, ui_10, w_877, Or.inl rfl⟩
theorem f_RX11_28_10 : x_F RX11 28 10 6 := ⟨_, _, _, "IndexDeskModel", rfl, by decide, ui_10, w_878, Or.inl rfl⟩
theorem f_RX11_31_10 : x_F RX11 31 10 7 := ⟨_, _, _, "IndexDeskModel", rfl, by decide, ui_10, w_879, Or.inl rfl⟩
theorem f_RX11_34_10 : x_F RX11 34 10 8 := ⟨_, _, _, "IndexDeskModel", rfl, by decide, ui_10, w_880, Or.inl rfl⟩
theorem f_RX11_37_10 : x_F RX11 37 10 10 := ⟨_, _, _, "IndexDeskModel", rfl, by decide, ui_10, w_882, Or.inl rfl⟩
theorem f_RX11_40_10 : x_F RX11 40 10 11 := ⟨_, _, _, "IndexDeskModel", rfl, by decide, ui_10, w_883, Or.inl rfl⟩
theorem f_RX11_43_10 : x_F RX11 43 10 12 := ⟨_, _, _, "IndexDeskModel", rfl, by decide, ui_10, w_884, Or.inl rfl⟩
theorem f_RX11_46_10 : x_F RX11 46 10 13 := ⟨_, _, _, "IndexDeskModel", rfl, by decide, ui_10, w_885, Or.inl rfl⟩
theorem f_RX11_49_10 : x_F RX11 49 10 14 := ⟨_, _, _, "IndexDeskModel", rfl, by decide, ui_10, w_886, Or.inl rfl⟩
theorem f_RX11_53_10 : x_F RX11 53 10 15 := ⟨_, _, _, "IndexDeskModel", rfl, by decide, ui_10, w_887, Or.inl rfl⟩
theorem f_RX11_56_10 : x_F RX11 56 10 16 := ⟨_, _, _, "IndexDeskModel", rfl, by decide, ui_10, w_888, Or.inl rfl⟩
theorem f_RX11_59_10 : x_F RX11 59 10 19 := ⟨_, _, _, "IndexDeskModel", rfl, by decide, ui_10, w_891, Or.inl rfl⟩
theorem f_RX11_62_10 : x_F RX11 62 10 20 := ⟨_, _, _, "IndexDeskModel", rfl, by decide, ui_10, w_892, Or.inl rfl⟩
theorem f_RX11_65_10 : x_F RX11 65 10 21 := ⟨_, _, _, "IndexDeskModel", rfl, by decide, ui_10, w_893, Or.inl rfl⟩
theorem f_RX11_68_10 : x_F RX11 68 10 22 := ⟨_, _, _, "IndexDeskModel", rfl, by decide, ui_10, w_894, Or.inl rfl⟩
theorem f_RX11_71_10 : x_F RX11 71 10 23 := ⟨_, _, _, "IndexDeskModel", rfl, by decide, ui_10, w_895, Or.inl rfl⟩
theorem f_RX11_74_10 : x_F RX11 74 10 24 := ⟨_, _, _, "IndexDeskModel", rfl, by decide, ui_10, w_896, Or.inl rfl⟩
theorem f_RX11_77_10 : x_F RX11 77 10 25 := ⟨_, _, _, "IndexDeskModel", rfl, by decide, ui_10, w_897, Or.inl rfl⟩
theorem f_RX11_80_10 : x_F RX11 80 10 26 := ⟨_, _, _, "IndexDeskModel", rfl, by decide, ui_10, w_898, Or.inl rfl⟩
theorem f_RX11_83_10 : x_F RX11 83 10 27 := ⟨_, _, _, "IndexDeskModel", rfl, by decide, ui_10, w_899, Or.inl rfl⟩
theorem f_RX11_86_10 : x_F RX11 86 10 28 := ⟨_, _, _, "IndexDeskModel", rfl, by decide, ui_10, w_900, Or.inl rfl⟩
theorem cs_RX11_89 : x_S RX11 89 yX11_lies cX11_lies 3 (some .boolean) 3 := ⟨w_965, w_966, w_6, w_967, by decide +kernel⟩
theorem cv_RX11_93_10 : x_V RX11 93 10 yX11_isTable cX11_isTable 2 (some .boolean) 1 := ⟨_, _, _, rfl, w_972, w_974, ws_26, w_6, w_975, by decide +kernel⟩
theorem cs_RX11_97 : x_S RX11 97 yX11_isIn cX11_isIn 2 (some .boolean) 2 := ⟨w_1042, w_1043, w_6, w_1044, by decide +kernel⟩
theorem cv_RX11_101_10 : x_V RX11 101 10 yX11_at cX11_at 4 (some .int) 3 := ⟨_, _, _, rfl, w_984, w_986, ws_27, w_6, w_987, by decide +kernel⟩
theorem cs_RX11_105 : x_S RX11 105 yX11_up cX11_up 2 (some .int) 2 := ⟨w_996, w_997, w_6, w_998, by decide +kernel⟩
theorem cv_RX11_109_10 : x_V RX11 109 10 yX11_pages cX11_pages 2 (some .int) 1 := ⟨_, _, _, rfl, w_992, w_994, ws_28, w_6, w_995, by decide +kernel⟩
theorem cv_RX11_113_10 : x_V RX11 113 10 yX11_isColumn cX11_isColumn 3 (some .boolean) 2 := ⟨_, _, _, rfl, w_999, w_1001, ws_29, w_6, w_1002, by decide +kernel⟩
theorem f_RX11_116_10 : x_F RX11 116 10 9 := ⟨_, _, _, "IndexDeskModel", rfl, by decide, ui_10, w_881, Or.inl rfl⟩
theorem cv_RX11_120_10 : x_V RX11 120 10 yX11_isQuestion cX11_isQuestion 2 (some .boolean) 1 := ⟨_, _, _, rfl, w_1015, w_1017, ws_30, w_6, w_1018, by decide +kernel⟩
theorem f_RX11_123_10 : x_F RX11 123 10 17 := ⟨_, _, _, "IndexDeskModel", rfl, by decide, ui_10, w_889, Or.inl rfl⟩
theorem cv_RX11_126_10 : x_V RX11 126 10 yX11_inTurn cX11_inTurn 5 (some .int) 4 := ⟨_, _, _, rfl, w_1023, w_1025, ws_31, w_6, w_1026, by decide +kernel⟩
theorem cv_RX11_130_10 : x_V RX11 130 10 yX11_aid cX11_aid 6 (some .int) 5 := ⟨_, _, _, rfl, w_1027, w_1029, ws_32, w_6, w_1030, by decide +kernel⟩
theorem cs_RX11_134 : x_S RX11 134 yX11_size cX11_size 3 (some .int) 1 := ⟨w_1039, w_1040, w_6, w_1041, by decide +kernel⟩
theorem cv_RX11_137_10 : x_V RX11 137 10 yX11_isAid cX11_isAid 2 (some .boolean) 1 := ⟨_, _, _, rfl, w_1049, w_1051, ws_33, w_6, w_1052, by decide +kernel⟩
theorem f_RX11_140_10 : x_F RX11 140 10 18 := ⟨_, _, _, "IndexDeskModel", rfl, by decide, ui_10, w_890, Or.inl rfl⟩
theorem cv_RX11_143_10 : x_V RX11 143 10 yX11_isSet cX11_isSet 4 (some .boolean) 1 := ⟨_, _, _, rfl, w_1053, w_1055, ws_34, w_6, w_1056, by decide +kernel⟩
theorem cv_RX11_146_10 : x_V RX11 146 10 yX11_passes cX11_passes 9 (some .int) 5 := ⟨_, _, _, rfl, w_1089, w_1091, ws_42, w_6, w_1092, by decide +kernel⟩
theorem cv_RX11_149_10 : x_V RX11 149 10 yX11_own cX11_own 2 (some .int) 1 := ⟨_, _, _, rfl, w_1085, w_1087, ws_41, w_6, w_1088, by decide +kernel⟩
theorem cv_RX11_152_10 : x_V RX11 152 10 yX11_uses cX11_uses 5 (some .int) 2 := ⟨_, _, _, rfl, w_1069, w_1071, ws_37, w_6, w_1072, by decide +kernel⟩
theorem cv_RX11_155_10 : x_V RX11 155 10 yX11_groups cX11_groups 5 (some .int) 1 := ⟨_, _, _, rfl, w_1077, w_1079, ws_39, w_6, w_1080, by decide +kernel⟩
theorem cv_RX11_158_10 : x_V RX11 158 10 yX11_tested cX11_tested 4 (some .int) 1 := ⟨_, _, _, rfl, w_1065, w_1067, ws_36, w_6, w_1068, by decide +kernel⟩
theorem cv_RX11_161_10 : x_V RX11 161 10 yX11_matched cX11_matched 7 (some .int) 2 := ⟨_, _, _, rfl, w_1081, w_1083, ws_40, w_6, w_1084, by decide +kernel⟩
theorem cv_RX11_164_10 : x_V RX11 164 10 yX11_covers cX11_covers 3 (some .boolean) 2 := ⟨_, _, _, rfl, w_1093, w_1095, ws_43, w_6, w_1096, by decide +kernel⟩
theorem cv_RX11_167_10 : x_V RX11 167 10 yX11_helps cX11_helps 4 (some .boolean) 2 := ⟨_, _, _, rfl, w_1061, w_1063, ws_35, w_6, w_1064, by decide +kernel⟩
theorem cv_RX11_170_10 : x_V RX11 170 10 yX11_costOf cX11_costOf 6 (some .int) 2 := ⟨_, _, _, rfl, w_1073, w_1075, ws_38, w_6, w_1076, by decide +kernel⟩
theorem cv_RX11_173_10 : x_V RX11 173 10 yX11_cost cX11_cost 3 (some .int) 2 := ⟨_, _, _, rfl, w_1105, w_1058, w_1059, w_6, w_1060, by decide +kernel⟩
theorem cv_RX11_176_10 : x_V RX11 176 10 yX11_planOf cX11_planOf 5 (some .int) 2 := ⟨_, _, _, rfl, w_1101, w_1103, ws_44, w_6, w_1104, by decide +kernel⟩
theorem cv_RX11_179_10 : x_V RX11 179 10 yX11_passesNow cX11_passesNow 6 (some .boolean) 5 := ⟨_, _, _, rfl, w_1114, w_1116, ws_46, w_6, w_1117, by decide +kernel⟩
theorem cv_RX11_183_10 : x_V RX11 183 10 yX11_alike cX11_alike 6 (some .boolean) 4 := ⟨_, _, _, rfl, w_1122, w_1124, ws_48, w_6, w_1125, by decide +kernel⟩
theorem cv_RX11_187_10 : x_V RX11 187 10 yX11_matchesNow cX11_matchesNow 8 (some .boolean) 3 := ⟨_, _, _, rfl, w_1126, w_1128, ws_49, w_6, w_1129, by decide +kernel⟩
theorem cv_RX11_190_10 : x_V RX11 190 10 yX11_answers cX11_answers 4 (some .boolean) 2 := ⟨_, _, _, rfl, w_1110, w_1112, ws_45, w_6, w_1113, by decide +kernel⟩
theorem cv_RX11_193_10 : x_V RX11 193 10 yX11_fetched cX11_fetched 8 (some .int) 1 := ⟨_, _, _, rfl, w_1118, w_1120, ws_47, w_6, w_1121, by decide +kernel⟩
theorem cv_RX11_196_10 : x_V RX11 196 10 yX11_keeping cX11_keeping 2 (some .int) 1 := ⟨_, _, _, rfl, w_1138, w_1140, ws_51, w_6, w_1141, by decide +kernel⟩
theorem cv_RX11_199_10 : x_V RX11 199 10 yX11_roomOf cX11_roomOf 3 (some .int) 1 := ⟨_, _, _, rfl, w_1151, w_1153, ws_53, w_6, w_1154, by decide +kernel⟩
theorem cv_RX11_202_10 : x_V RX11 202 10 yX11_totalOf cX11_totalOf 5 (some .long) 1 := ⟨_, _, _, rfl, w_1134, w_1136, ws_50, w_6, w_1137, by decide +kernel⟩
theorem cv_RX11_208_10 : x_V RX11 208 10 yX11_roomOfSet cX11_roomOfSet 4 (some .int) 1 := ⟨_, _, _, rfl, w_1147, w_1149, ws_52, w_6, w_1150, by decide +kernel⟩
theorem cv_RX11_211_10 : x_V RX11 211 10 yX11_works cX11_works 3 none 0 := ⟨_, _, _, rfl, w_1167, w_1169, ws_54, w_6, w_1170, by decide +kernel⟩
theorem cv_RX11_214_10 : x_V RX11 214 10 yX11_totalWorked cX11_totalWorked 7 (some .long) 1 := ⟨_, _, _, rfl, w_1171, w_1173, ws_55, w_6, w_1174, by decide +kernel⟩
theorem cs_RX11_217 : x_S RX11 217 yX11_isAhead cX11_isAhead 3 (some .boolean) 2 := ⟨w_1175, w_1176, w_6, w_1177, by decide +kernel⟩
theorem f_RJxc12de_7_0 : x_F RJxc12de 7 0 0 := ⟨_, _, _, "java/util/AbstractList", rfl, by decide, ui_0, w_49, Or.inl rfl⟩
theorem f_RJx4a65c_9_0 : x_F RJx4a65c 9 0 1 := ⟨_, _, _, "java/util/ArrayList", rfl, by decide, ui_0, w_47, Or.inl rfl⟩
theorem cs_RJx4a65c_73 : x_S RJx4a65c 73 yJ8_newLength_cabcc cJ8_newLength_cabcc 4 (some .int) 3 := ⟨w_334, w_335, w_10, w_336, by decide +kernel⟩
theorem cs_RJx4a65c_66 : x_S RJx4a65c 66 yJ7_copyOf_1904c cJ7_copyOf_1904c 2 (some (.array (.object "java/lang/Object"))) 2 := ⟨w_342, w_343, w_11, w_344, by decide +kernel⟩
theorem cs_RJx4a65c_79 : x_S RJx4a65c 79 yJ9_max_7cf53 cJ9_max_7cf53 2 (some .int) 2 := ⟨w_370, w_247, w_8, w_248, by decide +kernel⟩
theorem f_RJx4a65c_48_0 : x_F RJx4a65c 48 0 2 := ⟨_, _, _, "java/util/ArrayList", rfl, by decide, ui_0, w_48, Or.inl rfl⟩
theorem cv_RJx4a65c_69_0 : x_V RJx4a65c 69 0 yJx4a65c_grow_92f84 cJx4a65c_grow_92f84 4 (some (.array (.object "java/lang/Object"))) 1 := ⟨_, _, _, rfl, w_330, w_332, ws_9, w_4, w_333, by decide +kernel⟩
theorem cs_RJx4a65c_118 : x_S RJx4a65c 118 yJ15_checkIndex_7cf53 cJ15_checkIndex_7cf53 2 (some .int) 2 := ⟨w_384, w_385, w_13, w_386, by decide +kernel⟩
theorem cv_RJx4a65c_123_0 : x_V RJx4a65c 123 0 yJx4a65c_elementData_915e3 cJx4a65c_elementData_915e3 2 (some (.object "java/lang/Object")) 1 := ⟨_, _, _, rfl, w_390, w_391, w_392, w_4, w_393, by decide +kernel⟩
theorem cv_RJx4a65c_129_0 : x_V RJx4a65c 129 0 yJx4a65c_grow_d5877 cJx4a65c_grow_d5877 1 (some (.array (.object "java/lang/Object"))) 0 := ⟨_, _, _, rfl, w_326, w_328, ws_8, w_4, w_329, by decide +kernel⟩
theorem f_RJx4a65c_63_0 : x_F RJx4a65c 63 0 0 := ⟨_, _, _, "java/util/ArrayList", rfl, by decide, ui_0, w_50, Or.inr w_51⟩
theorem cv_RJx4a65c_131_0 : x_V RJx4a65c 131 0 yJx4a65c_add_72be8 cJx4a65c_add_72be8 4 none 3 := ⟨_, _, _, rfl, w_322, w_324, ws_7, w_4, w_325, by decide +kernel⟩
theorem cs_RJ7_300 : x_S RJ7 300 yJ7_copyOf_6403c cJ7_copyOf_6403c 4 (some (.array (.object "java/lang/Object"))) 3 := ⟨w_360, w_361, w_11, w_362, by decide +kernel⟩
theorem cs_RJ7_304 : x_S RJ7 304 yJ9_min_7cf53 cJ9_min_7cf53 2 (some .int) 2 := ⟨w_366, w_244, w_8, w_245, by decide +kernel⟩
theorem cs_RJ15_105 : x_S RJ15 105 yJ3_checkIndex_8e157 cJ3_checkIndex_8e157 3 (some .int) 3 := ⟨w_387, w_388, w_14, w_389, by decide +kernel⟩
theorem cs_RJ8_194 : x_S RJ8 194 yJ9_max_7cf53 cJ9_max_7cf53 2 (some .int) 2 := ⟨w_337, w_247, w_8, w_248, by decide +kernel⟩
theorem cs_RJ8_201 : x_S RJ8 201 yJ8_hugeLength_7cf53 cJ8_hugeLength_7cf53 3 (some .int) 2 := ⟨w_339, w_340, w_10, w_341, by decide +kernel⟩
theorem cv_RL_13_9 : x_V RL 13 9 yX10_table cX10_table 4 (some .boolean) 3 := ⟨_, _, _, rfl, w_112, w_113, w_114, w_1, w_115, by decide +kernel⟩
theorem cv_RL_17_10 : x_V RL 17 10 yX11_table cX11_table 4 (some .boolean) 3 := ⟨_, _, _, rfl, w_961, w_962, w_963, w_6, w_964, by decide +kernel⟩
theorem cv_RL_18_9 : x_V RL 18 9 yX10_put cX10_put 7 (some .int) 5 := ⟨_, _, _, rfl, w_168, w_169, w_170, w_1, w_171, by decide +kernel⟩
theorem cv_RL_22_10 : x_V RL 22 10 yX11_put cX11_put 7 (some .int) 5 := ⟨_, _, _, rfl, w_968, w_969, w_970, w_6, w_971, by decide +kernel⟩
theorem cv_RL_23_9 : x_V RL 23 9 yX10_strike cX10_strike 4 (some .boolean) 2 := ⟨_, _, _, rfl, w_201, w_202, w_203, w_1, w_204, by decide +kernel⟩
theorem cv_RL_27_10 : x_V RL 27 10 yX11_strike cX11_strike 4 (some .boolean) 2 := ⟨_, _, _, rfl, w_976, w_977, w_978, w_6, w_979, by decide +kernel⟩
theorem cv_RL_28_9 : x_V RL 28 9 yX10_recount cX10_recount 3 (some .int) 1 := ⟨_, _, _, rfl, w_213, w_214, w_215, w_1, w_216, by decide +kernel⟩
theorem cv_RL_32_10 : x_V RL 32 10 yX11_recount cX11_recount 8 (some .int) 1 := ⟨_, _, _, rfl, w_980, w_981, w_982, w_6, w_983, by decide +kernel⟩
theorem cv_RL_33_9 : x_V RL 33 9 yX10_counts cX10_counts 5 (some .int) 3 := ⟨_, _, _, rfl, w_249, w_250, w_251, w_1, w_252, by decide +kernel⟩
theorem cv_RL_37_10 : x_V RL 37 10 yX11_counts cX11_counts 4 (some .int) 3 := ⟨_, _, _, rfl, w_988, w_989, w_990, w_6, w_991, by decide +kernel⟩
theorem cv_RL_38_9 : x_V RL 38 9 yX10_changes cX10_changes 4 (some .boolean) 2 := ⟨_, _, _, rfl, w_264, w_265, w_266, w_1, w_267, by decide +kernel⟩
theorem cv_RL_41_10 : x_V RL 41 10 yX11_changes cX11_changes 3 (some .boolean) 2 := ⟨_, _, _, rfl, w_1003, w_1004, w_1005, w_6, w_1006, by decide +kernel⟩
theorem cv_RL_42_9 : x_V RL 42 9 yX10_question cX10_question 6 (some .int) 4 := ⟨_, _, _, rfl, w_268, w_269, w_270, w_1, w_271, by decide +kernel⟩
theorem cv_RL_46_10 : x_V RL 46 10 yX11_question cX11_question 5 (some .int) 4 := ⟨_, _, _, rfl, w_1007, w_1008, w_1009, w_6, w_1010, by decide +kernel⟩
theorem cv_RL_47_9 : x_V RL 47 9 yX10_test cX10_test 6 (some .boolean) 4 := ⟨_, _, _, rfl, w_372, w_373, w_374, w_1, w_375, by decide +kernel⟩
theorem cv_RL_51_10 : x_V RL 51 10 yX11_test cX11_test 5 (some .boolean) 4 := ⟨_, _, _, rfl, w_1011, w_1012, w_1013, w_6, w_1014, by decide +kernel⟩
theorem cv_RL_52_9 : x_V RL 52 9 yX10_order cX10_order 9 (some .int) 6 := ⟨_, _, _, rfl, w_404, w_405, w_406, w_1, w_407, by decide +kernel⟩
theorem cv_RL_56_10 : x_V RL 56 10 yX11_order cX11_order 9 (some .int) 6 := ⟨_, _, _, rfl, w_1019, w_1020, w_1021, w_6, w_1022, by decide +kernel⟩
theorem cv_RL_57_9 : x_V RL 57 9 yX10_part cX10_part 8 (some .int) 6 := ⟨_, _, _, rfl, w_491, w_492, w_493, w_1, w_494, by decide +kernel⟩
theorem cv_RL_60_10 : x_V RL 60 10 yX11_part cX11_part 8 (some .int) 6 := ⟨_, _, _, rfl, w_1031, w_1032, w_1033, w_6, w_1034, by decide +kernel⟩
theorem cv_RL_61_9 : x_V RL 61 9 yX10_sums cX10_sums 5 (some .int) 3 := ⟨_, _, _, rfl, w_516, w_517, w_518, w_1, w_519, by decide +kernel⟩
theorem cv_RL_64_10 : x_V RL 64 10 yX11_sums cX11_sums 5 (some .int) 3 := ⟨_, _, _, rfl, w_1035, w_1036, w_1037, w_6, w_1038, by decide +kernel⟩
theorem cv_RL_65_9 : x_V RL 65 9 yX10_build cX10_build 4 (some .boolean) 2 := ⟨_, _, _, rfl, w_542, w_543, w_544, w_1, w_545, by decide +kernel⟩
theorem cv_RL_69_10 : x_V RL 69 10 yX11_build cX11_build 3 (some .boolean) 2 := ⟨_, _, _, rfl, w_1045, w_1046, w_1047, w_6, w_1048, by decide +kernel⟩
theorem cv_RL_70_9 : x_V RL 70 9 yX10_look cX10_look 4 (some .long) 2 := ⟨_, _, _, rfl, w_558, w_559, w_560, w_1, w_561, by decide +kernel⟩
theorem cv_RL_74_10 : x_V RL 74 10 yX11_look cX11_look 3 (some .long) 2 := ⟨_, _, _, rfl, w_1159, w_1160, w_1161, w_6, w_1162, by decide +kernel⟩
theorem cv_RL_75_9 : x_V RL 75 9 yX10_cost cX10_cost 5 (some .int) 2 := ⟨_, _, _, rfl, w_730, w_731, w_732, w_1, w_733, by decide +kernel⟩
theorem cv_RL_79_10 : x_V RL 79 10 yX11_cost cX11_cost 3 (some .int) 2 := ⟨_, _, _, rfl, w_1057, w_1058, w_1059, w_6, w_1060, by decide +kernel⟩
theorem cv_RL_80_9 : x_V RL 80 9 yX10_plan cX10_plan 7 (some .int) 1 := ⟨_, _, _, rfl, w_736, w_737, w_738, w_1, w_739, by decide +kernel⟩
theorem cv_RL_83_10 : x_V RL 83 10 yX11_plan cX11_plan 2 (some .int) 1 := ⟨_, _, _, rfl, w_1097, w_1098, w_1099, w_6, w_1100, by decide +kernel⟩
theorem cv_RL_84_9 : x_V RL 84 9 yX10_run cX10_run 5 (some .int) 2 := ⟨_, _, _, rfl, w_741, w_742, w_743, w_1, w_744, by decide +kernel⟩
theorem cv_RL_87_10 : x_V RL 87 10 yX11_run cX11_run 7 (some .int) 2 := ⟨_, _, _, rfl, w_1106, w_1107, w_1108, w_6, w_1109, by decide +kernel⟩
theorem cv_RL_88_9 : x_V RL 88 9 yX10_total cX10_total 2 (some .long) 1 := ⟨_, _, _, rfl, w_802, w_803, w_804, w_1, w_805, by decide +kernel⟩
theorem cv_RL_92_10 : x_V RL 92 10 yX11_total cX11_total 2 (some .long) 1 := ⟨_, _, _, rfl, w_1130, w_1131, w_1132, w_6, w_1133, by decide +kernel⟩
theorem cv_RL_93_9 : x_V RL 93 9 yX10_room cX10_room 4 (some .int) 1 := ⟨_, _, _, rfl, w_811, w_812, w_813, w_1, w_814, by decide +kernel⟩
theorem cv_RL_96_10 : x_V RL 96 10 yX11_room cX11_room 2 (some .int) 1 := ⟨_, _, _, rfl, w_1143, w_1144, w_1145, w_6, w_1146, by decide +kernel⟩
theorem cv_RL_97_9 : x_V RL 97 9 yX10_built cX10_built 3 (some .int) 0 := ⟨_, _, _, rfl, w_815, w_555, w_556, w_1, w_557, by decide +kernel⟩
theorem cv_RL_101_10 : x_V RL 101 10 yX11_built cX11_built 1 (some .int) 0 := ⟨_, _, _, rfl, w_1155, w_1156, w_1157, w_6, w_1158, by decide +kernel⟩
theorem cv_RL_102_9 : x_V RL 102 9 yX10_choose cX10_choose 2 (some .int) 1 := ⟨_, _, _, rfl, w_816, w_817, w_818, w_1, w_819, by decide +kernel⟩
theorem cv_RL_105_10 : x_V RL 105 10 yX11_choose cX11_choose 8 (some .int) 1 := ⟨_, _, _, rfl, w_1163, w_1164, w_1165, w_6, w_1166, by decide +kernel⟩
theorem cv_RL_106_9 : x_V RL 106 9 yX10_greedy cX10_greedy 2 (some .int) 1 := ⟨_, _, _, rfl, w_838, w_839, w_840, w_1, w_841, by decide +kernel⟩
theorem cv_RL_109_10 : x_V RL 109 10 yX11_greedy cX11_greedy 12 (some .int) 1 := ⟨_, _, _, rfl, w_1178, w_1179, w_1180, w_6, w_1181, by decide +kernel⟩
theorem cv_RL_110_9 : x_V RL 110 9 yX10_count cX10_count 2 (some .int) 1 := ⟨_, _, _, rfl, w_854, w_855, w_856, w_1, w_857, by decide +kernel⟩
theorem cv_RL_113_10 : x_V RL 113 10 yX11_count cX11_count 4 (some .int) 1 := ⟨_, _, _, rfl, w_1182, w_1183, w_1184, w_6, w_1185, by decide +kernel⟩
end
section
abbrev x_w (l : Launch) (d : Nat) (p : Program) (e : Env) (s : State) (m : MethodId) (av : Array Value) (below : List Frame) (meth : Method) (c : Code) (v : Option Value) (pc : Nat) (ls : Array Slot) (st : List Value) : Prop :=
  W p l e (x_rm d) s m av below meth c s.heap [] 0 0 (MQ below (x_Qr v) av s 0 0 (fun _ => False)) (F0 m pc ls st)
section XW2
variable {p : Program} {l : Launch} {e : Env} {R : Room} {s : State} {m : MethodId} {args : Array Value} {below : List Frame} {meth : Method} {c : Code} {H : Heap} {locs : List Loc} {cells slots : Nat} {Q : State → Prop}
variable {cc : ByteArray} {pc : Nat} {ls : Array Slot} {rest : List Value} {G : x_G} {lo : x_L} {co : x_C} {nL : Nat} {own : String}
theorem x_ialdN {t n k : Nat} {f : Nat → Int32} (cx : CallFix p m c cc nL s args x_gw own) (hk : x_K G s) (hw : x_R G lo co H) (ha : co t = some (.inl (G.2 0, n, .inl f))) (hlt : k < n) (hn : n < 2 ^ 31) (hdg : decode cc pc = .ok (.iaload, 1))
    (kk : W p l e R s m args below meth c H locs cells slots Q (F0 m (pc + 1) ls (.int (f k) :: rest))) : W p l e R s m args below meth c H locs cells slots Q (F0 m pc ls (.int (nI k) :: .ref (lo t) :: rest)) := by
  refine x_iald cx hk hw ha (vp_in_nI hlt hn) hdg ?_
  rw [nI_clamp (Nat.lt_trans hlt hn)]; exact kk
theorem x_ialdL {t n : Nat} {f : Nat → Int32} {i : Int32} (k : Nat) (cx : CallFix p m c cc nL s args x_gw own) (hk : x_K G s) (hw : x_R G lo co H) (ha : co t = some (.inl (G.2 0, n, .inl f))) (hlt : k < n) (hn : n < 2 ^ 31) (hi : i = nI k) (hdg : decode cc pc = .ok (.iaload, 1))
    (kk : W p l e R s m args below meth c H locs cells slots Q (F0 m (pc + 1) ls (.int (f k) :: rest))) : W p l e R s m args below meth c H locs cells slots Q (F0 m pc ls (.int i :: .ref (lo t) :: rest)) := by
  subst hi; exact x_ialdN cx hk hw ha hlt hn hdg kk
theorem x_zaldN {t n k : Nat} {f : Nat → Int32} (cx : CallFix p m c cc nL s args x_gw own) (hk : x_K G s) (hw : x_R G lo co H) (ha : co t = some (.inl (G.2 1, n, .inl f))) (hlt : k < n) (hn : n < 2 ^ 31) (hdg : decode cc pc = .ok (.baload, 1))
    (kk : W p l e R s m args below meth c H locs cells slots Q (F0 m (pc + 1) ls (.int (f k) :: rest))) : W p l e R s m args below meth c H locs cells slots Q (F0 m pc ls (.int (nI k) :: .ref (lo t) :: rest)) := by
  refine x_zald cx hk hw ha (vp_in_nI hlt hn) hdg ?_
  rw [nI_clamp (Nat.lt_trans hlt hn)]; exact kk
theorem x_aaldI {t n : Nat} {f : Nat → Option Nat} {i : Int32} (cx : CallFix p m c cc nL s args x_gw own) (hk : x_K G s) (hw : x_R G lo co H) (ha : co t = some (.inl (G.2 4, n, .inr (.inr (.inr (.inr f)))))) (hin : vp_in i n) (hdg : decode cc pc = .ok (.aaload, 1))
    (kk : W p l e R s m args below meth c H locs cells slots Q (F0 m (pc + 1) ls (va_rf (f i.toNatClampNeg) :: rest))) : W p l e R s m args below meth c H locs cells slots Q (F0 m pc ls (.int i :: .ref (lo t) :: rest)) := by
  have hlt : i.toNatClampNeg < n := Nat.not_le.mp fun q => hin (Or.inr q)
  exact W.aald (v := va_rf (f i.toNatClampNeg)) cx.1 cx.2.1 (hw t _ ha) ((hk.1.2 4 (G.2 4, .array .int) rfl).1 n (fun j => va_rf (f j))) rfl (fun q => by cases q) (by show ¬ (i < 0 ∨ (arrV _ _ _).slots.size ≤ _); rw [arrV_size]; exact hin) (by show (arrV _ _ _).slots[_]? = _; rw [arrV_read _ _ hlt]) rfl rfl hdg kk
theorem x_aaldTN {t n k : Nat} {f : Nat → Option Nat} {v : Value} (cx : CallFix p m c cc nL s args x_gw own) (hk : x_K G s) (hw : x_R G lo co H) (ha : co t = some (.inl (G.2 2, n, .inr (.inr (.inr (.inr f)))))) (hlt : k < n) (hn : n < 2 ^ 31) (hv : va_rf (f k) = v) (hdg : decode cc pc = .ok (.aaload, 1))
    (kk : W p l e R s m args below meth c H locs cells slots Q (F0 m (pc + 1) ls (v :: rest))) : W p l e R s m args below meth c H locs cells slots Q (F0 m pc ls (.int (nI k) :: .ref (lo t) :: rest)) := by
  refine x_aaldT cx hk hw ha (vp_in_nI hlt hn) hdg ?_
  rw [nI_clamp (Nat.lt_trans hlt hn), hv]; exact kk
theorem x_aaldON {t n k : Nat} {f : Nat → Option Nat} {v : Value} (cx : CallFix p m c cc nL s args x_gw own) (hk : x_K G s) (hw : x_R G lo co H) (ha : co t = some (.inl (G.2 3, n, .inr (.inr (.inr (.inr f)))))) (hlt : k < n) (hn : n < 2 ^ 31) (hv : va_rf (f k) = v) (hdg : decode cc pc = .ok (.aaload, 1))
    (kk : W p l e R s m args below meth c H locs cells slots Q (F0 m (pc + 1) ls (v :: rest))) : W p l e R s m args below meth c H locs cells slots Q (F0 m pc ls (.int (nI k) :: .ref (lo t) :: rest)) := by
  refine x_aaldO cx hk hw ha (vp_in_nI hlt hn) hdg ?_
  rw [nI_clamp (Nat.lt_trans hlt hn), hv]; exact kk
theorem x_aaldIN {t n k : Nat} {f : Nat → Option Nat} {v : Value} (cx : CallFix p m c cc nL s args x_gw own) (hk : x_K G s) (hw : x_R G lo co H) (ha : co t = some (.inl (G.2 4, n, .inr (.inr (.inr (.inr f)))))) (hlt : k < n) (hn : n < 2 ^ 31) (hv : va_rf (f k) = v) (hdg : decode cc pc = .ok (.aaload, 1))
    (kk : W p l e R s m args below meth c H locs cells slots Q (F0 m (pc + 1) ls (v :: rest))) : W p l e R s m args below meth c H locs cells slots Q (F0 m pc ls (.int (nI k) :: .ref (lo t) :: rest)) := by
  refine x_aaldI cx hk hw ha (vp_in_nI hlt hn) hdg ?_
  rw [nI_clamp (Nat.lt_trans hlt hn), hv]; exact kk
theorem x_aaldIL {t n : Nat} {f : Nat → Option Nat} {v : Value} {i : Int32} (k : Nat) (cx : CallFix p m c cc nL s args x_gw own) (hk : x_K G s) (hw : x_R G lo co H) (ha : co t = some (.inl (G.2 4, n, .inr (.inr (.inr (.inr f)))))) (hlt : k < n) (hn : n < 2 ^ 31) (hi : i = nI k) (hv : va_rf (f k) = v) (hdg : decode cc pc = .ok (.aaload, 1))
    (kk : W p l e R s m args below meth c H locs cells slots Q (F0 m (pc + 1) ls (v :: rest))) : W p l e R s m args below meth c H locs cells slots Q (F0 m pc ls (.int i :: .ref (lo t) :: rest)) := by
  subst hi; exact x_aaldIN cx hk hw ha hlt hn hv hdg kk
theorem x_castS {t ci index : Nat} {C : String} {T : u_T} {N : Nat} {fs : List Value} (cx : CallFix p m c cc nL s args x_gw own) (hk : x_K G s) (hw : x_R G lo co H) (ha : co t = some (.inr (ci, fs))) (hc : vwCl[ci]? = some (C, T, N)) (hlink : (Cond.classLink own index C).before args s = true) (hdg : decode cc pc = .ok (.checkcast index, 3))
    (kk : W p l e R s m args below meth c H locs cells slots Q (F0 m (pc + 3) ls (.ref (lo t) :: rest))) : W p l e R s m args below meth c H locs cells slots Q (F0 m pc ls (.ref (lo t) :: rest)) :=
  va_castS cx.1 cx.2.1 cx.2.2.2.1 hlink (hk.1.1 ci _ hc).2 (va_recv hk.1 (hw.P ha) hc (q0 := 0) rfl) hdg kk
theorem x_castY {t ci index : Nat} {C nm : String} {T : u_T} {N : Nat} {fs : List Value} (cx : CallFix p m c cc nL s args x_gw own) (hk : x_K G s) (hw : x_R G lo co H) (ha : co t = some (.inr (ci, fs))) (hc : vwCl[ci]? = some (C, T, N)) (hy : (C, nm) ∈ x_nC) (hlink : (Cond.classLink own index nm).before args s = true) (hdg : decode cc pc = .ok (.checkcast index, 3))
    (kk : W p l e R s m args below meth c H locs cells slots Q (F0 m (pc + 3) ls (.ref (lo t) :: rest))) : W p l e R s m args below meth c H locs cells slots Q (F0 m pc ls (.ref (lo t) :: rest)) :=
  va_castY cx.1 cx.2.1 cx.2.2.2.1 hlink (hk.2.2.1 _ hy) (va_recv hk.1 (hw.P ha) hc (q0 := 0) rfl) hdg kk
theorem x_tin {x : Int32} {dflt lo hi off : Int} {offs : Array Int} {len tgt : Nat} {v : Int32} (cx : CallFix p m c cc nL s args x_gw own) (hdg : decode cc pc = .ok (.tableswitch dflt lo hi offs, len)) (hx : x = v) (h1 : ¬ v.toInt < lo) (h2 : ¬ hi < v.toInt) (ho : offs[(v.toInt - lo).toNat]? = some off) (ht : (pc : Int) + off = (tgt : Int))
    (k : W p l e R s m args below meth c H locs cells slots Q (F0 m tgt ls rest)) : W p l e R s m args below meth c H locs cells slots Q (F0 m pc ls (.int x :: rest)) := by
  subst hx; exact lv_tableIn cx.1 cx.2.1 hdg h1 h2 ho ht k
theorem x_tout {x : Int32} {dflt : Int} {lo hi : Int} {offs : Array Int} {len tgt : Nat} (cx : CallFix p m c cc nL s args x_gw own) (hdg : decode cc pc = .ok (.tableswitch dflt lo hi offs, len)) (ht : (pc : Int) + dflt = (tgt : Int)) (h : ∀ z : Int, lo ≤ z → z ≤ hi → ¬ x = Int32.ofInt z)
    (k : W p l e R s m args below meth c H locs cells slots Q (F0 m tgt ls rest)) : W p l e R s m args below meth c H locs cells slots Q (F0 m pc ls (.int x :: rest)) := by
  refine lv_tableOut cx.1 cx.2.1 hdg ?_ ht k
  by_cases h1 : x.toInt < lo
  · exact Or.inl h1
  · by_cases h2 : hi < x.toInt
    · exact Or.inr h2
    · exact absurd (Int32.ofInt_toInt x).symm (h _ (by omega) (by omega))
end XW2
end
section
theorem fa_lt (a b : Int32) : a < b ↔ a.toInt < b.toInt := Int32.lt_iff_toInt_lt
theorem fa_le (a b : Int32) : a ≤ b ↔ a.toInt ≤ b.toInt := Int32.le_iff_toInt_le
theorem fa_eq (a b : Int32) : a = b ↔ a.toInt = b.toInt := Int32.toInt_inj.symm
section XW3
variable {p : Program} {l : Launch} {e : Env} {R : Room} {s : State} {m : MethodId} {args : Array Value} {below : List Frame} {meth : Method} {c : Code} {H : Heap} {locs : List Loc} {cells slots : Nat} {Q : State → Prop}
variable {cc : ByteArray} {pc : Nat} {ls : Array Slot} {rest : List Value} {G : x_G} {lo : x_L} {co : x_C} {nL : Nat} {own : String}
theorem x_zretT {v : Option Value} {b : Bool} (cx : CallFix p m c cc nL s args x_gw own) (hr : meth.sig.returnType = some .boolean) (hlk : meth.locks = false) (hdg : decode cc pc = .ok (.ireturn, 1)) (h : b = true) (hv : some (Value.int (bI b)) = v) : W p l e R s m args below meth c s.heap [] 0 0 (MQ below (x_Qr v) args s 0 0 (fun _ => False)) (F0 m pc ls [.int (nI 1)]) := x_zret b cx hr hlk hdg (by rw [h]; rfl) hv
theorem x_zretF {v : Option Value} {b : Bool} (cx : CallFix p m c cc nL s args x_gw own) (hr : meth.sig.returnType = some .boolean) (hlk : meth.locks = false) (hdg : decode cc pc = .ok (.ireturn, 1)) (h : b = false) (hv : some (Value.int (bI b)) = v) : W p l e R s m args below meth c s.heap [] 0 0 (MQ below (x_Qr v) args s 0 0 (fun _ => False)) (F0 m pc ls [.int (nI 0)]) := x_zret b cx hr hlk hdg (by rw [h]; rfl) hv
theorem x_zretB {v : Option Value} {b t : Bool} (cx : CallFix p m c cc nL s args x_gw own) (hr : meth.sig.returnType = some .boolean) (hlk : meth.locks = false) (hdg : decode cc pc = .ok (.ireturn, 1)) (h : t = b) (hv : some (Value.int (bI b)) = v) : W p l e R s m args below meth c s.heap [] 0 0 (MQ below (x_Qr v) args s 0 0 (fun _ => False)) (F0 m pc ls [.int (bI t)]) := x_zret b cx hr hlk hdg (by rw [h]) hv
theorem x_iaddN {a b : Nat} (cx : CallFix p m c cc nL s args x_gw own) (hdg : decode cc pc = .ok (.iadd, 1)) (k : W p l e R s m args below meth c H locs cells slots Q (F0 m (pc + 1) ls (.int (nI (a + b)) :: rest))) : W p l e R s m args below meth c H locs cells slots Q (F0 m pc ls (.int (nI b) :: .int (nI a) :: rest)) :=
  lv_iadd cx.1 cx.2.1 hdg (by rw [nI_add]; exact k)
theorem x_imulN {a b : Nat} (cx : CallFix p m c cc nL s args x_gw own) (hdg : decode cc pc = .ok (.imul, 1)) (k : W p l e R s m args below meth c H locs cells slots Q (F0 m (pc + 1) ls (.int (nI (a * b)) :: rest))) : W p l e R s m args below meth c H locs cells slots Q (F0 m pc ls (.int (nI b) :: .int (nI a) :: rest)) :=
  lv_imul cx.1 cx.2.1 hdg (by rw [pk_mul]; exact k)
theorem x_isubN {a b : Nat} (cx : CallFix p m c cc nL s args x_gw own) (h : b ≤ a) (hdg : decode cc pc = .ok (.isub, 1)) (k : W p l e R s m args below meth c H locs cells slots Q (F0 m (pc + 1) ls (.int (nI (a - b)) :: rest))) : W p l e R s m args below meth c H locs cells slots Q (F0 m pc ls (.int (nI b) :: .int (nI a) :: rest)) :=
  lv_isub cx.1 cx.2.1 hdg (by rw [pk_sub h]; exact k)
theorem x_idivN {a b : Nat} (cx : CallFix p m c cc nL s args x_gw own) (h : a < 2 ^ 31 ∧ 0 < b ∧ b < 2 ^ 31) (hdg : decode cc pc = .ok (.idiv, 1)) (k : W p l e R s m args below meth c H locs cells slots Q (F0 m (pc + 1) ls (.int (nI (a / b)) :: rest))) : W p l e R s m args below meth c H locs cells slots Q (F0 m pc ls (.int (nI b) :: .int (nI a) :: rest)) :=
  lv_idiv cx.1 cx.2.1 hdg (nI_ne0 h.2.1 h.2.2) (by rw [pk_div h.1 h.2.1 h.2.2]; exact k)
theorem x_iorN {a b : Nat} (cx : CallFix p m c cc nL s args x_gw own) (hdg : decode cc pc = .ok (.ior, 1)) (k : W p l e R s m args below meth c H locs cells slots Q (F0 m (pc + 1) ls (.int (nI a ||| nI b) :: rest))) : W p l e R s m args below meth c H locs cells slots Q (F0 m pc ls (.int (nI b) :: .int (nI a) :: rest)) :=
  lv_ior cx.1 cx.2.1 hdg k
theorem x_icmp_ge {a b : Nat} {off : Int} {tgt : Nat} (cx : CallFix p m c cc nL s args x_gw own) (hdg : decode cc pc = .ok (.if_icmp .ge off, 3)) (ht : (pc : Int) + off = (tgt : Int)) (h : a < 2 ^ 31 ∧ b < 2 ^ 31)
    (kt : b ≤ a → W p l e R s m args below meth c H locs cells slots Q (F0 m tgt ls rest)) (kf : ¬ b ≤ a → W p l e R s m args below meth c H locs cells slots Q (F0 m (pc + 3) ls rest)) : W p l e R s m args below meth c H locs cells slots Q (F0 m pc ls (.int (nI b) :: .int (nI a) :: rest)) :=
  lv_icmp_ge cx.1 cx.2.1 hdg ht (fun q => kt ((nI_leI h.2 h.1).mp q)) (fun q => kf (fun w => q ((nI_leI h.2 h.1).mpr w)))
theorem x_icmp_le {a b : Nat} {off : Int} {tgt : Nat} (cx : CallFix p m c cc nL s args x_gw own) (hdg : decode cc pc = .ok (.if_icmp .le off, 3)) (ht : (pc : Int) + off = (tgt : Int)) (h : a < 2 ^ 31 ∧ b < 2 ^ 31)
    (kt : a ≤ b → W p l e R s m args below meth c H locs cells slots Q (F0 m tgt ls rest)) (kf : ¬ a ≤ b → W p l e R s m args below meth c H locs cells slots Q (F0 m (pc + 3) ls rest)) : W p l e R s m args below meth c H locs cells slots Q (F0 m pc ls (.int (nI b) :: .int (nI a) :: rest)) :=
  lv_icmp_le cx.1 cx.2.1 hdg ht (fun q => kt ((nI_leI h.1 h.2).mp q)) (fun q => kf (fun w => q ((nI_leI h.1 h.2).mpr w)))
theorem x_icmp_lt {a b : Nat} {off : Int} {tgt : Nat} (cx : CallFix p m c cc nL s args x_gw own) (hdg : decode cc pc = .ok (.if_icmp .lt off, 3)) (ht : (pc : Int) + off = (tgt : Int)) (h : a < 2 ^ 31 ∧ b < 2 ^ 31)
    (kt : a < b → W p l e R s m args below meth c H locs cells slots Q (F0 m tgt ls rest)) (kf : ¬ a < b → W p l e R s m args below meth c H locs cells slots Q (F0 m (pc + 3) ls rest)) : W p l e R s m args below meth c H locs cells slots Q (F0 m pc ls (.int (nI b) :: .int (nI a) :: rest)) :=
  lv_icmp_lt cx.1 cx.2.1 hdg ht (fun q => kt ((nI_ltI h.1 h.2).mp q)) (fun q => kf (fun w => q ((nI_ltI h.1 h.2).mpr w)))
theorem x_icmp_gt {a b : Nat} {off : Int} {tgt : Nat} (cx : CallFix p m c cc nL s args x_gw own) (hdg : decode cc pc = .ok (.if_icmp .gt off, 3)) (ht : (pc : Int) + off = (tgt : Int)) (h : a < 2 ^ 31 ∧ b < 2 ^ 31)
    (kt : b < a → W p l e R s m args below meth c H locs cells slots Q (F0 m tgt ls rest)) (kf : ¬ b < a → W p l e R s m args below meth c H locs cells slots Q (F0 m (pc + 3) ls rest)) : W p l e R s m args below meth c H locs cells slots Q (F0 m pc ls (.int (nI b) :: .int (nI a) :: rest)) :=
  lv_icmp_gt cx.1 cx.2.1 hdg ht (fun q => kt ((nI_ltI h.2 h.1).mp q)) (fun q => kf (fun w => q ((nI_ltI h.2 h.1).mpr w)))
theorem x_icmp_eq {a b : Nat} {off : Int} {tgt : Nat} (cx : CallFix p m c cc nL s args x_gw own) (hdg : decode cc pc = .ok (.if_icmp .eq off, 3)) (ht : (pc : Int) + off = (tgt : Int)) (h : a < 2 ^ 31 ∧ b < 2 ^ 31)
    (kt : a = b → W p l e R s m args below meth c H locs cells slots Q (F0 m tgt ls rest)) (kf : ¬ a = b → W p l e R s m args below meth c H locs cells slots Q (F0 m (pc + 3) ls rest)) : W p l e R s m args below meth c H locs cells slots Q (F0 m pc ls (.int (nI b) :: .int (nI a) :: rest)) :=
  lv_icmp_eq cx.1 cx.2.1 hdg ht (fun q => kt ((nI_eq h.1 h.2).mp q)) (fun q => kf (fun w => q ((nI_eq h.1 h.2).mpr w)))
theorem x_icmp_ne {a b : Nat} {off : Int} {tgt : Nat} (cx : CallFix p m c cc nL s args x_gw own) (hdg : decode cc pc = .ok (.if_icmp .ne off, 3)) (ht : (pc : Int) + off = (tgt : Int)) (h : a < 2 ^ 31 ∧ b < 2 ^ 31)
    (kt : ¬ a = b → W p l e R s m args below meth c H locs cells slots Q (F0 m tgt ls rest)) (kf : a = b → W p l e R s m args below meth c H locs cells slots Q (F0 m (pc + 3) ls rest)) : W p l e R s m args below meth c H locs cells slots Q (F0 m pc ls (.int (nI b) :: .int (nI a) :: rest)) :=
  lv_icmp_ne cx.1 cx.2.1 hdg ht (fun q => kt (fun w => q ((nI_eq h.1 h.2).mpr w))) (fun q => kf ((nI_eq h.1 h.2).mp q))
theorem x_ifN_eq {a : Nat} {off : Int} {tgt : Nat} (cx : CallFix p m c cc nL s args x_gw own) (hdg : decode cc pc = .ok (.ifCond .eq off, 3)) (ht : (pc : Int) + off = (tgt : Int)) (h : a < 2 ^ 31)
    (kt : a = 0 → W p l e R s m args below meth c H locs cells slots Q (F0 m tgt ls rest)) (kf : ¬ a = 0 → W p l e R s m args below meth c H locs cells slots Q (F0 m (pc + 3) ls rest)) : W p l e R s m args below meth c H locs cells slots Q (F0 m pc ls (.int (nI a) :: rest)) :=
  lv_if_eq cx.1 cx.2.1 hdg ht (fun q => kt ((nI_eq h (by decide : 0 < 2 ^ 31)).mp q)) (fun q => kf (fun w => q ((nI_eq h (by decide : 0 < 2 ^ 31)).mpr w)))
theorem x_ifN_ne {a : Nat} {off : Int} {tgt : Nat} (cx : CallFix p m c cc nL s args x_gw own) (hdg : decode cc pc = .ok (.ifCond .ne off, 3)) (ht : (pc : Int) + off = (tgt : Int)) (h : a < 2 ^ 31)
    (kt : ¬ a = 0 → W p l e R s m args below meth c H locs cells slots Q (F0 m tgt ls rest)) (kf : a = 0 → W p l e R s m args below meth c H locs cells slots Q (F0 m (pc + 3) ls rest)) : W p l e R s m args below meth c H locs cells slots Q (F0 m pc ls (.int (nI a) :: rest)) :=
  lv_if_ne cx.1 cx.2.1 hdg ht (fun q => kt (fun w => q ((nI_eq h (by decide : 0 < 2 ^ 31)).mpr w))) (fun q => kf ((nI_eq h (by decide : 0 < 2 ^ 31)).mp q))
theorem x_ifN_le {a : Nat} {off : Int} {tgt : Nat} (cx : CallFix p m c cc nL s args x_gw own) (hdg : decode cc pc = .ok (.ifCond .le off, 3)) (ht : (pc : Int) + off = (tgt : Int)) (h : a < 2 ^ 31)
    (kt : a = 0 → W p l e R s m args below meth c H locs cells slots Q (F0 m tgt ls rest)) (kf : ¬ a = 0 → W p l e R s m args below meth c H locs cells slots Q (F0 m (pc + 3) ls rest)) : W p l e R s m args below meth c H locs cells slots Q (F0 m pc ls (.int (nI a) :: rest)) :=
  lv_if_le cx.1 cx.2.1 hdg ht (fun q => kt (Nat.le_zero.mp ((nI_leI h (by decide : 0 < 2 ^ 31)).mp q))) (fun q => kf (fun w => q ((nI_leI h (by decide : 0 < 2 ^ 31)).mpr (Nat.le_zero.mpr w))))
theorem x_ifN_gt {a : Nat} {off : Int} {tgt : Nat} (cx : CallFix p m c cc nL s args x_gw own) (hdg : decode cc pc = .ok (.ifCond .gt off, 3)) (ht : (pc : Int) + off = (tgt : Int)) (h : a < 2 ^ 31)
    (kt : ¬ a = 0 → W p l e R s m args below meth c H locs cells slots Q (F0 m tgt ls rest)) (kf : a = 0 → W p l e R s m args below meth c H locs cells slots Q (F0 m (pc + 3) ls rest)) : W p l e R s m args below meth c H locs cells slots Q (F0 m pc ls (.int (nI a) :: rest)) :=
  lv_if_gt cx.1 cx.2.1 hdg ht (fun q => kt (fun w => by subst w; exact absurd q (by decide))) (fun q => kf (by
    rcases Nat.eq_zero_or_pos a with w | w
    · exact w
    · exact absurd ((nI_ltI (by decide : 0 < 2 ^ 31) h).mpr w) q))
theorem x_ifN_lt {a : Nat} {off : Int} {tgt : Nat} (cx : CallFix p m c cc nL s args x_gw own) (hdg : decode cc pc = .ok (.ifCond .lt off, 3)) (ht : (pc : Int) + off = (tgt : Int)) (h : a < 2 ^ 31)
    (kf : W p l e R s m args below meth c H locs cells slots Q (F0 m (pc + 3) ls rest)) : W p l e R s m args below meth c H locs cells slots Q (F0 m pc ls (.int (nI a) :: rest)) :=
  lv_if_lt cx.1 cx.2.1 hdg ht (fun q => absurd q (nI_pos h)) (fun _ => kf)
theorem x_ifN_ge {a : Nat} {off : Int} {tgt : Nat} (cx : CallFix p m c cc nL s args x_gw own) (hdg : decode cc pc = .ok (.ifCond .ge off, 3)) (ht : (pc : Int) + off = (tgt : Int)) (h : a < 2 ^ 31)
    (kt : W p l e R s m args below meth c H locs cells slots Q (F0 m tgt ls rest)) : W p l e R s m args below meth c H locs cells slots Q (F0 m pc ls (.int (nI a) :: rest)) :=
  lv_if_ge cx.1 cx.2.1 hdg ht (fun _ => kt) (fun q => absurd (nI_pos' h) q)
end XW3
/-! numbers over ranges -/
def allN : Nat → (Nat → Bool) → Bool
  | 0, _ => true
  | n + 1, p => allN n p && p n
def cntN : Nat → (Nat → Bool) → Nat
  | 0, _ => 0
  | n + 1, p => cntN n p + (if p n = true then 1 else 0)
def sumN : Nat → (Nat → Nat) → Nat
  | 0, _ => 0
  | n + 1, g => sumN n g + g n
theorem allN_lt {p : Nat → Bool} : ∀ {n : Nat}, allN n p = true ↔ ∀ k, k < n → p k = true
  | 0 => by simp [allN]
  | n + 1 => by
    rw [allN, Bool.and_eq_true, allN_lt (n := n)]
    constructor
    · intro h k hk
      rcases Nat.lt_succ_iff_lt_or_eq.mp hk with q | q
      · exact h.1 k q
      · rw [q]; exact h.2
    · exact fun h => ⟨fun k hk => h k (Nat.lt_succ_of_lt hk), h n (Nat.lt_succ_self n)⟩
theorem allN_no {p : Nat → Bool} {n k : Nat} (hk : k < n) (h : p k = false) : allN n p = false := by
  cases e : allN n p with
  | false => rfl
  | true => exact absurd (allN_lt.mp e k hk) (by rw [h]; decide)
theorem allN_step {p : Nat → Bool} {n : Nat} (h : allN n p = true) (h2 : p n = true) : allN (n + 1) p = true := by rw [allN, h, h2]; rfl
theorem cntN_le {p : Nat → Bool} : ∀ n : Nat, cntN n p ≤ n
  | 0 => Nat.le_refl 0
  | n + 1 => by
    have := cntN_le (p := p) n
    rw [cntN]; split <;> omega
theorem allN_congr {p q : Nat → Bool} : ∀ {n : Nat}, (∀ k, k < n → p k = q k) → allN n p = allN n q
  | 0, _ => rfl
  | n + 1, h => by rw [allN, allN, allN_congr (fun k hk => h k (Nat.lt_succ_of_lt hk)), h n (Nat.lt_succ_self n)]
theorem cntN_congr {p q : Nat → Bool} : ∀ {n : Nat}, (∀ k, k < n → p k = q k) → cntN n p = cntN n q
  | 0, _ => rfl
  | n + 1, h => by rw [cntN, cntN, cntN_congr (fun k hk => h k (Nat.lt_succ_of_lt hk)), h n (Nat.lt_succ_self n)]
theorem sumN_congr {p q : Nat → Nat} : ∀ {n : Nat}, (∀ k, k < n → p k = q k) → sumN n p = sumN n q
  | 0, _ => rfl
  | n + 1, h => by rw [sumN, sumN, sumN_congr (fun k hk => h k (Nat.lt_succ_of_lt hk)), h n (Nat.lt_succ_self n)]
theorem sumN_le {g : Nat → Nat} {b : Nat} : ∀ {n : Nat}, (∀ k, k < n → g k ≤ b) → sumN n g ≤ n * b
  | 0, _ => by simp [sumN]
  | n + 1, h => by
    have := sumN_le (n := n) (fun k hk => h k (Nat.lt_succ_of_lt hk))
    have := h n (Nat.lt_succ_self n)
    rw [sumN, Nat.succ_mul]; omega
end
section
/-! the class: pictures of tables, and what its small methods answer -/
abbrev Tb : Type := (Nat → Nat) × (Nat → Nat → Nat)
def isTb (G : x_G) (lo : x_L) (co : x_C) (b : Nat) (T : Tb) : Prop := co b = some (.inr (8, [.int (nI (T.1 0)), .int (nI (T.1 1)), .int (nI (T.1 2)), .int (nI (T.1 3)), .int (nI (T.1 4)), .int (nI (T.1 5)), .ref (lo (b + 1)), .ref (lo (b + 2)), .ref (lo (b + 3)), .ref (lo (b + 4))])) ∧ co (b + 1) = some (.inl (G.2 0, 240, .inl (fun j => nI (T.2 0 j)))) ∧ co (b + 2) = some (.inl (G.2 0, 4, .inl (fun j => nI (T.2 1 j)))) ∧ co (b + 3) = some (.inl (G.2 0, 4, .inl (fun j => nI (T.2 2 j)))) ∧ co (b + 4) = some (.inl (G.2 0, 4, .inl (fun j => nI (T.2 3 j))))
def Tok (T : Tb) : Prop := 1 ≤ T.1 1 ∧ T.1 1 ≤ 4 ∧ 2 ≤ T.1 2 ∧ T.1 2 ≤ 8 ∧ T.1 3 ≤ 60 ∧ T.1 4 ≤ 1000 ∧ T.1 5 ≤ 60 ∧ (∀ r c, r < T.1 3 → c < T.1 1 → T.2 0 (r * 4 + c) ≤ 999) ∧ (∀ c, c < T.1 1 → T.2 1 c ≤ T.1 5 ∧ (0 < T.1 5 → 0 < T.2 1 c) ∧ T.2 2 c ≤ T.2 3 c ∧ T.2 3 c ≤ 999) ∧ T.1 0 < 4
def s_btw (n a b : Int32) : Bool := !decide (n < a) && !decide (b < n)
def s_rng (f t : Int32) : Bool := !decide (f < 0) && !decide (t < f) && !decide (nI 999 < t)
def s_bit (n : Int32) : Int32 := if n < 0 then 0 else 1 <<< (n &&& 31)
def s_up (n d : Nat) : Nat := (n + d - 1) / d
theorem s_up_0 (d : Nat) : s_up 0 d = 0 := by
  unfold s_up
  rcases Nat.eq_zero_or_pos d with h | h
  · subst h; rfl
  · exact Nat.div_eq_of_lt (by omega)
theorem s_up_le {n d : Nat} (hd : 0 < d) : s_up n d ≤ n := by
  unfold s_up
  rcases Nat.eq_zero_or_pos n with h | h
  · subst h; rw [Nat.div_eq_of_lt (by omega)]; exact Nat.le_refl _
  · rw [Nat.div_le_iff_le_mul_add_pred hd]
    have : n ≤ d * n := Nat.le_mul_of_pos_left n hd
    omega
theorem s_up_z (n : Nat) : s_up n 0 = 0 := by simp [s_up]
theorem nI_shl {k : Nat} (hk : k < 31) : nI 1 <<< (nI k &&& 31) = nI (2 ^ k) := by
  have : ∀ j : Fin 31, nI 1 <<< (nI j.val &&& 31) = nI (2 ^ j.val) := by decide +kernel
  exact this ⟨k, hk⟩
theorem nI_sht : ∀ j : Fin 32, (((nI j.val).toUInt32 &&& Int32.toUInt32 31).toBitVec % 32).toNat = j.val := by decide +kernel
theorem nI_and1 {n : Nat} (h : n < 2 ^ 32) : nI n &&& nI 1 = nI (n % 2) := by
  have := pk_andN (n := n) h (m := nI 1) 1 (by decide)
  simpa using this
theorem nI_tb {b k : Nat} (hk : k < 32) (hb : b < 2 ^ 31) : (((nI b).toUInt32 >>> ((nI k).toUInt32 &&& Int32.toUInt32 31)).toInt32 &&& nI 1) = 0 ↔ b.testBit k = false := by
  rw [pk_ushrN (by omega) (nI k) k (nI_sht ⟨k, hk⟩), nI_and1 (Nat.lt_of_le_of_lt (Nat.div_le_self _ _) (by omega))]
  have e : b / 2 ^ k % 2 = 0 ↔ b.testBit k = false := by
    rw [Nat.testBit, Nat.shiftRight_eq_div_pow, Nat.and_comm, Nat.and_one_is_mod]
    rcases Nat.mod_two_eq_zero_or_one (b / 2 ^ k) with h | h <;> rw [h] <;> decide
  rw [← e]
  exact nI_eq (by omega) (by decide : 0 < 2 ^ 31)
theorem nI_tb' {b k : Nat} (hk : k < 32) (hb : b < 2 ^ 31) (h : ¬ (((nI b).toUInt32 >>> ((nI k).toUInt32 &&& Int32.toUInt32 31)).toInt32 &&& nI 1) = 0) : b.testBit k = true := by
  cases e : b.testBit k with
  | true => rfl
  | false => exact absurd ((nI_tb hk hb).mpr e) h
def t_has (T : Tb) (c : Int32) : Bool := !decide (c < 0) && !decide (nI (T.1 1) ≤ c)
def t_hon (T : Tb) (c : Int32) : Bool := decide (c = (-1)) || t_has T c
def t_hall (T : Tb) (b : Int32) : Bool := decide ((b.toUInt32 >>> ((nI (T.1 1)).toUInt32 &&& Int32.toUInt32 31)).toInt32 = 0)
def t_all1 (T : Tb) (c v : Int32) : Bool := !t_has T c || s_btw v (nI 0) (nI 999)
def t_all (T : Tb) (a b c d : Int32) : Bool := t_all1 T (nI 0) a && t_all1 T (nI 1) b && t_all1 T (nI 2) c && t_all1 T (nI 3) d
/-- the value at a place, 0 where there is none -/
def t_v (T : Tb) (r c : Nat) : Nat := if r < T.1 3 ∧ c < T.1 1 then T.2 0 (r * 4 + c) else 0
def t_like (T : Tb) (r o b : Nat) : Bool := allN (T.1 1) (fun c => !b.testBit c || decide (t_v T r c = t_v T o c))
def t_first (T : Tb) (r b : Nat) : Bool := allN r (fun e => !t_like T e r b)
def t_unl (T : Tb) (b : Nat) : Nat := cntN (T.1 3) (fun r => t_first T r b)
def t_grp (T : Tb) (b : Nat) : Nat → Nat
  | 0 => 1
  | n + 1 => t_grp T b n * (if b.testBit n = true then T.2 1 n else 1)
def t_groups (T : Tb) (b : Nat) : Nat := min (t_grp T b (T.1 1)) (T.1 5)
/-- what passes a test, of m rows, by counts -/
def t_pass (T : Tb) (m c f t : Nat) : Nat := if m = 0 ∨ min t (T.2 3 c) < max f (T.2 2 c) then 0 else if f = t then s_up m (T.2 1 c) else s_up (m * (min t (T.2 3 c) - max f (T.2 2 c) + 1)) (T.2 3 c - T.2 2 c + 1)
def t_min (T : Tb) (c : Nat) : Nat → Nat
  | 0 => t_v T 0 c
  | 1 => t_v T 0 c
  | n + 2 => min (t_min T c (n + 1)) (t_v T (n + 1) c)
def t_max (T : Tb) (c : Nat) : Nat → Nat
  | 0 => t_v T 0 c
  | 1 => t_v T 0 c
  | n + 2 => max (t_max T c (n + 1)) (t_v T (n + 1) c)
def t_cc (T : Tb) (c w : Int32) : Int32 := if t_has T c = true then (if w = 2 then nI (T.2 1 c.toNatClampNeg) else if w = 3 then nI (T.2 2 c.toNatClampNeg) else if w = 4 then nI (T.2 3 c.toNatClampNeg) else -1) else -1
theorem t_has_nI {T : Tb} {c : Nat} (hT : T.1 1 ≤ 4) (hc : c < 2 ^ 31) : t_has T (nI c) = decide (c < T.1 1) := by
  unfold t_has
  rw [decide_eq_false (nI_pos hc)]
  by_cases h : T.1 1 ≤ c
  · rw [decide_eq_true ((nI_leI (by omega) hc).mpr h), decide_eq_false (by omega)]; rfl
  · rw [decide_eq_false (fun q => h ((nI_leI (by omega) hc).mp q)), decide_eq_true (by omega)]; rfl
theorem t_has_ex {T : Tb} {c : Int32} (hT : T.1 1 ≤ 4) (h : t_has T c = true) : ∃ k, k < T.1 1 ∧ c = nI k := by
  unfold t_has at h
  rcases pk_ix c (n := T.1 1) (by omega) with q | q | q
  · rw [decide_eq_true q] at h; simp at h
  · rw [decide_eq_true q] at h; simp at h
  · exact q
end
section
def nO : Nat → Int32
  | 0 => -1
  | n + 1 => nI n
theorem nO_s {k : Nat} (h : k ≠ 0) : nO k = nI (k - 1) := by
  cases k with
  | zero => exact absurd rfl h
  | succ k => rfl
/-! questions: Q.1 0 wants, 1 weight, 2 tested (bits), 3 the column added up and 1, or 0; Q.2 0 first, 1 last -/
abbrev Qn : Type := (Nat → Nat) × (Nat → Nat → Nat)
def isQn (G : x_G) (lo : x_L) (co : x_C) (b tb : Nat) (Q : Qn) : Prop := co b = some (.inr (5, [.ref (lo tb), .int (nI (Q.1 0)), .int (nO (Q.1 3)), .int (nI (Q.1 1)), .int (nI (Q.1 2)), .ref (lo (b + 1)), .ref (lo (b + 2))])) ∧ co (b + 1) = some (.inl (G.2 0, 4, .inl (fun j => nI (Q.2 0 j)))) ∧ co (b + 2) = some (.inl (G.2 0, 4, .inl (fun j => nI (Q.2 1 j))))
def Qok (T : Tb) (Q : Qn) : Prop := Q.1 0 < 2 ^ T.1 1 ∧ 1 ≤ Q.1 1 ∧ Q.1 1 ≤ 100 ∧ Q.1 2 < 2 ^ T.1 1 ∧ Q.1 3 ≤ T.1 1 ∧ (∀ c, c < 4 → Q.2 0 c ≤ 999 ∧ Q.2 1 c ≤ 999 ∧ Q.2 0 c ≤ Q.2 1 c)
/-- a test of the column k - 1 (0: none) -/
def q_t (Q : Qn) (k : Nat) : Bool := decide (k ≠ 0) && (Q.1 2).testBit (k - 1)
def q_like (Q : Qn) (k : Nat) : Bool := q_t Q k && decide (Q.2 0 (k - 1) = Q.2 1 (k - 1))
def q_in (Q : Qn) (c f t : Nat) : Bool := (Q.1 2).testBit c && decide (f ≤ Q.2 0 c) && decide (Q.2 1 c ≤ t)
def q_pass (T : Tb) (Q : Qn) (m k : Nat) : Nat := if q_t Q k = true then t_pass T m (k - 1) (Q.2 0 (k - 1)) (Q.2 1 (k - 1)) else m
def q_pat (T : Tb) (Q : Qn) (r k : Nat) : Bool := !q_t Q k || (decide (Q.2 0 (k - 1) ≤ t_v T r (k - 1)) && decide (t_v T r (k - 1) ≤ Q.2 1 (k - 1)))
def q_passes (T : Tb) (Q : Qn) (r : Nat) : Bool := allN 4 (fun c => q_pat T Q r (c + 1))
def q_ans (T : Tb) (Q : Qn) : Nat := cntN (T.1 3) (fun r => q_passes T Q r)
def q_sum (T : Tb) (Q : Qn) : Nat := sumN (T.1 3) (fun r => if Q.1 3 ≠ 0 ∧ q_passes T Q r = true then t_v T r (Q.1 3 - 1) else 0)
theorem q_t4 {Q : Qn} {k : Nat} (h : q_t Q k = true) (hq : Q.1 2 < 16) : k ≠ 0 ∧ k - 1 < 4 := by
  unfold q_t at h
  simp at h
  refine ⟨h.1, Nat.not_le.mp fun q => ?_⟩
  have e := Nat.testBit_lt_two_pow (x := Q.1 2) (i := k - 1) (Nat.lt_of_lt_of_le hq (Nat.pow_le_pow_right (by decide) q : 2 ^ 4 ≤ 2 ^ (k - 1)))
  rw [e] at h
  exact absurd h.2 (by decide)
theorem pow_col {n : Nat} (h : n ≤ 4) : 2 ^ n ≤ 16 := Nat.pow_le_pow_right (by decide) h
theorem s_btw_nI {a b c : Nat} (ha : a < 2 ^ 31) (hb : b < 2 ^ 31) (hc : c < 2 ^ 31) : s_btw (nI a) (nI b) (nI c) = (decide (b ≤ a) && decide (a ≤ c)) := by
  unfold s_btw
  rw [show decide (nI a < nI b) = decide (a < b) from decide_eq_decide.mpr (nI_ltI ha hb), show decide (nI c < nI a) = decide (c < a) from decide_eq_decide.mpr (nI_ltI hc ha)]
  by_cases h1 : a < b <;> by_cases h2 : c < a <;> simp [h1, h2] <;> omega
theorem t_v_le {T : Tb} (hT : Tok T) (r c : Nat) : t_v T r c ≤ 999 := by
  obtain ⟨k1, k2, k3, k4, k5, k6, k7, k8, k9, k0⟩ := id hT
  unfold t_v
  split
  · next h => exact k8 r c h.1 h.2
  · omega
theorem t_pass_le {T : Tb} {m c f t : Nat} (hT : Tok T) (hc : c < T.1 1) : t_pass T m c f t ≤ m := by
  obtain ⟨k1, k2, k3, k4, k5, k6, k7, k8, k9, k0⟩ := id hT
  obtain ⟨g1, g2, g3, g4⟩ := k9 c hc
  unfold t_pass
  split
  · omega
  · next h =>
    split
    · rcases Nat.eq_zero_or_pos (T.2 1 c) with e | e
      · rw [e, s_up_z]; omega
      · exact s_up_le e
    · have hw : min t (T.2 3 c) - max f (T.2 2 c) + 1 ≤ T.2 3 c - T.2 2 c + 1 := by
        have := Nat.min_le_right t (T.2 3 c)
        have := Nat.le_max_right f (T.2 2 c)
        omega
      unfold s_up
      rw [Nat.div_le_iff_le_mul_add_pred (by omega)]
      have : m * (min t (T.2 3 c) - max f (T.2 2 c) + 1) ≤ (T.2 3 c - T.2 2 c + 1) * m := by
        rw [Nat.mul_comm m]; exact Nat.mul_le_mul_right m hw
      omega
theorem x_sneg {a b : Nat} (ha : a < 2 ^ 30) (hb : b < 2 ^ 30) (h : a < b) : ¬ 0 < nI a - nI b + nI 1 := by
  rw [show nI a - nI b + nI 1 = nI (a + 1) - nI b from by rw [← nI_add, Int32.sub_eq_add_neg, Int32.sub_eq_add_neg, Int32.add_assoc, Int32.add_assoc, Int32.add_comm (-nI b)]]
  rw [fa_lt, pk_sub_toInt (by omega) hb]
  show ¬ ((0 : Int32).toInt < _)
  rw [show (0 : Int32).toInt = 0 from rfl]
  omega
theorem t_grp_le {T : Tb} (hT : Tok T) (q : Nat) : ∀ n, n ≤ T.1 1 → t_grp T q n ≤ 60 ^ n
  | 0, _ => Nat.le_refl 1
  | n + 1, h => by
    obtain ⟨k1, k2, k3, k4, k5, k6, k7, k8, k9, k0⟩ := id hT
    rw [t_grp, Nat.pow_succ]
    refine Nat.mul_le_mul (t_grp_le hT q n (by omega)) ?_
    split
    · exact Nat.le_trans (k9 n (by omega)).1 k7
    · decide
section XW4
variable {p : Program} {l : Launch} {e : Env} {R : Room} {s : State} {m : MethodId} {args : Array Value} {below : List Frame} {meth : Method} {c : Code} {H : Heap} {locs : List Loc} {cells slots : Nat} {Q : State → Prop}
variable {cc : ByteArray} {pc : Nat} {ls : Array Slot} {rest : List Value} {G : x_G} {lo : x_L} {co : x_C} {nL : Nat} {own : String}
theorem x_mmin {index a b : Nat} (cx : CallFix p m c cc nL s args x_gw own) (hl : ls.size = nL) (hlink : Cond.methodLink own index Lib.Math.min.name ∈ x_gw) (h : a < 2 ^ 31 ∧ b < 2 ^ 31) (hs : Cond.static Lib.Math.min.name ∈ x_gw) (hi : Cond.initialized "java/lang/Math" ∈ x_gw) (hc : Cond.code Lib.Math.min.name Lib.Math.min.code 2 (some .int) ∈ x_gw)
    (hR : 1 ≤ R.frames ∧ (rest.map fun v => v.category).sum + 13 ≤ R.locals) (hf : cells ≤ R.cells ∧ slots ≤ R.slots) (hdg : decode cc pc = .ok (.invokestatic index, 3))
    (kk : W p l e R s m args below meth c H locs cells slots Q (F0 m (pc + 3) ls (.int (nI (min a b)) :: rest))) : W p l e R s m args below meth c H locs cells slots Q (F0 m pc ls (.int (nI b) :: .int (nI a) :: rest)) := by
  refine va_mmin cx.1 cx.2.1 (cx.2.2.1.trans hl.symm) cx.2.2.2.1 (cx.2.2.2.2 _ hlink) (cx.2.2.2.2 _ hs) (cx.2.2.2.2 _ hi) (cx.2.2.2.2 _ hc) hR.1 hR.2 hf.1 hf.2 hdg ?_
  rw [show (if nI b < nI a then nI b else nI a) = nI (min a b) from by
    by_cases q : b < a
    · rw [if_pos ((nI_ltI h.2 h.1).mpr q), Nat.min_eq_right (Nat.le_of_lt q)]
    · rw [if_neg (fun w => q ((nI_ltI h.2 h.1).mp w)), Nat.min_eq_left (by omega)]]
  exact kk
theorem x_mmax {index a b : Nat} (cx : CallFix p m c cc nL s args x_gw own) (hl : ls.size = nL) (hlink : Cond.methodLink own index Lib.Math.max.name ∈ x_gw) (h : a < 2 ^ 31 ∧ b < 2 ^ 31) (hs : Cond.static Lib.Math.max.name ∈ x_gw) (hi : Cond.initialized "java/lang/Math" ∈ x_gw) (hc : Cond.code Lib.Math.max.name Lib.Math.max.code 2 (some .int) ∈ x_gw)
    (hR : 1 ≤ R.frames ∧ (rest.map fun v => v.category).sum + 13 ≤ R.locals) (hf : cells ≤ R.cells ∧ slots ≤ R.slots) (hdg : decode cc pc = .ok (.invokestatic index, 3))
    (kk : W p l e R s m args below meth c H locs cells slots Q (F0 m (pc + 3) ls (.int (nI (max a b)) :: rest))) : W p l e R s m args below meth c H locs cells slots Q (F0 m pc ls (.int (nI b) :: .int (nI a) :: rest)) := by
  refine va_mmax cx.1 cx.2.1 (cx.2.2.1.trans hl.symm) cx.2.2.2.1 (cx.2.2.2.2 _ hlink) (cx.2.2.2.2 _ hs) (cx.2.2.2.2 _ hi) (cx.2.2.2.2 _ hc) hR.1 hR.2 hf.1 hf.2 hdg ?_
  rw [show (if nI a < nI b then nI b else nI a) = nI (max a b) from by
    by_cases q : a < b
    · rw [if_pos ((nI_ltI h.1 h.2).mpr q), Nat.max_eq_right (Nat.le_of_lt q)]
    · rw [if_neg (fun w => q ((nI_ltI h.1 h.2).mp w)), Nat.max_eq_left (by omega)]]
  exact kk
end XW4
end
section
set_option maxHeartbeats 4000000 in
set_option maxRecDepth 100000 in
theorem c_btw {l : Launch} {G : x_G} {lo : x_L} {co : x_C} (n a b : Int32) : x_Rd l G lo co yX10_isBetween cX10_isBetween 3 (some .boolean) 1 [.int (n), .int (a), .int (b)] (some (.int (bI (s_btw n a b)))) := by
  refine x_enter RX10 rfl (by decide) (Nat.le_of_ble_eq_true rfl) ?_
  intro pp ee ss mm bb mt cd ls cx hk hw hr hlk hl
  have hl : lv_has ls 3 [(0, .int (n)), (1, .int (a)), (2, .int (b))] := hl
  generalize hav : ([.int (n), .int (a), .int (b)] : List Value).toArray = av at cx ⊢
  generalize hvv : (some (.int (bI (s_btw n a b))) : Option Value) = vv
  have hx := cx.1
  have hb := cx.2.1
  have hown := cx.2.2.2.1
  have hts := cx.2.2.2.2
  refine lv_iload_n hx hb dX10_isBetween_0 rfl (lv_at hl 0 rfl) ?_
  refine lv_iload_n hx hb dX10_isBetween_1 rfl (lv_at hl 1 rfl) ?_
  refine lv_icmp_lt (tgt := 14) hx hb dX10_isBetween_2 (by decide) (fun h2_1 => ?_) (fun h2_1 => ?_)
  · skip
    refine lv_iconst (v := nI 0) hx hb dX10_isBetween_14 rfl ?_
    exact x_zretF (b := s_btw n a b) cx hr hlk dX10_isBetween_15 (by first | rfl | (simp [s_btw, *]; done) | (simp_all [s_btw]; done) | (simp [s_btw, *]; omega) | grind [s_btw]) hvv
  · skip
    refine lv_iload_n hx hb dX10_isBetween_5 rfl (lv_at hl 0 rfl) ?_
    refine lv_iload_n hx hb dX10_isBetween_6 rfl (lv_at hl 2 rfl) ?_
    refine lv_icmp_gt (tgt := 14) hx hb dX10_isBetween_7 (by decide) (fun h7_2 => ?_) (fun h7_2 => ?_)
    · skip
      refine lv_iconst (v := nI 0) hx hb dX10_isBetween_14 rfl ?_
      exact x_zretF (b := s_btw n a b) cx hr hlk dX10_isBetween_15 (by first | rfl | (simp [s_btw, *]; done) | (simp_all [s_btw]; done) | (simp [s_btw, *]; omega) | grind [s_btw]) hvv
    · skip
      refine lv_iconst (v := nI 1) hx hb dX10_isBetween_10 rfl ?_
      refine lv_goto (tgt := 15) hx hb dX10_isBetween_11 (by decide) ?_
      exact x_zretT (b := s_btw n a b) cx hr hlk dX10_isBetween_15 (by first | rfl | (simp [s_btw, *]; done) | (simp_all [s_btw]; done) | (simp [s_btw, *]; omega) | grind [s_btw]) hvv
set_option maxHeartbeats 4000000 in
set_option maxRecDepth 100000 in
theorem c_rng {l : Launch} {G : x_G} {lo : x_L} {co : x_C} (f t : Int32) : x_Rd l G lo co yX10_isRange cX10_isRange 2 (some .boolean) 1 [.int (f), .int (t)] (some (.int (bI (s_rng f t)))) := by
  refine x_enter RX10 rfl (by decide) (Nat.le_of_ble_eq_true rfl) ?_
  intro pp ee ss mm bb mt cd ls cx hk hw hr hlk hl
  have hl : lv_has ls 2 [(0, .int (f)), (1, .int (t))] := hl
  generalize hav : ([.int (f), .int (t)] : List Value).toArray = av at cx ⊢
  generalize hvv : (some (.int (bI (s_rng f t))) : Option Value) = vv
  have hx := cx.1
  have hb := cx.2.1
  have hown := cx.2.2.2.1
  have hts := cx.2.2.2.2
  refine lv_iload_n hx hb dX10_isRange_0 rfl (lv_at hl 0 rfl) ?_
  refine lv_if_lt (tgt := 20) hx hb dX10_isRange_1 (by decide) (fun h1_1 => ?_) (fun h1_1 => ?_)
  · skip
    refine lv_iconst (v := nI 0) hx hb dX10_isRange_20 rfl ?_
    exact x_zretF (b := s_rng f t) cx hr hlk dX10_isRange_21 (by first | rfl | (simp [s_rng, *]; done) | (simp_all [s_rng]; done) | (simp [s_rng, *]; omega) | grind [s_rng]) hvv
  · skip
    refine lv_iload_n hx hb dX10_isRange_4 rfl (lv_at hl 0 rfl) ?_
    refine lv_iload_n hx hb dX10_isRange_5 rfl (lv_at hl 1 rfl) ?_
    refine lv_icmp_gt (tgt := 20) hx hb dX10_isRange_6 (by decide) (fun h6_2 => ?_) (fun h6_2 => ?_)
    · skip
      refine lv_iconst (v := nI 0) hx hb dX10_isRange_20 rfl ?_
      exact x_zretF (b := s_rng f t) cx hr hlk dX10_isRange_21 (by first | rfl | (simp [s_rng, *]; done) | (simp_all [s_rng]; done) | (simp [s_rng, *]; omega) | grind [s_rng]) hvv
    · skip
      refine lv_iload_n hx hb dX10_isRange_9 rfl (lv_at hl 1 rfl) ?_
      refine lv_sipush (v := nI 999) hx hb dX10_isRange_10 rfl ?_
      refine lv_icmp_gt (tgt := 20) hx hb dX10_isRange_13 (by decide) (fun h13_3 => ?_) (fun h13_3 => ?_)
      · skip
        refine lv_iconst (v := nI 0) hx hb dX10_isRange_20 rfl ?_
        exact x_zretF (b := s_rng f t) cx hr hlk dX10_isRange_21 (by first | rfl | (simp [s_rng, *]; done) | (simp_all [s_rng]; done) | (simp [s_rng, *]; omega) | grind [s_rng]) hvv
      · skip
        refine lv_iconst (v := nI 1) hx hb dX10_isRange_16 rfl ?_
        refine lv_goto (tgt := 21) hx hb dX10_isRange_17 (by decide) ?_
        exact x_zretT (b := s_rng f t) cx hr hlk dX10_isRange_21 (by first | rfl | (simp [s_rng, *]; done) | (simp_all [s_rng]; done) | (simp [s_rng, *]; omega) | grind [s_rng]) hvv
set_option maxHeartbeats 4000000 in
set_option maxRecDepth 100000 in
theorem c_bitN {l : Launch} {G : x_G} {lo : x_L} {co : x_C} (n : Nat) (hn : n < 31) : x_Rd l G lo co yX10_bit cX10_bit 1 (some .int) 1 [.int (nI n)] (some (.int (nI (2 ^ n)))) := by
  refine x_enter RX10 rfl (by decide) (Nat.le_of_ble_eq_true rfl) ?_
  intro pp ee ss mm bb mt cd ls cx hk hw hr hlk hl
  have hl : lv_has ls 1 [(0, .int (nI n))] := hl
  generalize hav : ([.int (nI n)] : List Value).toArray = av at cx ⊢
  generalize hvv : (some (.int (nI (2 ^ n))) : Option Value) = vv
  have hx := cx.1
  have hb := cx.2.1
  have hown := cx.2.2.2.1
  have hts := cx.2.2.2.2
  refine lv_iload_n hx hb dX10_bit_0 rfl (lv_at hl 0 rfl) ?_
  refine x_ifN_ge (tgt := 8) cx dX10_bit_1 (by decide) (by first | assumption | omega | (simp_all; omega)) ?_
  refine lv_iconst (v := nI 1) hx hb dX10_bit_8 rfl ?_
  refine lv_iload_n hx hb dX10_bit_9 rfl (lv_at hl 0 rfl) ?_
  refine lv_ishl hx hb dX10_bit_10 ?_
  exact x_iret cx hr hlk dX10_bit_11 ((congrArg (fun z => some (Value.int z)) (show (nI 1) <<< ((nI n) &&& 31) = nI (2 ^ n) from by exact nI_shl hn)).trans hvv)
set_option maxHeartbeats 4000000 in
set_option maxRecDepth 100000 in
theorem c_bit {l : Launch} {G : x_G} {lo : x_L} {co : x_C} (n : Int32) : x_Rd l G lo co yX10_bit cX10_bit 1 (some .int) 1 [.int (n)] (some (.int (s_bit n))) := by
  refine x_enter RX10 rfl (by decide) (Nat.le_of_ble_eq_true rfl) ?_
  intro pp ee ss mm bb mt cd ls cx hk hw hr hlk hl
  have hl : lv_has ls 1 [(0, .int (n))] := hl
  generalize hav : ([.int (n)] : List Value).toArray = av at cx ⊢
  generalize hvv : (some (.int (s_bit n)) : Option Value) = vv
  have hx := cx.1
  have hb := cx.2.1
  have hown := cx.2.2.2.1
  have hts := cx.2.2.2.2
  refine lv_iload_n hx hb dX10_bit_0 rfl (lv_at hl 0 rfl) ?_
  refine lv_if_ge (tgt := 8) hx hb dX10_bit_1 (by decide) (fun h1_1 => ?_) (fun h1_1 => ?_)
  · skip
    refine lv_iconst (v := nI 1) hx hb dX10_bit_8 rfl ?_
    refine lv_iload_n hx hb dX10_bit_9 rfl (lv_at hl 0 rfl) ?_
    refine lv_ishl hx hb dX10_bit_10 ?_
    exact x_iret cx hr hlk dX10_bit_11 ((congrArg (fun z => some (Value.int z)) (show (nI 1) <<< (n &&& 31) = s_bit n from by first | (rw [s_bit, if_neg (Int32.not_lt.mpr (by assumption))]; rfl) | (rw [s_bit, if_pos (Int32.not_le.mp (by assumption))]; rfl))).trans hvv)
  · skip
    refine lv_iconst (v := nI 0) hx hb dX10_bit_4 rfl ?_
    refine lv_goto (tgt := 11) hx hb dX10_bit_5 (by decide) ?_
    exact x_iret cx hr hlk dX10_bit_11 ((congrArg (fun z => some (Value.int z)) (show nI 0 = s_bit n from by first | (rw [s_bit, if_neg (Int32.not_lt.mpr (by assumption))]; rfl) | (rw [s_bit, if_pos (Int32.not_le.mp (by assumption))]; rfl))).trans hvv)
set_option maxHeartbeats 4000000 in
set_option maxRecDepth 100000 in
theorem c_isIn {l : Launch} {G : x_G} {lo : x_L} {co : x_C} (n b : Nat) (hn : n < 32) (hb_ : b < 2 ^ 31) : x_Rd l G lo co yX10_isIn cX10_isIn 2 (some .boolean) 1 [.int (nI n), .int (nI b)] (some (.int (bI (b.testBit n)))) := by
  refine x_enter RX10 rfl (by decide) (Nat.le_of_ble_eq_true rfl) ?_
  intro pp ee ss mm bb mt cd ls cx hk hw hr hlk hl
  have hl : lv_has ls 2 [(0, .int (nI n)), (1, .int (nI b))] := hl
  generalize hav : ([.int (nI n), .int (nI b)] : List Value).toArray = av at cx ⊢
  generalize hvv : (some (.int (bI (b.testBit n))) : Option Value) = vv
  have hx := cx.1
  have hb := cx.2.1
  have hown := cx.2.2.2.1
  have hts := cx.2.2.2.2
  refine lv_iload_n hx hb dX10_isIn_0 rfl (lv_at hl 0 rfl) ?_
  refine x_ifN_lt (tgt := 16) cx dX10_isIn_1 (by decide) (by first | assumption | omega | (simp_all; omega)) ?_
  refine lv_iload_n hx hb dX10_isIn_4 rfl (lv_at hl 1 rfl) ?_
  refine lv_iload_n hx hb dX10_isIn_5 rfl (lv_at hl 0 rfl) ?_
  refine lv_iushr hx hb dX10_isIn_6 rfl ?_
  refine lv_iconst (v := nI 1) hx hb dX10_isIn_7 rfl ?_
  refine lv_iand hx hb dX10_isIn_8 ?_
  refine lv_if_eq (tgt := 16) hx hb dX10_isIn_9 (by decide) (fun h9_1 => ?_) (fun h9_1 => ?_)
  · skip
    refine lv_iconst (v := nI 0) hx hb dX10_isIn_16 rfl ?_
    exact x_zretF (b := b.testBit n) cx hr hlk dX10_isIn_17 (by first | exact (nI_tb hn hb_).mp (by assumption) | exact nI_tb' hn hb_ (by assumption)) hvv
  · skip
    refine lv_iconst (v := nI 1) hx hb dX10_isIn_12 rfl ?_
    refine lv_goto (tgt := 17) hx hb dX10_isIn_13 (by decide) ?_
    exact x_zretT (b := b.testBit n) cx hr hlk dX10_isIn_17 (by first | exact (nI_tb hn hb_).mp (by assumption) | exact nI_tb' hn hb_ (by assumption)) hvv
set_option maxHeartbeats 4000000 in
set_option maxRecDepth 100000 in
theorem c_up {l : Launch} {G : x_G} {lo : x_L} {co : x_C} (n d : Nat) (hn : n < 2 ^ 30) (hd : d < 2 ^ 30) : x_Rd l G lo co yX10_dividedUp cX10_dividedUp 2 (some .int) 1 [.int (nI n), .int (nI d)] (some (.int (nI (s_up n d)))) := by
  refine x_enter RX10 rfl (by decide) (Nat.le_of_ble_eq_true rfl) ?_
  intro pp ee ss mm bb mt cd ls cx hk hw hr hlk hl
  have hl : lv_has ls 2 [(0, .int (nI n)), (1, .int (nI d))] := hl
  generalize hav : ([.int (nI n), .int (nI d)] : List Value).toArray = av at cx ⊢
  generalize hvv : (some (.int (nI (s_up n d))) : Option Value) = vv
  have hx := cx.1
  have hb := cx.2.1
  have hown := cx.2.2.2.1
  have hts := cx.2.2.2.2
  refine lv_iload_n hx hb dX10_dividedUp_0 rfl (lv_at hl 0 rfl) ?_
  refine x_ifN_le (tgt := 8) cx dX10_dividedUp_1 (by decide) (by omega) (fun h1_1 => ?_) (fun h1_1 => ?_)
  · skip
    refine lv_iconst (v := nI 0) hx hb dX10_dividedUp_8 rfl ?_
    refine lv_goto (tgt := 19) hx hb dX10_dividedUp_9 (by decide) ?_
    exact x_iret cx hr hlk dX10_dividedUp_19 ((congrArg (fun z => some (Value.int (nI z))) (show 0 = s_up n d from by first | rfl | (rename_i q; rw [q]; exact (s_up_0 _).symm) | (rename_i q; rw [q]; exact (s_up_z _).symm) | (simp_all [s_up_0, s_up_z]))).trans hvv)
  · skip
    refine lv_iload_n hx hb dX10_dividedUp_4 rfl (lv_at hl 1 rfl) ?_
    refine x_ifN_gt (tgt := 12) cx dX10_dividedUp_5 (by decide) (by omega) (fun h5_2 => ?_) (fun h5_2 => ?_)
    · skip
      refine lv_iload_n hx hb dX10_dividedUp_12 rfl (lv_at hl 0 rfl) ?_
      refine lv_iload_n hx hb dX10_dividedUp_13 rfl (lv_at hl 1 rfl) ?_
      refine x_iaddN cx dX10_dividedUp_14 ?_
      refine lv_iconst (v := nI 1) hx hb dX10_dividedUp_15 rfl ?_
      refine x_isubN cx (by omega) dX10_dividedUp_16 ?_
      refine lv_iload_n hx hb dX10_dividedUp_17 rfl (lv_at hl 1 rfl) ?_
      refine x_idivN cx (by omega) dX10_dividedUp_18 ?_
      exact x_iret cx hr hlk dX10_dividedUp_19 ((congrArg (fun z => some (Value.int (nI z))) (show ((n + d) - 1) / d = s_up n d from by first | rfl | (rename_i q; rw [q]; exact (s_up_0 _).symm) | (rename_i q; rw [q]; exact (s_up_z _).symm) | (simp_all [s_up_0, s_up_z]))).trans hvv)
    · skip
      refine lv_iconst (v := nI 0) hx hb dX10_dividedUp_8 rfl ?_
      refine lv_goto (tgt := 19) hx hb dX10_dividedUp_9 (by decide) ?_
      exact x_iret cx hr hlk dX10_dividedUp_19 ((congrArg (fun z => some (Value.int (nI z))) (show 0 = s_up n d from by first | rfl | (rename_i q; rw [q]; exact (s_up_0 _).symm) | (rename_i q; rw [q]; exact (s_up_z _).symm) | (simp_all [s_up_0, s_up_z]))).trans hvv)
set_option maxHeartbeats 4000000 in
set_option maxRecDepth 100000 in
theorem c_t_has {l : Launch} {G : x_G} {lo : x_L} {co : x_C} (b : Nat) (T : Tb) (ht : isTb G lo co b T) (c : Int32) : x_Rd l G lo co yX9_has cX9_has 2 (some .boolean) 1 [.ref (lo (b)), .int (c)] (some (.int (bI (t_has T c)))) := by
  refine x_enter RX9 rfl (by decide) (Nat.le_of_ble_eq_true rfl) ?_
  intro pp ee ss mm bb mt cd ls cx hk hw hr hlk hl
  have hl : lv_has ls 2 [(0, .ref (lo (b))), (1, .int (c))] := hl
  generalize hav : ([.ref (lo (b)), .int (c)] : List Value).toArray = av at cx ⊢
  generalize hvv : (some (.int (bI (t_has T c))) : Option Value) = vv
  have hx := cx.1
  have hb := cx.2.1
  have hown := cx.2.2.2.1
  have hts := cx.2.2.2.2
  refine lv_iload_n hx hb dX9_has_0 rfl (lv_at hl 1 rfl) ?_
  refine lv_if_lt (tgt := 16) hx hb dX9_has_1 (by decide) (fun h1_1 => ?_) (fun h1_1 => ?_)
  · skip
    refine lv_iconst (v := nI 0) hx hb dX9_has_16 rfl ?_
    exact x_zretF (b := t_has T c) cx hr hlk dX9_has_17 (by first | rfl | (simp [t_has, *]; done) | (simp_all [t_has]; done) | (simp [t_has, *]; omega) | grind [t_has]) hvv
  · skip
    refine lv_iload_n hx hb dX9_has_4 rfl (lv_at hl 1 rfl) ?_
    refine lv_aload_n hx hb dX9_has_5 rfl (lv_at hl 0 rfl) ?_
    refine x_get cx hk hw (ht.1) f_RX9_28_8 rfl dX9_has_6 ?_
    refine lv_icmp_ge (tgt := 16) hx hb dX9_has_9 (by decide) (fun h9_2 => ?_) (fun h9_2 => ?_)
    · skip
      refine lv_iconst (v := nI 0) hx hb dX9_has_16 rfl ?_
      exact x_zretF (b := t_has T c) cx hr hlk dX9_has_17 (by first | rfl | (simp [t_has, *]; done) | (simp_all [t_has]; done) | (simp [t_has, *]; omega) | grind [t_has]) hvv
    · skip
      refine lv_iconst (v := nI 1) hx hb dX9_has_12 rfl ?_
      refine lv_goto (tgt := 17) hx hb dX9_has_13 (by decide) ?_
      exact x_zretT (b := t_has T c) cx hr hlk dX9_has_17 (by first | rfl | (simp [t_has, *]; done) | (simp_all [t_has]; done) | (simp [t_has, *]; omega) | grind [t_has]) hvv
set_option maxHeartbeats 4000000 in
set_option maxRecDepth 100000 in
theorem c_t_hon {l : Launch} {G : x_G} {lo : x_L} {co : x_C} (b : Nat) (T : Tb) (ht : isTb G lo co b T) (c : Int32) : x_Rd l G lo co yX9_hasOrNone cX9_hasOrNone 2 (some .boolean) 2 [.ref (lo (b)), .int (c)] (some (.int (bI (t_hon T c)))) := by
  refine x_enter RX9 rfl (by decide) (Nat.le_of_ble_eq_true rfl) ?_
  intro pp ee ss mm bb mt cd ls cx hk hw hr hlk hl
  have hl : lv_has ls 2 [(0, .ref (lo (b))), (1, .int (c))] := hl
  generalize hav : ([.ref (lo (b)), .int (c)] : List Value).toArray = av at cx ⊢
  generalize hvv : (some (.int (bI (t_hon T c))) : Option Value) = vv
  have hx := cx.1
  have hb := cx.2.1
  have hown := cx.2.2.2.1
  have hts := cx.2.2.2.2
  refine lv_iload_n hx hb dX9_hasOrNone_0 rfl (lv_at hl 1 rfl) ?_
  refine lv_iconst (v := (-1)) hx hb dX9_hasOrNone_1 rfl ?_
  refine lv_icmp_eq (tgt := 13) hx hb dX9_hasOrNone_2 (by decide) (fun h2_1 => ?_) (fun h2_1 => ?_)
  · skip
    refine lv_iconst (v := nI 1) hx hb dX9_hasOrNone_13 rfl ?_
    refine lv_goto (tgt := 18) hx hb dX9_hasOrNone_14 (by decide) ?_
    exact x_zretT (b := t_hon T c) cx hr hlk dX9_hasOrNone_18 (by first | rfl | (simp [t_hon, *]; done) | (simp_all [t_hon]; done) | (simp [t_hon, *]; omega) | grind [t_hon]) hvv
  · skip
    refine lv_aload_n hx hb dX9_hasOrNone_5 rfl (lv_at hl 0 rfl) ?_
    refine lv_iload_n hx hb dX9_hasOrNone_6 rfl (lv_at hl 1 rfl) ?_
    refine x_rdV (av := [.int (c)]) (rest := []) cx hk hw (ht.1) cv_RX9_34_8 (c_t_has b T ht c) hl.1 rfl rfl (Nat.le_of_ble_eq_true rfl) ⟨by decide, by decide⟩ ⟨Nat.zero_le _, Nat.zero_le _⟩ dX9_hasOrNone_7 ?_
    refine x_if_eq (tgt := 17) cx dX9_hasOrNone_10 (by decide) (fun h10_2 => ?_) (fun h10_2 => ?_)
    · skip
      refine lv_iconst (v := nI 0) hx hb dX9_hasOrNone_17 rfl ?_
      exact x_zretF (b := t_hon T c) cx hr hlk dX9_hasOrNone_18 (by first | rfl | (simp [t_hon, *]; done) | (simp_all [t_hon]; done) | (simp [t_hon, *]; omega) | grind [t_hon]) hvv
    · skip
      refine lv_iconst (v := nI 1) hx hb dX9_hasOrNone_13 rfl ?_
      refine lv_goto (tgt := 18) hx hb dX9_hasOrNone_14 (by decide) ?_
      exact x_zretT (b := t_hon T c) cx hr hlk dX9_hasOrNone_18 (by first | rfl | (simp [t_hon, *]; done) | (simp_all [t_hon]; done) | (simp [t_hon, *]; omega) | grind [t_hon]) hvv
set_option maxHeartbeats 4000000 in
set_option maxRecDepth 100000 in
theorem c_t_hall {l : Launch} {G : x_G} {lo : x_L} {co : x_C} (b : Nat) (T : Tb) (ht : isTb G lo co b T) (c : Int32) : x_Rd l G lo co yX9_hasAll cX9_hasAll 2 (some .boolean) 1 [.ref (lo (b)), .int (c)] (some (.int (bI (t_hall T c)))) := by
  refine x_enter RX9 rfl (by decide) (Nat.le_of_ble_eq_true rfl) ?_
  intro pp ee ss mm bb mt cd ls cx hk hw hr hlk hl
  have hl : lv_has ls 2 [(0, .ref (lo (b))), (1, .int (c))] := hl
  generalize hav : ([.ref (lo (b)), .int (c)] : List Value).toArray = av at cx ⊢
  generalize hvv : (some (.int (bI (t_hall T c))) : Option Value) = vv
  have hx := cx.1
  have hb := cx.2.1
  have hown := cx.2.2.2.1
  have hts := cx.2.2.2.2
  refine lv_iload_n hx hb dX9_hasAll_0 rfl (lv_at hl 1 rfl) ?_
  refine lv_aload_n hx hb dX9_hasAll_1 rfl (lv_at hl 0 rfl) ?_
  refine x_get cx hk hw (ht.1) f_RX9_28_8 rfl dX9_hasAll_2 ?_
  refine lv_iushr hx hb dX9_hasAll_5 rfl ?_
  refine lv_if_ne (tgt := 13) hx hb dX9_hasAll_6 (by decide) (fun h6_1 => ?_) (fun h6_1 => ?_)
  · skip
    refine lv_iconst (v := nI 0) hx hb dX9_hasAll_13 rfl ?_
    exact x_zretF (b := t_hall T c) cx hr hlk dX9_hasAll_14 (by first | rfl | (simp [t_hall, *]; done) | (simp_all [t_hall]; done) | (simp [t_hall, *]; omega) | grind [t_hall]) hvv
  · skip
    refine lv_iconst (v := nI 1) hx hb dX9_hasAll_9 rfl ?_
    refine lv_goto (tgt := 14) hx hb dX9_hasAll_10 (by decide) ?_
    exact x_zretT (b := t_hall T c) cx hr hlk dX9_hasAll_14 (by first | rfl | (simp [t_hall, *]; done) | (simp_all [t_hall]; done) | (simp [t_hall, *]; omega) | grind [t_hall]) hvv
set_option maxHeartbeats 4000000 in
set_option maxRecDepth 100000 in
theorem c_t_all1 {l : Launch} {G : x_G} {lo : x_L} {co : x_C} (b : Nat) (T : Tb) (ht : isTb G lo co b T) (c v : Int32) : x_Rd l G lo co yX9_allowsAt cX9_allowsAt 3 (some .boolean) 2 [.ref (lo (b)), .int (c), .int (v)] (some (.int (bI (t_all1 T c v)))) := by
  refine x_enter RX9 rfl (by decide) (Nat.le_of_ble_eq_true rfl) ?_
  intro pp ee ss mm bb mt cd ls cx hk hw hr hlk hl
  have hl : lv_has ls 3 [(0, .ref (lo (b))), (1, .int (c)), (2, .int (v))] := hl
  generalize hav : ([.ref (lo (b)), .int (c), .int (v)] : List Value).toArray = av at cx ⊢
  generalize hvv : (some (.int (bI (t_all1 T c v))) : Option Value) = vv
  have hx := cx.1
  have hb := cx.2.1
  have hown := cx.2.2.2.1
  have hts := cx.2.2.2.2
  refine lv_aload_n hx hb dX9_allowsAt_0 rfl (lv_at hl 0 rfl) ?_
  refine lv_iload_n hx hb dX9_allowsAt_1 rfl (lv_at hl 1 rfl) ?_
  refine x_rdV (av := [.int (c)]) (rest := []) cx hk hw (ht.1) cv_RX9_34_8 (c_t_has b T ht c) hl.1 rfl rfl (Nat.le_of_ble_eq_true rfl) ⟨by decide, by decide⟩ ⟨Nat.zero_le _, Nat.zero_le _⟩ dX9_allowsAt_2 ?_
  refine x_if_eq (tgt := 19) cx dX9_allowsAt_5 (by decide) (fun h5_1 => ?_) (fun h5_1 => ?_)
  · skip
    refine lv_iconst (v := nI 1) hx hb dX9_allowsAt_19 rfl ?_
    refine lv_goto (tgt := 24) hx hb dX9_allowsAt_20 (by decide) ?_
    exact x_zretT (b := t_all1 T c v) cx hr hlk dX9_allowsAt_24 (by first | rfl | (simp [t_all1, *]; done) | (simp_all [t_all1]; done) | (simp [t_all1, *]; omega) | grind [t_all1]) hvv
  · skip
    refine lv_iload_n hx hb dX9_allowsAt_8 rfl (lv_at hl 2 rfl) ?_
    refine lv_iconst (v := nI 0) hx hb dX9_allowsAt_9 rfl ?_
    refine lv_sipush (v := nI 999) hx hb dX9_allowsAt_10 rfl ?_
    refine x_rdSN (av := [.int (v), .int (nI 0), .int (nI 999)]) (rest := []) cx hk hw cn_RX9_42 (c_btw v (nI 0) (nI 999)) hl.1 rfl rfl (Nat.le_of_ble_eq_true rfl) ⟨by decide, by decide⟩ ⟨Nat.zero_le _, Nat.zero_le _⟩ dX9_allowsAt_13 ?_
    refine x_if_eq (tgt := 23) cx dX9_allowsAt_16 (by decide) (fun h16_2 => ?_) (fun h16_2 => ?_)
    · skip
      refine lv_iconst (v := nI 0) hx hb dX9_allowsAt_23 rfl ?_
      exact x_zretF (b := t_all1 T c v) cx hr hlk dX9_allowsAt_24 (by first | rfl | (simp [t_all1, *]; done) | (simp_all [t_all1]; done) | (simp [t_all1, *]; omega) | grind [t_all1]) hvv
    · skip
      refine lv_iconst (v := nI 1) hx hb dX9_allowsAt_19 rfl ?_
      refine lv_goto (tgt := 24) hx hb dX9_allowsAt_20 (by decide) ?_
      exact x_zretT (b := t_all1 T c v) cx hr hlk dX9_allowsAt_24 (by first | rfl | (simp [t_all1, *]; done) | (simp_all [t_all1]; done) | (simp [t_all1, *]; omega) | grind [t_all1]) hvv
set_option maxHeartbeats 4000000 in
set_option maxRecDepth 100000 in
theorem c_t_all {l : Launch} {G : x_G} {lo : x_L} {co : x_C} (b : Nat) (T : Tb) (ht : isTb G lo co b T) (c1 c2 c3 c4 : Int32) : x_Rd l G lo co yX9_allows cX9_allows 5 (some .boolean) 3 [.ref (lo (b)), .int (c1), .int (c2), .int (c3), .int (c4)] (some (.int (bI (t_all T c1 c2 c3 c4)))) := by
  refine x_enter RX9 rfl (by decide) (Nat.le_of_ble_eq_true rfl) ?_
  intro pp ee ss mm bb mt cd ls cx hk hw hr hlk hl
  have hl : lv_has ls 5 [(0, .ref (lo (b))), (1, .int (c1)), (2, .int (c2)), (3, .int (c3)), (4, .int (c4))] := hl
  generalize hav : ([.ref (lo (b)), .int (c1), .int (c2), .int (c3), .int (c4)] : List Value).toArray = av at cx ⊢
  generalize hvv : (some (.int (bI (t_all T c1 c2 c3 c4))) : Option Value) = vv
  have hx := cx.1
  have hb := cx.2.1
  have hown := cx.2.2.2.1
  have hts := cx.2.2.2.2
  refine lv_aload_n hx hb dX9_allows_0 rfl (lv_at hl 0 rfl) ?_
  refine lv_iconst (v := nI 0) hx hb dX9_allows_1 rfl ?_
  refine lv_iload_n hx hb dX9_allows_2 rfl (lv_at hl 1 rfl) ?_
  refine x_rdV (av := [.int (nI 0), .int (c1)]) (rest := []) cx hk hw (ht.1) cv_RX9_38_8 (c_t_all1 b T ht (nI 0) c1) hl.1 rfl rfl (Nat.le_of_ble_eq_true rfl) ⟨by decide, by decide⟩ ⟨Nat.zero_le _, Nat.zero_le _⟩ dX9_allows_3 ?_
  refine x_if_eq (tgt := 41) cx dX9_allows_6 (by decide) (fun h6_1 => ?_) (fun h6_1 => ?_)
  · skip
    refine lv_iconst (v := nI 0) hx hb dX9_allows_41 rfl ?_
    exact x_zretF (b := t_all T c1 c2 c3 c4) cx hr hlk dX9_allows_42 (by first | rfl | (simp [t_all, *]; done) | (simp_all [t_all]; done) | (simp [t_all, *]; omega) | grind [t_all]) hvv
  · skip
    refine lv_aload_n hx hb dX9_allows_9 rfl (lv_at hl 0 rfl) ?_
    refine lv_iconst (v := nI 1) hx hb dX9_allows_10 rfl ?_
    refine lv_iload_n hx hb dX9_allows_11 rfl (lv_at hl 2 rfl) ?_
    refine x_rdV (av := [.int (nI 1), .int (c2)]) (rest := []) cx hk hw (ht.1) cv_RX9_38_8 (c_t_all1 b T ht (nI 1) c2) hl.1 rfl rfl (Nat.le_of_ble_eq_true rfl) ⟨by decide, by decide⟩ ⟨Nat.zero_le _, Nat.zero_le _⟩ dX9_allows_12 ?_
    refine x_if_eq (tgt := 41) cx dX9_allows_15 (by decide) (fun h15_2 => ?_) (fun h15_2 => ?_)
    · skip
      refine lv_iconst (v := nI 0) hx hb dX9_allows_41 rfl ?_
      exact x_zretF (b := t_all T c1 c2 c3 c4) cx hr hlk dX9_allows_42 (by first | rfl | (simp [t_all, *]; done) | (simp_all [t_all]; done) | (simp [t_all, *]; omega) | grind [t_all]) hvv
    · skip
      refine lv_aload_n hx hb dX9_allows_18 rfl (lv_at hl 0 rfl) ?_
      refine lv_iconst (v := nI 2) hx hb dX9_allows_19 rfl ?_
      refine lv_iload_n hx hb dX9_allows_20 rfl (lv_at hl 3 rfl) ?_
      refine x_rdV (av := [.int (nI 2), .int (c3)]) (rest := []) cx hk hw (ht.1) cv_RX9_38_8 (c_t_all1 b T ht (nI 2) c3) hl.1 rfl rfl (Nat.le_of_ble_eq_true rfl) ⟨by decide, by decide⟩ ⟨Nat.zero_le _, Nat.zero_le _⟩ dX9_allows_21 ?_
      refine x_if_eq (tgt := 41) cx dX9_allows_24 (by decide) (fun h24_3 => ?_) (fun h24_3 => ?_)
      · skip
        refine lv_iconst (v := nI 0) hx hb dX9_allows_41 rfl ?_
        exact x_zretF (b := t_all T c1 c2 c3 c4) cx hr hlk dX9_allows_42 (by first | rfl | (simp [t_all, *]; done) | (simp_all [t_all]; done) | (simp [t_all, *]; omega) | grind [t_all]) hvv
      · skip
        refine lv_aload_n hx hb dX9_allows_27 rfl (lv_at hl 0 rfl) ?_
        refine lv_iconst (v := nI 3) hx hb dX9_allows_28 rfl ?_
        refine lv_iload hx hb dX9_allows_29 (lv_at hl 4 rfl) ?_
        refine x_rdV (av := [.int (nI 3), .int (c4)]) (rest := []) cx hk hw (ht.1) cv_RX9_38_8 (c_t_all1 b T ht (nI 3) c4) hl.1 rfl rfl (Nat.le_of_ble_eq_true rfl) ⟨by decide, by decide⟩ ⟨Nat.zero_le _, Nat.zero_le _⟩ dX9_allows_31 ?_
        refine x_if_eq (tgt := 41) cx dX9_allows_34 (by decide) (fun h34_4 => ?_) (fun h34_4 => ?_)
        · skip
          refine lv_iconst (v := nI 0) hx hb dX9_allows_41 rfl ?_
          exact x_zretF (b := t_all T c1 c2 c3 c4) cx hr hlk dX9_allows_42 (by first | rfl | (simp [t_all, *]; done) | (simp_all [t_all]; done) | (simp [t_all, *]; omega) | grind [t_all]) hvv
        · skip
          refine lv_iconst (v := nI 1) hx hb dX9_allows_37 rfl ?_
          refine lv_goto (tgt := 42) hx hb dX9_allows_38 (by decide) ?_
          exact x_zretT (b := t_all T c1 c2 c3 c4) cx hr hlk dX9_allows_42 (by first | rfl | (simp [t_all, *]; done) | (simp_all [t_all]; done) | (simp [t_all, *]; omega) | grind [t_all]) hvv
set_option maxHeartbeats 4000000 in
set_option maxRecDepth 100000 in
theorem c_t_cell {l : Launch} {G : x_G} {lo : x_L} {co : x_C} (b : Nat) (T : Tb) (ht : isTb G lo co b T) (hT : Tok T) (r c : Nat) (hr_ : r < 2 ^ 31) (hc_ : c < 2 ^ 31) : x_Rd l G lo co yX9_isCell cX9_isCell 3 (some .boolean) 1 [.ref (lo (b)), .int (nI r), .int (nI c)] (some (.int (bI (decide (r < T.1 3 ∧ c < T.1 1))))) := by
  refine x_enter RX9 rfl (by decide) (Nat.le_of_ble_eq_true rfl) ?_
  intro pp ee ss mm bb mt cd ls cx hk hw hr hlk hl
  have hl : lv_has ls 3 [(0, .ref (lo (b))), (1, .int (nI r)), (2, .int (nI c))] := hl
  generalize hav : ([.ref (lo (b)), .int (nI r), .int (nI c)] : List Value).toArray = av at cx ⊢
  generalize hvv : (some (.int (bI (decide (r < T.1 3 ∧ c < T.1 1)))) : Option Value) = vv
  have hx := cx.1
  have hb := cx.2.1
  have hown := cx.2.2.2.1
  have hts := cx.2.2.2.2
  obtain ⟨k1, k2, k3, k4, k5, k6, k7, k8, k9, k0⟩ := id hT
  refine lv_iload_n hx hb dX9_isCell_0 rfl (lv_at hl 1 rfl) ?_
  refine x_ifN_lt (tgt := 28) cx dX9_isCell_1 (by decide) (by omega) ?_
  refine lv_iload_n hx hb dX9_isCell_4 rfl (lv_at hl 1 rfl) ?_
  refine lv_aload_n hx hb dX9_isCell_5 rfl (lv_at hl 0 rfl) ?_
  refine x_get cx hk hw (ht.1) f_RX9_46_8 rfl dX9_isCell_6 ?_
  refine x_icmp_ge (tgt := 28) cx dX9_isCell_9 (by decide) (by omega) (fun h9_1 => ?_) (fun h9_1 => ?_)
  · skip
    refine lv_iconst (v := nI 0) hx hb dX9_isCell_28 rfl ?_
    exact x_zretF (b := decide (r < T.1 3 ∧ c < T.1 1)) cx hr hlk dX9_isCell_29 (by simp; omega) hvv
  · skip
    refine lv_iload_n hx hb dX9_isCell_12 rfl (lv_at hl 2 rfl) ?_
    refine x_ifN_lt (tgt := 28) cx dX9_isCell_13 (by decide) (by omega) ?_
    refine lv_iload_n hx hb dX9_isCell_16 rfl (lv_at hl 2 rfl) ?_
    refine lv_aload_n hx hb dX9_isCell_17 rfl (lv_at hl 0 rfl) ?_
    refine x_get cx hk hw (ht.1) f_RX9_28_8 rfl dX9_isCell_18 ?_
    refine x_icmp_ge (tgt := 28) cx dX9_isCell_21 (by decide) (by omega) (fun h21_2 => ?_) (fun h21_2 => ?_)
    · skip
      refine lv_iconst (v := nI 0) hx hb dX9_isCell_28 rfl ?_
      exact x_zretF (b := decide (r < T.1 3 ∧ c < T.1 1)) cx hr hlk dX9_isCell_29 (by simp; omega) hvv
    · skip
      refine lv_iconst (v := nI 1) hx hb dX9_isCell_24 rfl ?_
      refine lv_goto (tgt := 29) hx hb dX9_isCell_25 (by decide) ?_
      exact x_zretT (b := decide (r < T.1 3 ∧ c < T.1 1)) cx hr hlk dX9_isCell_29 (by simp; omega) hvv
set_option maxHeartbeats 4000000 in
set_option maxRecDepth 100000 in
theorem c_t_val {l : Launch} {G : x_G} {lo : x_L} {co : x_C} (b : Nat) (T : Tb) (ht : isTb G lo co b T) (hT : Tok T) (r c : Nat) (hr_ : r < 2 ^ 31) (hc_ : c < 2 ^ 31) : x_Rd l G lo co yX9_value cX9_value 3 (some .int) 2 [.ref (lo (b)), .int (nI r), .int (nI c)] (some (.int (nI (t_v T r c)))) := by
  refine x_enter RX9 rfl (by decide) (Nat.le_of_ble_eq_true rfl) ?_
  intro pp ee ss mm bb mt cd ls cx hk hw hr hlk hl
  have hl : lv_has ls 3 [(0, .ref (lo (b))), (1, .int (nI r)), (2, .int (nI c))] := hl
  generalize hav : ([.ref (lo (b)), .int (nI r), .int (nI c)] : List Value).toArray = av at cx ⊢
  generalize hvv : (some (.int (nI (t_v T r c))) : Option Value) = vv
  have hx := cx.1
  have hb := cx.2.1
  have hown := cx.2.2.2.1
  have hts := cx.2.2.2.2
  obtain ⟨k1, k2, k3, k4, k5, k6, k7, k8, k9, k0⟩ := id hT
  refine lv_aload_n hx hb dX9_value_0 rfl (lv_at hl 0 rfl) ?_
  refine lv_iload_n hx hb dX9_value_1 rfl (lv_at hl 1 rfl) ?_
  refine lv_iload_n hx hb dX9_value_2 rfl (lv_at hl 2 rfl) ?_
  refine x_rdV (av := [.int (nI r), .int (nI c)]) (rest := []) cx hk hw (ht.1) cv_RX9_53_8 (c_t_cell b T ht hT r c (by omega) (by omega)) hl.1 rfl rfl (Nat.le_of_ble_eq_true rfl) ⟨by decide, by decide⟩ ⟨Nat.zero_le _, Nat.zero_le _⟩ dX9_value_3 ?_
  refine x_if_eq (tgt := 22) cx dX9_value_6 (by decide) (fun h6_1 => ?_) (fun h6_1 => ?_)
  · skip
    refine lv_iconst (v := nI 0) hx hb dX9_value_22 rfl ?_
    exact x_iret cx hr hlk dX9_value_23 ((congrArg (fun z => some (Value.int (nI z))) (show 0 = t_v T r c from by first | (rw [t_v, if_pos (of_decide_eq_true (by assumption))]) | (rw [t_v, if_neg (of_decide_eq_false (by assumption))]))).trans hvv)
  · skip
    refine lv_aload_n hx hb dX9_value_9 rfl (lv_at hl 0 rfl) ?_
    refine x_get cx hk hw (ht.1) f_RX9_9_8 rfl dX9_value_10 ?_
    refine lv_iload_n hx hb dX9_value_13 rfl (lv_at hl 1 rfl) ?_
    refine lv_iconst (v := nI 4) hx hb dX9_value_14 rfl ?_
    refine x_imulN cx dX9_value_15 ?_
    refine lv_iload_n hx hb dX9_value_16 rfl (lv_at hl 2 rfl) ?_
    refine x_iaddN cx dX9_value_17 ?_
    refine x_ialdN cx hk hw (ht.2.1) (by simp_all; omega) (by decide) dX9_value_18 ?_
    refine lv_goto (tgt := 23) hx hb dX9_value_19 (by decide) ?_
    exact x_iret cx hr hlk dX9_value_23 ((congrArg (fun z => some (Value.int (nI z))) (show T.2 0 ((r * 4) + c) = t_v T r c from by first | (rw [t_v, if_pos (of_decide_eq_true (by assumption))]) | (rw [t_v, if_neg (of_decide_eq_false (by assumption))]))).trans hvv)
set_option maxHeartbeats 4000000 in
set_option maxRecDepth 100000 in
theorem c_t_pages {l : Launch} {G : x_G} {lo : x_L} {co : x_C} (b : Nat) (T : Tb) (ht : isTb G lo co b T) (hT : Tok T) : x_Rd l G lo co yX9_pages cX9_pages 1 (some .int) 2 [.ref (lo (b))] (some (.int (nI (s_up (T.1 3) (T.1 2))))) := by
  refine x_enter RX9 rfl (by decide) (Nat.le_of_ble_eq_true rfl) ?_
  intro pp ee ss mm bb mt cd ls cx hk hw hr hlk hl
  have hl : lv_has ls 1 [(0, .ref (lo (b)))] := hl
  generalize hav : ([.ref (lo (b))] : List Value).toArray = av at cx ⊢
  generalize hvv : (some (.int (nI (s_up (T.1 3) (T.1 2)))) : Option Value) = vv
  have hx := cx.1
  have hb := cx.2.1
  have hown := cx.2.2.2.1
  have hts := cx.2.2.2.2
  obtain ⟨k1, k2, k3, k4, k5, k6, k7, k8, k9, k0⟩ := id hT
  refine lv_aload_n hx hb dX9_pages_0 rfl (lv_at hl 0 rfl) ?_
  refine x_get cx hk hw (ht.1) f_RX9_46_8 rfl dX9_pages_1 ?_
  refine lv_aload_n hx hb dX9_pages_4 rfl (lv_at hl 0 rfl) ?_
  refine x_get cx hk hw (ht.1) f_RX9_31_8 rfl dX9_pages_5 ?_
  refine x_rdSN (av := [.int (nI (T.1 3)), .int (nI (T.1 2))]) (rest := []) cx hk hw cn_RX9_60 (c_up (T.1 3) (T.1 2) (by omega) (by omega)) hl.1 rfl rfl (Nat.le_of_ble_eq_true rfl) ⟨by decide, by decide⟩ ⟨Nat.zero_le _, Nat.zero_le _⟩ dX9_pages_8 ?_
  exact x_iret cx hr hlk dX9_pages_11 ((congrArg (fun z => some (Value.int (nI z))) (show s_up (T.1 3) (T.1 2) = s_up (T.1 3) (T.1 2) from by rfl)).trans hvv)
set_option maxHeartbeats 4000000 in
set_option maxRecDepth 100000 in
theorem c_t_cpages {l : Launch} {G : x_G} {lo : x_L} {co : x_C} (b : Nat) (T : Tb) (ht : isTb G lo co b T) (hT : Tok T) : x_Rd l G lo co yX9_countedPages cX9_countedPages 1 (some .int) 2 [.ref (lo (b))] (some (.int (nI (s_up (T.1 5) (T.1 2))))) := by
  refine x_enter RX9 rfl (by decide) (Nat.le_of_ble_eq_true rfl) ?_
  intro pp ee ss mm bb mt cd ls cx hk hw hr hlk hl
  have hl : lv_has ls 1 [(0, .ref (lo (b)))] := hl
  generalize hav : ([.ref (lo (b))] : List Value).toArray = av at cx ⊢
  generalize hvv : (some (.int (nI (s_up (T.1 5) (T.1 2)))) : Option Value) = vv
  have hx := cx.1
  have hb := cx.2.1
  have hown := cx.2.2.2.1
  have hts := cx.2.2.2.2
  obtain ⟨k1, k2, k3, k4, k5, k6, k7, k8, k9, k0⟩ := id hT
  refine lv_aload_n hx hb dX9_countedPages_0 rfl (lv_at hl 0 rfl) ?_
  refine x_get cx hk hw (ht.1) f_RX9_63_8 rfl dX9_countedPages_1 ?_
  refine lv_aload_n hx hb dX9_countedPages_4 rfl (lv_at hl 0 rfl) ?_
  refine x_get cx hk hw (ht.1) f_RX9_31_8 rfl dX9_countedPages_5 ?_
  refine x_rdSN (av := [.int (nI (T.1 5)), .int (nI (T.1 2))]) (rest := []) cx hk hw cn_RX9_60 (c_up (T.1 5) (T.1 2) (by omega) (by omega)) hl.1 rfl rfl (Nat.le_of_ble_eq_true rfl) ⟨by decide, by decide⟩ ⟨Nat.zero_le _, Nat.zero_le _⟩ dX9_countedPages_8 ?_
  exact x_iret cx hr hlk dX9_countedPages_11 ((congrArg (fun z => some (Value.int (nI z))) (show s_up (T.1 5) (T.1 2) = s_up (T.1 5) (T.1 2) from by rfl)).trans hvv)
set_option maxHeartbeats 4000000 in
set_option maxRecDepth 100000 in
theorem c_t_pageOf {l : Launch} {G : x_G} {lo : x_L} {co : x_C} (b : Nat) (T : Tb) (ht : isTb G lo co b T) (hT : Tok T) (r : Nat) (hr_ : r < 2 ^ 31) : x_Rd l G lo co yX9_pageOf cX9_pageOf 2 (some .int) 1 [.ref (lo (b)), .int (nI r)] (some (.int (nI (r / T.1 2)))) := by
  refine x_enter RX9 rfl (by decide) (Nat.le_of_ble_eq_true rfl) ?_
  intro pp ee ss mm bb mt cd ls cx hk hw hr hlk hl
  have hl : lv_has ls 2 [(0, .ref (lo (b))), (1, .int (nI r))] := hl
  generalize hav : ([.ref (lo (b)), .int (nI r)] : List Value).toArray = av at cx ⊢
  generalize hvv : (some (.int (nI (r / T.1 2))) : Option Value) = vv
  have hx := cx.1
  have hb := cx.2.1
  have hown := cx.2.2.2.1
  have hts := cx.2.2.2.2
  obtain ⟨k1, k2, k3, k4, k5, k6, k7, k8, k9, k0⟩ := id hT
  refine lv_aload_n hx hb dX9_pageOf_0 rfl (lv_at hl 0 rfl) ?_
  refine x_get cx hk hw (ht.1) f_RX9_31_8 rfl dX9_pageOf_1 ?_
  refine x_ifN_gt (tgt := 11) cx dX9_pageOf_4 (by decide) (by omega) (fun h4_1 => ?_) (fun h4_1 => ?_)
  · skip
    refine lv_iload_n hx hb dX9_pageOf_11 rfl (lv_at hl 1 rfl) ?_
    refine lv_aload_n hx hb dX9_pageOf_12 rfl (lv_at hl 0 rfl) ?_
    refine x_get cx hk hw (ht.1) f_RX9_31_8 rfl dX9_pageOf_13 ?_
    refine x_idivN cx (by omega) dX9_pageOf_16 ?_
    exact x_iret cx hr hlk dX9_pageOf_17 ((congrArg (fun z => some (Value.int (nI z))) (show r / (T.1 2) = r / T.1 2 from by first | rfl | omega)).trans hvv)
  · skip
    refine lv_iconst (v := nI 0) hx hb dX9_pageOf_7 rfl ?_
    refine lv_goto (tgt := 17) hx hb dX9_pageOf_8 (by decide) ?_
    exact x_iret cx hr hlk dX9_pageOf_17 ((congrArg (fun z => some (Value.int (nI z))) (show 0 = r / T.1 2 from by first | rfl | omega)).trans hvv)
set_option maxHeartbeats 4000000 in
set_option maxRecDepth 100000 in
theorem c_t_like {l : Launch} {G : x_G} {lo : x_L} {co : x_C} (b : Nat) (T : Tb) (ht : isTb G lo co b T) (hT : Tok T) (r o : Nat) (q : Nat) (hr_ : r < 2 ^ 31) (ho_ : o < 2 ^ 31) (hq_ : q < 2 ^ 31) : x_Rd l G lo co yX9_areAlike cX9_areAlike 5 (some .boolean) 3 [.ref (lo (b)), .int (nI r), .int (nI o), .int (nI q)] (some (.int (bI (t_like T r o q)))) := by
  refine x_enter RX9 rfl (by decide) (Nat.le_of_ble_eq_true rfl) ?_
  intro pp ee ss mm bb mt cd ls cx hk hw hr hlk hl
  have hl : lv_has ls 5 [(0, .ref (lo (b))), (1, .int (nI r)), (2, .int (nI o)), (3, .int (nI q))] := hl
  generalize hav : ([.ref (lo (b)), .int (nI r), .int (nI o), .int (nI q)] : List Value).toArray = av at cx ⊢
  generalize hvv : (some (.int (bI (t_like T r o q))) : Option Value) = vv
  have hx := cx.1
  have hb := cx.2.1
  have hown := cx.2.2.2.1
  have hts := cx.2.2.2.2
  obtain ⟨k1, k2, k3, k4, k5, k6, k7, k8, k9, k0⟩ := id hT
  refine lv_iconst (v := nI 0) hx hb dX9_areAlike_0 rfl ?_
  refine lv_istore (lv' := [(4, .int (nI 0)), (0, .ref (lo (b))), (1, .int (nI r)), (2, .int (nI o)), (3, .int (nI q))]) hx hb dX9_areAlike_1 hl (by decide) rfl (fun ls hl => ?_)
  have L3_1 : ∀ (n_ : Nat) (k : Nat), (k ≤ T.1 1) → (allN k (fun c => !q.testBit c || decide (t_v T r c = t_v T o c)) = true) → T.1 1 - k < n_ → ∀ (ls : Array Slot), lv_has ls 5 [(4, .int (nI k)), (0, .ref (lo (b))), (1, .int (nI r)), (2, .int (nI o)), (3, .int (nI q))] → x_w l 3 pp ee ss mm av bb mt cd vv 3 ls [] := by
    intro n_
    induction n_ with
    | zero => intro k hv hall hm_ ls hl; exact absurd hm_ (Nat.not_lt_zero _)
    | succ n_ ih3_1 =>
      intro k hv hall hm_ ls hl
      refine lv_iload hx hb dX9_areAlike_3 (lv_at hl 0 rfl) ?_
      refine lv_aload_n hx hb dX9_areAlike_5 rfl (lv_at hl 1 rfl) ?_
      refine x_get cx hk hw (ht.1) f_RX9_28_8 rfl dX9_areAlike_6 ?_
      refine x_icmp_ge (tgt := 46) cx dX9_areAlike_9 (by decide) (by first | omega | (have f1 := t_v_le hT r k; have f2 := t_v_le hT o k; omega)) (fun h9_2 => ?_) (fun h9_2 => ?_)
      · skip
        refine lv_iconst (v := nI 1) hx hb dX9_areAlike_46 rfl ?_
        exact x_zretT (b := t_like T r o q) cx hr hlk dX9_areAlike_47 (by rw [t_like, show T.1 1 = k by omega]; exact hall) hvv
      · skip
        refine lv_iload hx hb dX9_areAlike_12 (lv_at hl 0 rfl) ?_
        refine lv_iload_n hx hb dX9_areAlike_14 rfl (lv_at hl 4 rfl) ?_
        refine x_rdSN (av := [.int (nI k), .int (nI q)]) (rest := []) cx hk hw cn_RX9_91 (c_isIn k q (by omega) (by omega)) hl.1 rfl rfl (Nat.le_of_ble_eq_true rfl) ⟨by decide, by decide⟩ ⟨Nat.zero_le _, Nat.zero_le _⟩ dX9_areAlike_15 ?_
        refine x_if_eq (tgt := 40) cx dX9_areAlike_18 (by decide) (fun h18_3 => ?_) (fun h18_3 => ?_)
        · skip
          refine lv_iinc (v := nI (k + 1)) (lv' := [(4, .int (nI (k + 1))), (0, .ref (lo (b))), (1, .int (nI r)), (2, .int (nI o)), (3, .int (nI q))]) hx hb dX9_areAlike_40 hl (k := 0) rfl (nI_add _ 1) (by decide) rfl (fun ls hl => ?_)
          refine lv_goto (tgt := 3) hx hb dX9_areAlike_43 (by decide) ?_
          exact ih3_1 (k + 1) (by omega) (by exact allN_step hall (by simp [*])) (by omega) _ (lv_sub hl [0, 1, 2, 3, 4] rfl)
        · skip
          refine lv_aload_n hx hb dX9_areAlike_21 rfl (lv_at hl 1 rfl) ?_
          refine lv_iload_n hx hb dX9_areAlike_22 rfl (lv_at hl 2 rfl) ?_
          refine lv_iload hx hb dX9_areAlike_23 (lv_at hl 0 rfl) ?_
          refine x_rdV (av := [.int (nI r), .int (nI k)]) (rest := []) cx hk hw (ht.1) cv_RX9_56_8 (c_t_val b T ht hT r k (by omega) (by omega)) hl.1 rfl rfl (Nat.le_of_ble_eq_true rfl) ⟨by decide, by decide⟩ ⟨Nat.zero_le _, Nat.zero_le _⟩ dX9_areAlike_25 ?_
          refine lv_aload_n hx hb dX9_areAlike_28 rfl (lv_at hl 1 rfl) ?_
          refine lv_iload_n hx hb dX9_areAlike_29 rfl (lv_at hl 3 rfl) ?_
          refine lv_iload hx hb dX9_areAlike_30 (lv_at hl 0 rfl) ?_
          refine x_rdV (av := [.int (nI o), .int (nI k)]) (rest := [.int (nI (t_v T r k))]) cx hk hw (ht.1) cv_RX9_56_8 (c_t_val b T ht hT o k (by omega) (by omega)) hl.1 rfl rfl (Nat.le_of_ble_eq_true rfl) ⟨by decide, by decide⟩ ⟨Nat.zero_le _, Nat.zero_le _⟩ dX9_areAlike_32 ?_
          refine x_icmp_eq (tgt := 40) cx dX9_areAlike_35 (by decide) (by first | omega | (have f1 := t_v_le hT r k; have f2 := t_v_le hT o k; omega)) (fun h35_4 => ?_) (fun h35_4 => ?_)
          · skip
            refine lv_iinc (v := nI (k + 1)) (lv' := [(4, .int (nI (k + 1))), (0, .ref (lo (b))), (1, .int (nI r)), (2, .int (nI o)), (3, .int (nI q))]) hx hb dX9_areAlike_40 hl (k := 0) rfl (nI_add _ 1) (by decide) rfl (fun ls hl => ?_)
            refine lv_goto (tgt := 3) hx hb dX9_areAlike_43 (by decide) ?_
            exact ih3_1 (k + 1) (by omega) (by exact allN_step hall (by simp [*])) (by omega) _ (lv_sub hl [0, 1, 2, 3, 4] rfl)
          · skip
            refine lv_iconst (v := nI 0) hx hb dX9_areAlike_38 rfl ?_
            exact x_zretF (b := t_like T r o q) cx hr hlk dX9_areAlike_39 (by exact allN_no (k := k) (by omega) (by simp [*])) hvv
  exact L3_1 (_ + 1) 0 (by omega) (by rfl) (Nat.lt_succ_self _) _ (lv_sub hl [0, 1, 2, 3, 4] rfl)
set_option maxHeartbeats 4000000 in
set_option maxRecDepth 100000 in
theorem c_t_first {l : Launch} {G : x_G} {lo : x_L} {co : x_C} (b : Nat) (T : Tb) (ht : isTb G lo co b T) (hT : Tok T) (r q : Nat) (hr_ : r < 2 ^ 31) (hq_ : q < 2 ^ 31) : x_Rd l G lo co yX9_isFirstOfItsLike cX9_isFirstOfItsLike 4 (some .boolean) 4 [.ref (lo (b)), .int (nI r), .int (nI q)] (some (.int (bI (t_first T r q)))) := by
  refine x_enter RX9 rfl (by decide) (Nat.le_of_ble_eq_true rfl) ?_
  intro pp ee ss mm bb mt cd ls cx hk hw hr hlk hl
  have hl : lv_has ls 4 [(0, .ref (lo (b))), (1, .int (nI r)), (2, .int (nI q))] := hl
  generalize hav : ([.ref (lo (b)), .int (nI r), .int (nI q)] : List Value).toArray = av at cx ⊢
  generalize hvv : (some (.int (bI (t_first T r q))) : Option Value) = vv
  have hx := cx.1
  have hb := cx.2.1
  have hown := cx.2.2.2.1
  have hts := cx.2.2.2.2
  obtain ⟨k1, k2, k3, k4, k5, k6, k7, k8, k9, k0⟩ := id hT
  refine lv_iconst (v := nI 0) hx hb dX9_isFirstOfItsLike_0 rfl ?_
  refine lv_istore_n (lv' := [(3, .int (nI 0)), (0, .ref (lo (b))), (1, .int (nI r)), (2, .int (nI q))]) hx hb dX9_isFirstOfItsLike_1 rfl hl (by decide) rfl (fun ls hl => ?_)
  have L2_1 : ∀ (n_ : Nat) (k : Nat), (k ≤ r) → (allN k (fun e => !t_like T e r q) = true) → r - k < n_ → ∀ (ls : Array Slot), lv_has ls 4 [(3, .int (nI k)), (0, .ref (lo (b))), (1, .int (nI r)), (2, .int (nI q))] → x_w l 4 pp ee ss mm av bb mt cd vv 2 ls [] := by
    intro n_
    induction n_ with
    | zero => intro k hv hall hm_ ls hl; exact absurd hm_ (Nat.not_lt_zero _)
    | succ n_ ih2_1 =>
      intro k hv hall hm_ ls hl
      refine lv_iload_n hx hb dX9_isFirstOfItsLike_2 rfl (lv_at hl 0 rfl) ?_
      refine lv_iload_n hx hb dX9_isFirstOfItsLike_3 rfl (lv_at hl 2 rfl) ?_
      refine x_icmp_ge (tgt := 25) cx dX9_isFirstOfItsLike_4 (by decide) (by omega) (fun h4_2 => ?_) (fun h4_2 => ?_)
      · skip
        refine lv_iconst (v := nI 1) hx hb dX9_isFirstOfItsLike_25 rfl ?_
        exact x_zretT (b := t_first T r q) cx hr hlk dX9_isFirstOfItsLike_26 (by rw [t_first, show r = k by omega]; rw [show r = k by omega] at hall; exact hall) hvv
      · skip
        refine lv_aload_n hx hb dX9_isFirstOfItsLike_7 rfl (lv_at hl 1 rfl) ?_
        refine lv_iload_n hx hb dX9_isFirstOfItsLike_8 rfl (lv_at hl 0 rfl) ?_
        refine lv_iload_n hx hb dX9_isFirstOfItsLike_9 rfl (lv_at hl 2 rfl) ?_
        refine lv_iload_n hx hb dX9_isFirstOfItsLike_10 rfl (lv_at hl 3 rfl) ?_
        refine x_rdV (av := [.int (nI k), .int (nI r), .int (nI q)]) (rest := []) cx hk hw (ht.1) cv_RX9_88_8 (c_t_like b T ht hT k r q (by omega) (by omega) (by omega)) hl.1 rfl rfl (Nat.le_of_ble_eq_true rfl) ⟨by decide, by decide⟩ ⟨Nat.zero_le _, Nat.zero_le _⟩ dX9_isFirstOfItsLike_11 ?_
        refine x_if_eq (tgt := 19) cx dX9_isFirstOfItsLike_14 (by decide) (fun h14_3 => ?_) (fun h14_3 => ?_)
        · skip
          refine lv_iinc (v := nI (k + 1)) (lv' := [(3, .int (nI (k + 1))), (0, .ref (lo (b))), (1, .int (nI r)), (2, .int (nI q))]) hx hb dX9_isFirstOfItsLike_19 hl (k := 0) rfl (nI_add _ 1) (by decide) rfl (fun ls hl => ?_)
          refine lv_goto (tgt := 2) hx hb dX9_isFirstOfItsLike_22 (by decide) ?_
          exact ih2_1 (k + 1) (by omega) (by exact allN_step hall (by simp [*])) (by omega) _ (lv_sub hl [0, 1, 2, 3] rfl)
        · skip
          refine lv_iconst (v := nI 0) hx hb dX9_isFirstOfItsLike_17 rfl ?_
          exact x_zretF (b := t_first T r q) cx hr hlk dX9_isFirstOfItsLike_18 (by exact allN_no (k := k) (by omega) (by simp [*])) hvv
  exact L2_1 (_ + 1) 0 (by omega) (by rfl) (Nat.lt_succ_self _) _ (lv_sub hl [0, 1, 2, 3] rfl)
set_option maxHeartbeats 4000000 in
set_option maxRecDepth 100000 in
theorem c_t_unl {l : Launch} {G : x_G} {lo : x_L} {co : x_C} (b : Nat) (T : Tb) (ht : isTb G lo co b T) (hT : Tok T) (q : Nat) (hq_ : q < 2 ^ 31) : x_Rd l G lo co yX9_unlikeRows cX9_unlikeRows 4 (some .int) 5 [.ref (lo (b)), .int (nI q)] (some (.int (nI (t_unl T q)))) := by
  refine x_enter RX9 rfl (by decide) (Nat.le_of_ble_eq_true rfl) ?_
  intro pp ee ss mm bb mt cd ls cx hk hw hr hlk hl
  have hl : lv_has ls 4 [(0, .ref (lo (b))), (1, .int (nI q))] := hl
  generalize hav : ([.ref (lo (b)), .int (nI q)] : List Value).toArray = av at cx ⊢
  generalize hvv : (some (.int (nI (t_unl T q))) : Option Value) = vv
  have hx := cx.1
  have hb := cx.2.1
  have hown := cx.2.2.2.1
  have hts := cx.2.2.2.2
  obtain ⟨k1, k2, k3, k4, k5, k6, k7, k8, k9, k0⟩ := id hT
  refine lv_iconst (v := nI 0) hx hb dX9_unlikeRows_0 rfl ?_
  refine lv_istore_n (lv' := [(2, .int (nI 0)), (0, .ref (lo (b))), (1, .int (nI q))]) hx hb dX9_unlikeRows_1 rfl hl (by decide) rfl (fun ls hl => ?_)
  refine lv_iconst (v := nI 0) hx hb dX9_unlikeRows_2 rfl ?_
  refine lv_istore_n (lv' := [(3, .int (nI 0)), (2, .int (nI 0)), (0, .ref (lo (b))), (1, .int (nI q))]) hx hb dX9_unlikeRows_3 rfl hl (by decide) rfl (fun ls hl => ?_)
  have L4_1 : ∀ (n_ : Nat) (f : Nat) (k : Nat), (k ≤ T.1 3) → (f = cntN k (fun r => t_first T r q)) → T.1 3 - k < n_ → ∀ (ls : Array Slot), lv_has ls 4 [(3, .int (nI k)), (2, .int (nI f)), (0, .ref (lo (b))), (1, .int (nI q))] → x_w l 5 pp ee ss mm av bb mt cd vv 4 ls [] := by
    intro n_
    induction n_ with
    | zero => intro f k hv hf hm_ ls hl; exact absurd hm_ (Nat.not_lt_zero _)
    | succ n_ ih4_1 =>
      intro f k hv hf hm_ ls hl
      refine lv_iload_n hx hb dX9_unlikeRows_4 rfl (lv_at hl 0 rfl) ?_
      refine lv_aload_n hx hb dX9_unlikeRows_5 rfl (lv_at hl 2 rfl) ?_
      refine x_get cx hk hw (ht.1) f_RX9_46_8 rfl dX9_unlikeRows_6 ?_
      refine x_icmp_ge (tgt := 35) cx dX9_unlikeRows_9 (by decide) (by omega) (fun h9_2 => ?_) (fun h9_2 => ?_)
      · skip
        refine lv_iload_n hx hb dX9_unlikeRows_35 rfl (lv_at hl 1 rfl) ?_
        exact x_iret cx hr hlk dX9_unlikeRows_36 ((congrArg (fun z => some (Value.int (nI z))) (show f = t_unl T q from by rw [t_unl, hf, show T.1 3 = k by omega])).trans hvv)
      · skip
        refine lv_iload_n hx hb dX9_unlikeRows_12 rfl (lv_at hl 1 rfl) ?_
        refine lv_aload_n hx hb dX9_unlikeRows_13 rfl (lv_at hl 2 rfl) ?_
        refine lv_iload_n hx hb dX9_unlikeRows_14 rfl (lv_at hl 0 rfl) ?_
        refine lv_iload_n hx hb dX9_unlikeRows_15 rfl (lv_at hl 3 rfl) ?_
        refine x_rdV (av := [.int (nI k), .int (nI q)]) (rest := [.int (nI f)]) cx hk hw (ht.1) cv_RX9_85_8 (c_t_first b T ht hT k q (by omega) (by omega)) hl.1 rfl rfl (Nat.le_of_ble_eq_true rfl) ⟨by decide, by decide⟩ ⟨Nat.zero_le _, Nat.zero_le _⟩ dX9_unlikeRows_16 ?_
        have J27_3 : ∀ (y3_s0 : Nat) (ey3_s0 : y3_s0 = if (t_first T k q) = true then 1 else 0) (ls : Array Slot), lv_has ls 4 [(3, .int (nI k)), (2, .int (nI f)), (0, .ref (lo (b))), (1, .int (nI q))] → x_w l 5 pp ee ss mm av bb mt cd vv 27 ls [.int (nI y3_s0), .int (nI f)] := by
          intro y3_s0 ey3_s0 ls hl
          refine x_iaddN cx dX9_unlikeRows_27 ?_
          refine lv_istore_n (lv' := [(2, .int (nI (f + y3_s0))), (3, .int (nI k)), (0, .ref (lo (b))), (1, .int (nI q))]) hx hb dX9_unlikeRows_28 rfl hl (by decide) rfl (fun ls hl => ?_)
          refine lv_iinc (v := nI (k + 1)) (lv' := [(3, .int (nI (k + 1))), (2, .int (nI (f + y3_s0))), (0, .ref (lo (b))), (1, .int (nI q))]) hx hb dX9_unlikeRows_29 hl (k := 1) rfl (nI_add _ 1) (by decide) rfl (fun ls hl => ?_)
          refine lv_goto (tgt := 4) hx hb dX9_unlikeRows_32 (by decide) ?_
          exact ih4_1 (f + y3_s0) (k + 1) (by omega) (by rw [cntN, ← hf]; simp only [*]) (by omega) _ (lv_sub hl [0, 1, 2, 3] rfl)
        refine x_if_eq (tgt := 26) cx dX9_unlikeRows_19 (by decide) (fun h19_4 => ?_) (fun h19_4 => ?_)
        · skip
          refine lv_iconst (v := nI 0) hx hb dX9_unlikeRows_26 rfl ?_
          exact J27_3 0 (by rw [if_neg (fun q => Bool.noConfusion (h19_4.symm.trans q))]) _ (lv_sub hl [0, 1, 2, 3] rfl)
        · skip
          refine lv_iconst (v := nI 1) hx hb dX9_unlikeRows_22 rfl ?_
          refine lv_goto (tgt := 27) hx hb dX9_unlikeRows_23 (by decide) ?_
          exact J27_3 1 (by rw [if_pos h19_4]) _ (lv_sub hl [0, 1, 2, 3] rfl)
  exact L4_1 (_ + 1) 0 0 (by omega) (by rfl) (Nat.lt_succ_self _) _ (lv_sub hl [0, 1, 2, 3] rfl)
set_option maxHeartbeats 4000000 in
set_option maxRecDepth 100000 in
theorem c_t_groups {l : Launch} {G : x_G} {lo : x_L} {co : x_C} (b : Nat) (T : Tb) (ht : isTb G lo co b T) (hT : Tok T) (q : Nat) (hq_ : q < 2 ^ 31) : x_Rd l G lo co yX9_foretoldGroups cX9_foretoldGroups 4 (some .int) 2 [.ref (lo (b)), .int (nI q)] (some (.int (nI (t_groups T q)))) := by
  refine x_enter RX9 rfl (by decide) (Nat.le_of_ble_eq_true rfl) ?_
  intro pp ee ss mm bb mt cd ls cx hk hw hr hlk hl
  have hl : lv_has ls 4 [(0, .ref (lo (b))), (1, .int (nI q))] := hl
  generalize hav : ([.ref (lo (b)), .int (nI q)] : List Value).toArray = av at cx ⊢
  generalize hvv : (some (.int (nI (t_groups T q))) : Option Value) = vv
  have hx := cx.1
  have hb := cx.2.1
  have hown := cx.2.2.2.1
  have hts := cx.2.2.2.2
  obtain ⟨k1, k2, k3, k4, k5, k6, k7, k8, k9, k0⟩ := id hT
  refine lv_iconst (v := nI 1) hx hb dX9_foretoldGroups_0 rfl ?_
  refine lv_istore_n (lv' := [(2, .int (nI 1)), (0, .ref (lo (b))), (1, .int (nI q))]) hx hb dX9_foretoldGroups_1 rfl hl (by decide) rfl (fun ls hl => ?_)
  refine lv_iconst (v := nI 0) hx hb dX9_foretoldGroups_2 rfl ?_
  refine lv_istore_n (lv' := [(3, .int (nI 0)), (2, .int (nI 1)), (0, .ref (lo (b))), (1, .int (nI q))]) hx hb dX9_foretoldGroups_3 rfl hl (by decide) rfl (fun ls hl => ?_)
  have L4_1 : ∀ (n_ : Nat) (f : Nat) (k : Nat), (k ≤ T.1 1) → (f = t_grp T q k) → T.1 1 - k < n_ → ∀ (ls : Array Slot), lv_has ls 4 [(3, .int (nI k)), (2, .int (nI f)), (0, .ref (lo (b))), (1, .int (nI q))] → x_w l 2 pp ee ss mm av bb mt cd vv 4 ls [] := by
    intro n_
    induction n_ with
    | zero => intro f k hv hf hm_ ls hl; exact absurd hm_ (Nat.not_lt_zero _)
    | succ n_ ih4_1 =>
      intro f k hv hf hm_ ls hl
      refine lv_iload_n hx hb dX9_foretoldGroups_4 rfl (lv_at hl 0 rfl) ?_
      refine lv_aload_n hx hb dX9_foretoldGroups_5 rfl (lv_at hl 2 rfl) ?_
      refine x_get cx hk hw (ht.1) f_RX9_28_8 rfl dX9_foretoldGroups_6 ?_
      refine x_icmp_ge (tgt := 39) cx dX9_foretoldGroups_9 (by decide) (by omega) (fun h9_2 => ?_) (fun h9_2 => ?_)
      · skip
        have hfb : f ≤ 60 ^ 4 := by rw [hf]; exact Nat.le_trans (t_grp_le hT q k hv) (Nat.pow_le_pow_right (by decide) (by omega))
        have hfb2 : f < 2 ^ 31 := by omega
        refine lv_iload_n hx hb dX9_foretoldGroups_39 rfl (lv_at hl 1 rfl) ?_
        refine lv_aload_n hx hb dX9_foretoldGroups_40 rfl (lv_at hl 2 rfl) ?_
        refine x_get cx hk hw (ht.1) f_RX9_63_8 rfl dX9_foretoldGroups_41 ?_
        refine x_mmin cx hl.1 w_243 (by omega) w_244 w_8 w_245 ⟨Nat.le_of_ble_eq_true rfl, Nat.le_of_ble_eq_true rfl⟩ ⟨Nat.zero_le _, Nat.zero_le _⟩ dX9_foretoldGroups_44 ?_
        exact x_iret cx hr hlk dX9_foretoldGroups_47 ((congrArg (fun z => some (Value.int (nI z))) (show min f (T.1 5) = t_groups T q from by rw [t_groups, hf, show T.1 1 = k by omega])).trans hvv)
      · skip
        refine lv_iload_n hx hb dX9_foretoldGroups_12 rfl (lv_at hl 1 rfl) ?_
        refine lv_iload_n hx hb dX9_foretoldGroups_13 rfl (lv_at hl 0 rfl) ?_
        refine lv_iload_n hx hb dX9_foretoldGroups_14 rfl (lv_at hl 3 rfl) ?_
        refine x_rdSN (av := [.int (nI k), .int (nI q)]) (rest := [.int (nI f)]) cx hk hw cn_RX9_91 (c_isIn k q (by omega) (by omega)) hl.1 rfl rfl (Nat.le_of_ble_eq_true rfl) ⟨by decide, by decide⟩ ⟨Nat.zero_le _, Nat.zero_le _⟩ dX9_foretoldGroups_15 ?_
        have J31_3 : ∀ (y3_s0 : Nat) (ey3_s0 : y3_s0 = if (q.testBit k) = true then (T.2 1 k) else 1) (ls : Array Slot), lv_has ls 4 [(3, .int (nI k)), (2, .int (nI f)), (0, .ref (lo (b))), (1, .int (nI q))] → x_w l 2 pp ee ss mm av bb mt cd vv 31 ls [.int (nI y3_s0), .int (nI f)] := by
          intro y3_s0 ey3_s0 ls hl
          refine x_imulN cx dX9_foretoldGroups_31 ?_
          refine lv_istore_n (lv' := [(2, .int (nI (f * y3_s0))), (3, .int (nI k)), (0, .ref (lo (b))), (1, .int (nI q))]) hx hb dX9_foretoldGroups_32 rfl hl (by decide) rfl (fun ls hl => ?_)
          refine lv_iinc (v := nI (k + 1)) (lv' := [(3, .int (nI (k + 1))), (2, .int (nI (f * y3_s0))), (0, .ref (lo (b))), (1, .int (nI q))]) hx hb dX9_foretoldGroups_33 hl (k := 1) rfl (nI_add _ 1) (by decide) rfl (fun ls hl => ?_)
          refine lv_goto (tgt := 4) hx hb dX9_foretoldGroups_36 (by decide) ?_
          exact ih4_1 (f * y3_s0) (k + 1) (by omega) (by rw [t_grp, ← hf]; simp only [*]) (by omega) _ (lv_sub hl [0, 1, 2, 3] rfl)
        refine x_if_eq (tgt := 30) cx dX9_foretoldGroups_18 (by decide) (fun h18_4 => ?_) (fun h18_4 => ?_)
        · skip
          refine lv_iconst (v := nI 1) hx hb dX9_foretoldGroups_30 rfl ?_
          exact J31_3 1 (by rw [if_neg (fun q => Bool.noConfusion (h18_4.symm.trans q))]) _ (lv_sub hl [0, 1, 2, 3] rfl)
        · skip
          refine lv_aload_n hx hb dX9_foretoldGroups_21 rfl (lv_at hl 2 rfl) ?_
          refine x_get cx hk hw (ht.1) f_RX9_15_8 rfl dX9_foretoldGroups_22 ?_
          refine lv_iload_n hx hb dX9_foretoldGroups_25 rfl (lv_at hl 0 rfl) ?_
          refine x_ialdN cx hk hw (ht.2.2.1) (by omega) (by decide) dX9_foretoldGroups_26 ?_
          refine lv_goto (tgt := 31) hx hb dX9_foretoldGroups_27 (by decide) ?_
          exact J31_3 (T.2 1 k) (by rw [if_pos h18_4]) _ (lv_sub hl [0, 1, 2, 3] rfl)
  exact L4_1 (_ + 1) 1 0 (by omega) (by rfl) (Nat.lt_succ_self _) _ (lv_sub hl [0, 1, 2, 3] rfl)
set_option maxHeartbeats 4000000 in
set_option maxRecDepth 100000 in
theorem c_t_pass {l : Launch} {G : x_G} {lo : x_L} {co : x_C} (b : Nat) (T : Tb) (ht : isTb G lo co b T) (hT : Tok T) (m c f t : Nat) (hm_ : m ≤ 60) (hc_ : c < T.1 1) (hf_ : f ≤ 999) (ht_ : t ≤ 999) : x_Rd l G lo co yX9_foretoldPassing cX9_foretoldPassing 6 (some .int) 2 [.ref (lo (b)), .int (nI m), .int (nI c), .int (nI f), .int (nI t)] (some (.int (nI (t_pass T m c f t)))) := by
  refine x_enter RX9 rfl (by decide) (Nat.le_of_ble_eq_true rfl) ?_
  intro pp ee ss mm bb mt cd ls cx hk hw hr hlk hl
  have hl : lv_has ls 6 [(0, .ref (lo (b))), (1, .int (nI m)), (2, .int (nI c)), (3, .int (nI f)), (4, .int (nI t))] := hl
  generalize hav : ([.ref (lo (b)), .int (nI m), .int (nI c), .int (nI f), .int (nI t)] : List Value).toArray = av at cx ⊢
  generalize hvv : (some (.int (nI (t_pass T m c f t))) : Option Value) = vv
  have hx := cx.1
  have hb := cx.2.1
  have hown := cx.2.2.2.1
  have hts := cx.2.2.2.2
  obtain ⟨k1, k2, k3, k4, k5, k6, k7, k8, k9, k0⟩ := id hT
  obtain ⟨g1, g2, g3, g4⟩ := k9 c hc_
  have hhas : t_has T (nI c) = true := by rw [t_has_nI k2 (by omega)]; exact decide_eq_true hc_
  refine lv_aload_n hx hb dX9_foretoldPassing_0 rfl (lv_at hl 0 rfl) ?_
  refine lv_iload_n hx hb dX9_foretoldPassing_1 rfl (lv_at hl 2 rfl) ?_
  refine x_rdV (av := [.int (nI c)]) (rest := []) cx hk hw (ht.1) cv_RX9_34_8 (c_t_has b T ht (nI c)) hl.1 rfl rfl (Nat.le_of_ble_eq_true rfl) ⟨by decide, by decide⟩ ⟨Nat.zero_le _, Nat.zero_le _⟩ dX9_foretoldPassing_2 ?_
  refine x_if_ne (tgt := 10) cx dX9_foretoldPassing_5 (by decide) (fun h5_1 => ?_) (fun h5_1 => ?_)
  · skip
    refine lv_iload hx hb dX9_foretoldPassing_10 (lv_at hl 4 rfl) ?_
    refine lv_aload_n hx hb dX9_foretoldPassing_12 rfl (lv_at hl 0 rfl) ?_
    refine x_get cx hk hw (ht.1) f_RX9_21_8 rfl dX9_foretoldPassing_13 ?_
    refine lv_iload_n hx hb dX9_foretoldPassing_16 rfl (lv_at hl 2 rfl) ?_
    refine x_ialdN cx hk hw (ht.2.2.2.2) (by omega) (by decide) dX9_foretoldPassing_17 ?_
    refine x_mmin cx hl.1 w_243 (by omega) w_244 w_8 w_245 ⟨Nat.le_of_ble_eq_true rfl, Nat.le_of_ble_eq_true rfl⟩ ⟨Nat.zero_le _, Nat.zero_le _⟩ dX9_foretoldPassing_18 ?_
    refine lv_iload_n hx hb dX9_foretoldPassing_21 rfl (lv_at hl 3 rfl) ?_
    refine lv_aload_n hx hb dX9_foretoldPassing_22 rfl (lv_at hl 0 rfl) ?_
    refine x_get cx hk hw (ht.1) f_RX9_18_8 rfl dX9_foretoldPassing_23 ?_
    refine lv_iload_n hx hb dX9_foretoldPassing_26 rfl (lv_at hl 2 rfl) ?_
    refine x_ialdN cx hk hw (ht.2.2.2.1) (by omega) (by decide) dX9_foretoldPassing_27 ?_
    refine x_mmax cx hl.1 w_246 (by omega) w_247 w_8 w_248 ⟨Nat.le_of_ble_eq_true rfl, Nat.le_of_ble_eq_true rfl⟩ ⟨Nat.zero_le _, Nat.zero_le _⟩ dX9_foretoldPassing_28 ?_
    by_cases hab : max f (T.2 2 c) ≤ min t (T.2 3 c)
    · skip
      refine x_isubN cx (by omega) dX9_foretoldPassing_31 ?_
      refine lv_iconst (v := nI 1) hx hb dX9_foretoldPassing_32 rfl ?_
      refine x_iaddN cx dX9_foretoldPassing_33 ?_
      refine lv_istore (lv' := [(5, .int (nI (((min t (T.2 3 c)) - (max f (T.2 2 c))) + 1))), (0, .ref (lo (b))), (1, .int (nI m)), (2, .int (nI c)), (3, .int (nI f)), (4, .int (nI t))]) hx hb dX9_foretoldPassing_34 hl (by decide) rfl (fun ls hl => ?_)
      refine lv_iload_n hx hb dX9_foretoldPassing_36 rfl (lv_at hl 2 rfl) ?_
      refine x_ifN_le (tgt := 45) cx dX9_foretoldPassing_37 (by decide) (by omega) (fun h37_2 => ?_) (fun h37_2 => ?_)
      · skip
        refine lv_iconst (v := nI 0) hx hb dX9_foretoldPassing_45 rfl ?_
        exact x_iret cx hr hlk dX9_foretoldPassing_46 ((congrArg (fun z => some (Value.int (nI z))) (show 0 = t_pass T m c f t from by rw [t_pass, if_pos (by omega)])).trans hvv)
      · skip
        refine lv_iload hx hb dX9_foretoldPassing_40 (lv_at hl 0 rfl) ?_
        refine x_ifN_gt (tgt := 47) cx dX9_foretoldPassing_42 (by decide) (by omega) (fun h42_3 => ?_) (fun h42_3 => ?_)
        · skip
          refine lv_iload_n hx hb dX9_foretoldPassing_47 rfl (lv_at hl 4 rfl) ?_
          refine lv_iload hx hb dX9_foretoldPassing_48 (lv_at hl 5 rfl) ?_
          refine x_icmp_ne (tgt := 64) cx dX9_foretoldPassing_50 (by decide) (by omega) (fun h50_4 => ?_) (fun h50_4 => ?_)
          · skip
            refine lv_iload_n hx hb dX9_foretoldPassing_64 rfl (lv_at hl 2 rfl) ?_
            refine lv_iload hx hb dX9_foretoldPassing_65 (lv_at hl 0 rfl) ?_
            have hmw : m * (min t (T.2 3 c) - max f (T.2 2 c) + 1) ≤ 60 * 1000 := Nat.mul_le_mul hm_ (by omega)
            refine x_imulN cx dX9_foretoldPassing_67 ?_
            refine lv_aload_n hx hb dX9_foretoldPassing_68 rfl (lv_at hl 1 rfl) ?_
            refine x_get cx hk hw (ht.1) f_RX9_21_8 rfl dX9_foretoldPassing_69 ?_
            refine lv_iload_n hx hb dX9_foretoldPassing_72 rfl (lv_at hl 3 rfl) ?_
            refine x_ialdN cx hk hw (ht.2.2.2.2) (by omega) (by decide) dX9_foretoldPassing_73 ?_
            refine lv_aload_n hx hb dX9_foretoldPassing_74 rfl (lv_at hl 1 rfl) ?_
            refine x_get cx hk hw (ht.1) f_RX9_18_8 rfl dX9_foretoldPassing_75 ?_
            refine lv_iload_n hx hb dX9_foretoldPassing_78 rfl (lv_at hl 3 rfl) ?_
            refine x_ialdN cx hk hw (ht.2.2.2.1) (by omega) (by decide) dX9_foretoldPassing_79 ?_
            refine x_isubN cx (by omega) dX9_foretoldPassing_80 ?_
            refine lv_iconst (v := nI 1) hx hb dX9_foretoldPassing_81 rfl ?_
            refine x_iaddN cx dX9_foretoldPassing_82 ?_
            refine x_rdSN (av := [.int (nI (m * (((min t (T.2 3 c)) - (max f (T.2 2 c))) + 1))), .int (nI (((T.2 3 c) - (T.2 2 c)) + 1))]) (rest := []) cx hk hw cn_RX9_60 (c_up (m * (((min t (T.2 3 c)) - (max f (T.2 2 c))) + 1)) (((T.2 3 c) - (T.2 2 c)) + 1) (by omega) (by omega)) hl.1 rfl rfl (Nat.le_of_ble_eq_true rfl) ⟨by decide, by decide⟩ ⟨Nat.zero_le _, Nat.zero_le _⟩ dX9_foretoldPassing_83 ?_
            exact x_iret cx hr hlk dX9_foretoldPassing_86 ((congrArg (fun z => some (Value.int (nI z))) (show s_up (m * (((min t (T.2 3 c)) - (max f (T.2 2 c))) + 1)) (((T.2 3 c) - (T.2 2 c)) + 1) = t_pass T m c f t from by rw [t_pass, if_neg (by omega), if_neg (by omega)])).trans hvv)
          · skip
            refine lv_iload_n hx hb dX9_foretoldPassing_53 rfl (lv_at hl 2 rfl) ?_
            refine lv_aload_n hx hb dX9_foretoldPassing_54 rfl (lv_at hl 1 rfl) ?_
            refine x_get cx hk hw (ht.1) f_RX9_15_8 rfl dX9_foretoldPassing_55 ?_
            refine lv_iload_n hx hb dX9_foretoldPassing_58 rfl (lv_at hl 3 rfl) ?_
            refine x_ialdN cx hk hw (ht.2.2.1) (by omega) (by decide) dX9_foretoldPassing_59 ?_
            refine x_rdSN (av := [.int (nI m), .int (nI (T.2 1 c))]) (rest := []) cx hk hw cn_RX9_60 (c_up m (T.2 1 c) (by omega) (by omega)) hl.1 rfl rfl (Nat.le_of_ble_eq_true rfl) ⟨by decide, by decide⟩ ⟨Nat.zero_le _, Nat.zero_le _⟩ dX9_foretoldPassing_60 ?_
            exact x_iret cx hr hlk dX9_foretoldPassing_63 ((congrArg (fun z => some (Value.int (nI z))) (show s_up m (T.2 1 c) = t_pass T m c f t from by rw [t_pass, if_neg (by omega), if_pos (by omega)])).trans hvv)
        · skip
          refine lv_iconst (v := nI 0) hx hb dX9_foretoldPassing_45 rfl ?_
          exact x_iret cx hr hlk dX9_foretoldPassing_46 ((congrArg (fun z => some (Value.int (nI z))) (show 0 = t_pass T m c f t from by rw [t_pass, if_pos (by omega)])).trans hvv)
    · have hab2 : min t (T.2 3 c) < max f (T.2 2 c) := by omega
      refine lv_isub hx hb dX9_foretoldPassing_31 ?_
      refine lv_iconst (v := nI 1) hx hb dX9_foretoldPassing_32 rfl ?_
      refine lv_iadd hx hb dX9_foretoldPassing_33 ?_
      refine lv_istore (lv' := [(5, .int (((nI (min t (T.2 3 c))) - (nI (max f (T.2 2 c)))) + (nI 1))), (0, .ref (lo (b))), (1, .int (nI m)), (2, .int (nI c)), (3, .int (nI f)), (4, .int (nI t))]) hx hb dX9_foretoldPassing_34 hl (by decide) rfl (fun ls hl => ?_)
      refine lv_iload_n hx hb dX9_foretoldPassing_36 rfl (lv_at hl 2 rfl) ?_
      refine x_ifN_le (tgt := 45) cx dX9_foretoldPassing_37 (by decide) (by omega) (fun h37_5 => ?_) (fun h37_5 => ?_)
      · skip
        refine lv_iconst (v := nI 0) hx hb dX9_foretoldPassing_45 rfl ?_
        exact x_iret cx hr hlk dX9_foretoldPassing_46 ((congrArg (fun z => some (Value.int (nI z))) (show 0 = t_pass T m c f t from by rw [t_pass, if_pos (by omega)])).trans hvv)
      · skip
        refine lv_iload hx hb dX9_foretoldPassing_40 (lv_at hl 0 rfl) ?_
        refine lv_if_gt (tgt := 47) hx hb dX9_foretoldPassing_42 (by decide) (fun h42_6 => ?_) (fun h42_6 => ?_)
        · skip
          exact absurd (by assumption) (x_sneg (by omega) (by omega) hab2)
        · skip
          refine lv_iconst (v := nI 0) hx hb dX9_foretoldPassing_45 rfl ?_
          exact x_iret cx hr hlk dX9_foretoldPassing_46 ((congrArg (fun z => some (Value.int (nI z))) (show 0 = t_pass T m c f t from by rw [t_pass, if_pos (by omega)])).trans hvv)
  · skip
    rw [hhas] at *; contradiction
set_option maxHeartbeats 4000000 in
set_option maxRecDepth 100000 in
theorem c_t_cc {l : Launch} {G : x_G} {lo : x_L} {co : x_C} (b : Nat) (T : Tb) (ht : isTb G lo co b T) (hT : Tok T) (c w : Int32) : x_Rd l G lo co yX9_countOfColumn cX9_countOfColumn 3 (some .int) 2 [.ref (lo (b)), .int (c), .int (w)] (some (.int (t_cc T c w))) := by
  refine x_enter RX9 rfl (by decide) (Nat.le_of_ble_eq_true rfl) ?_
  intro pp ee ss mm bb mt cd ls cx hk hw hr hlk hl
  have hl : lv_has ls 3 [(0, .ref (lo (b))), (1, .int (c)), (2, .int (w))] := hl
  generalize hav : ([.ref (lo (b)), .int (c), .int (w)] : List Value).toArray = av at cx ⊢
  generalize hvv : (some (.int (t_cc T c w)) : Option Value) = vv
  have hx := cx.1
  have hb := cx.2.1
  have hown := cx.2.2.2.1
  have hts := cx.2.2.2.2
  obtain ⟨k1, k2, k3, k4, k5, k6, k7, k8, k9, k0⟩ := id hT
  refine lv_aload_n hx hb dX9_countOfColumn_0 rfl (lv_at hl 0 rfl) ?_
  refine lv_iload_n hx hb dX9_countOfColumn_1 rfl (lv_at hl 1 rfl) ?_
  refine x_rdV (av := [.int (c)]) (rest := []) cx hk hw (ht.1) cv_RX9_34_8 (c_t_has b T ht c) hl.1 rfl rfl (Nat.le_of_ble_eq_true rfl) ⟨by decide, by decide⟩ ⟨Nat.zero_le _, Nat.zero_le _⟩ dX9_countOfColumn_2 ?_
  refine x_if_ne (tgt := 10) cx dX9_countOfColumn_5 (by decide) (fun h5_1 => ?_) (fun h5_1 => ?_)
  · skip
    refine lv_iload_n hx hb dX9_countOfColumn_10 rfl (lv_at hl 2 rfl) ?_
    by_cases hs11_2 : w = 2
    · skip
      refine x_tin (tgt := 36) (off := 25) cx dX9_countOfColumn_11 hs11_2 (by decide) (by decide) (by decide) (by decide) ?_
      refine lv_aload_n hx hb dX9_countOfColumn_36 rfl (lv_at hl 0 rfl) ?_
      refine x_get cx hk hw (ht.1) f_RX9_15_8 rfl dX9_countOfColumn_37 ?_
      refine lv_iload_n hx hb dX9_countOfColumn_40 rfl (lv_at hl 1 rfl) ?_
      refine x_iald cx hk hw (ht.2.2.1) (by (obtain ⟨k, hk1, hk2⟩ := t_has_ex k2 (by assumption)); rw [hk2]; exact vp_in_nI (by omega) (by decide)) dX9_countOfColumn_41 ?_
      exact x_iret cx hr hlk dX9_countOfColumn_42 ((congrArg (fun z => some (Value.int z)) (show nI (T.2 1 c.toNatClampNeg) = t_cc T c w from by simp [t_cc, *])).trans hvv)
    by_cases hs11_3 : w = 3
    · skip
      refine x_tin (tgt := 43) (off := 32) cx dX9_countOfColumn_11 hs11_3 (by decide) (by decide) (by decide) (by decide) ?_
      refine lv_aload_n hx hb dX9_countOfColumn_43 rfl (lv_at hl 0 rfl) ?_
      refine x_get cx hk hw (ht.1) f_RX9_18_8 rfl dX9_countOfColumn_44 ?_
      refine lv_iload_n hx hb dX9_countOfColumn_47 rfl (lv_at hl 1 rfl) ?_
      refine x_iald cx hk hw (ht.2.2.2.1) (by (obtain ⟨k, hk1, hk2⟩ := t_has_ex k2 (by assumption)); rw [hk2]; exact vp_in_nI (by omega) (by decide)) dX9_countOfColumn_48 ?_
      exact x_iret cx hr hlk dX9_countOfColumn_49 ((congrArg (fun z => some (Value.int z)) (show nI (T.2 2 c.toNatClampNeg) = t_cc T c w from by simp [t_cc, *])).trans hvv)
    by_cases hs11_4 : w = 4
    · skip
      refine x_tin (tgt := 50) (off := 39) cx dX9_countOfColumn_11 hs11_4 (by decide) (by decide) (by decide) (by decide) ?_
      refine lv_aload_n hx hb dX9_countOfColumn_50 rfl (lv_at hl 0 rfl) ?_
      refine x_get cx hk hw (ht.1) f_RX9_21_8 rfl dX9_countOfColumn_51 ?_
      refine lv_iload_n hx hb dX9_countOfColumn_54 rfl (lv_at hl 1 rfl) ?_
      refine x_iald cx hk hw (ht.2.2.2.2) (by (obtain ⟨k, hk1, hk2⟩ := t_has_ex k2 (by assumption)); rw [hk2]; exact vp_in_nI (by omega) (by decide)) dX9_countOfColumn_55 ?_
      exact x_iret cx hr hlk dX9_countOfColumn_56 ((congrArg (fun z => some (Value.int z)) (show nI (T.2 3 c.toNatClampNeg) = t_cc T c w from by simp [t_cc, *])).trans hvv)
    refine x_tout (tgt := 57) (lo := 2) (hi := 4) cx dX9_countOfColumn_11 (by decide) (fun z h1 h2 => by rcases (show z = 2 ∨ z = 3 ∨ z = 4 by omega) with rfl | rfl | rfl <;> (first | exact hs11_2 | exact hs11_3 | exact hs11_4)) ?_
    refine lv_iconst (v := (-1)) hx hb dX9_countOfColumn_57 rfl ?_
    exact x_iret cx hr hlk dX9_countOfColumn_58 ((congrArg (fun z => some (Value.int z)) (show (-1) = t_cc T c w from by simp [t_cc, *])).trans hvv)
  · skip
    refine lv_iconst (v := (-1)) hx hb dX9_countOfColumn_8 rfl ?_
    exact x_iret cx hr hlk dX9_countOfColumn_9 ((congrArg (fun z => some (Value.int z)) (show (-1) = t_cc T c w from by simp [t_cc, *])).trans hvv)
end
section
theorem i_vc : Claimed_1_1 ∧ Claimed_1_2 := sorry
end
