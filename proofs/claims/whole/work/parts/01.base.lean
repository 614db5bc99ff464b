/-- a private method of a class that the tables say can be made, by its rows of tables_1 -/
def lw_okq (q : MethodName × Nat) : Prop := (q.1.cls ≠ "java/lang/invoke/MethodHandle" ∧ q.1.cls ≠ "java/lang/invoke/VarHandle") ∧ Cond.instantiable q.1.cls q.2 ∈ tables_1 ∧ Cond.privateMethod q.1 ∈ tables_1 ∧ Cond.instanceMethod q.1 ∈ tables_1
theorem lw_p0 : lw_okq (⟨"StormLots", "found", "(I)I"⟩, 11) := ⟨⟨by decide +kernel, by decide +kernel⟩, List.mem_of_getElem? (i := 16) (by decide +kernel), List.mem_of_getElem? (i := 300) (by decide +kernel), List.mem_of_getElem? (i := 301) (by decide +kernel)⟩
theorem lw_p1 : lw_okq (⟨"StormLots", "foundNothing", "(I)I"⟩, 11) := ⟨⟨by decide +kernel, by decide +kernel⟩, List.mem_of_getElem? (i := 16) (by decide +kernel), List.mem_of_getElem? (i := 312) (by decide +kernel), List.mem_of_getElem? (i := 313) (by decide +kernel)⟩
theorem lw_p2 : lw_okq (⟨"StormLots$Tape", "readsLaw", "(LStormLots$Ship;)Z"⟩, 5) := ⟨⟨by decide +kernel, by decide +kernel⟩, List.mem_of_getElem? (i := 26) (by decide +kernel), List.mem_of_getElem? (i := 369) (by decide +kernel), List.mem_of_getElem? (i := 370) (by decide +kernel)⟩
theorem lw_p3 : lw_okq (⟨"StormLots$Tape", "passes", "(I)Z"⟩, 5) := ⟨⟨by decide +kernel, by decide +kernel⟩, List.mem_of_getElem? (i := 26) (by decide +kernel), List.mem_of_getElem? (i := 373) (by decide +kernel), List.mem_of_getElem? (i := 374) (by decide +kernel)⟩
theorem lw_p4 : lw_okq (⟨"StormLots$Tape", "byteAt", "(I)I"⟩, 5) := ⟨⟨by decide +kernel, by decide +kernel⟩, List.mem_of_getElem? (i := 26) (by decide +kernel), List.mem_of_getElem? (i := 377) (by decide +kernel), List.mem_of_getElem? (i := 378) (by decide +kernel)⟩
theorem lw_p5 : lw_okq (⟨"StormLots$Tape", "fails", "(I)Z"⟩, 5) := ⟨⟨by decide +kernel, by decide +kernel⟩, List.mem_of_getElem? (i := 26) (by decide +kernel), List.mem_of_getElem? (i := 381) (by decide +kernel), List.mem_of_getElem? (i := 382) (by decide +kernel)⟩
theorem lw_p6 : lw_okq (⟨"StormLots$Tape", "isNumber", "(II)Z"⟩, 5) := ⟨⟨by decide +kernel, by decide +kernel⟩, List.mem_of_getElem? (i := 26) (by decide +kernel), List.mem_of_getElem? (i := 385) (by decide +kernel), List.mem_of_getElem? (i := 386) (by decide +kernel)⟩
theorem lw_p7 : lw_okq (⟨"StormLots$Tape", "readsPeople", "(LStormLots$Ship;)Z"⟩, 5) := ⟨⟨by decide +kernel, by decide +kernel⟩, List.mem_of_getElem? (i := 26) (by decide +kernel), List.mem_of_getElem? (i := 393) (by decide +kernel), List.mem_of_getElem? (i := 394) (by decide +kernel)⟩
theorem lw_p8 : lw_okq (⟨"StormLots$Tape", "readsPerson", "(LStormLots$Ship;)Z"⟩, 5) := ⟨⟨by decide +kernel, by decide +kernel⟩, List.mem_of_getElem? (i := 26) (by decide +kernel), List.mem_of_getElem? (i := 397) (by decide +kernel), List.mem_of_getElem? (i := 398) (by decide +kernel)⟩
theorem lw_p9 : lw_okq (⟨"StormLots$Ship", "lotFactor", "(III)J"⟩, 13) := ⟨⟨by decide +kernel, by decide +kernel⟩, List.mem_of_getElem? (i := 52) (by decide +kernel), List.mem_of_getElem? (i := 470) (by decide +kernel), List.mem_of_getElem? (i := 471) (by decide +kernel)⟩
theorem lw_p10 : lw_okq (⟨"StormLots$Ship", "truthOfKind", "(I)I"⟩, 13) := ⟨⟨by decide +kernel, by decide +kernel⟩, List.mem_of_getElem? (i := 52) (by decide +kernel), List.mem_of_getElem? (i := 476) (by decide +kernel), List.mem_of_getElem? (i := 477) (by decide +kernel)⟩
theorem lw_p11 : lw_okq (⟨"StormLots$Ship", "leave", "(I)V"⟩, 13) := ⟨⟨by decide +kernel, by decide +kernel⟩, List.mem_of_getElem? (i := 52) (by decide +kernel), List.mem_of_getElem? (i := 513) (by decide +kernel), List.mem_of_getElem? (i := 514) (by decide +kernel)⟩
theorem lw_p12 : lw_okq (⟨"StormLots$Foresight", "beginPlan", "(JJ)V"⟩, 4) := ⟨⟨by decide +kernel, by decide +kernel⟩, List.mem_of_getElem? (i := 147) (by decide +kernel), List.mem_of_getElem? (i := 615) (by decide +kernel), List.mem_of_getElem? (i := 616) (by decide +kernel)⟩
theorem lw_p13 : lw_okq (⟨"StormLots$Foresight", "weigh", "(JI)V"⟩, 4) := ⟨⟨by decide +kernel, by decide +kernel⟩, List.mem_of_getElem? (i := 147) (by decide +kernel), List.mem_of_getElem? (i := 620) (by decide +kernel), List.mem_of_getElem? (i := 621) (by decide +kernel)⟩
theorem lw_p14 : lw_okq (⟨"StormLots$Foresight", "aboveByLot", "(LStormLots$Ship;)J"⟩, 4) := ⟨⟨by decide +kernel, by decide +kernel⟩, List.mem_of_getElem? (i := 147) (by decide +kernel), List.mem_of_getElem? (i := 642) (by decide +kernel), List.mem_of_getElem? (i := 643) (by decide +kernel)⟩
theorem lw_p15 : lw_okq (⟨"StormLots$Gale", "drawTheOne", "()I"⟩, 5) := ⟨⟨by decide +kernel, by decide +kernel⟩, List.mem_of_getElem? (i := 194) (by decide +kernel), List.mem_of_getElem? (i := 701) (by decide +kernel), List.mem_of_getElem? (i := 702) (by decide +kernel)⟩
def lw_privs_1 : List (MethodName × Nat) := [(⟨"StormLots", "found", "(I)I"⟩, 11), (⟨"StormLots", "foundNothing", "(I)I"⟩, 11), (⟨"StormLots$Tape", "readsLaw", "(LStormLots$Ship;)Z"⟩, 5), (⟨"StormLots$Tape", "passes", "(I)Z"⟩, 5), (⟨"StormLots$Tape", "byteAt", "(I)I"⟩, 5), (⟨"StormLots$Tape", "fails", "(I)Z"⟩, 5), (⟨"StormLots$Tape", "isNumber", "(II)Z"⟩, 5), (⟨"StormLots$Tape", "readsPeople", "(LStormLots$Ship;)Z"⟩, 5), (⟨"StormLots$Tape", "readsPerson", "(LStormLots$Ship;)Z"⟩, 5), (⟨"StormLots$Ship", "lotFactor", "(III)J"⟩, 13), (⟨"StormLots$Ship", "truthOfKind", "(I)I"⟩, 13), (⟨"StormLots$Ship", "leave", "(I)V"⟩, 13), (⟨"StormLots$Foresight", "beginPlan", "(JJ)V"⟩, 4), (⟨"StormLots$Foresight", "weigh", "(JI)V"⟩, 4), (⟨"StormLots$Foresight", "aboveByLot", "(LStormLots$Ship;)J"⟩, 4), (⟨"StormLots$Gale", "drawTheOne", "()I"⟩, 5)]
theorem lw_r1 : ∀ q ∈ lw_privs_1, lw_okq q := List.forall_mem_cons.mpr ⟨lw_p0, List.forall_mem_cons.mpr ⟨lw_p1, List.forall_mem_cons.mpr ⟨lw_p2, List.forall_mem_cons.mpr ⟨lw_p3, List.forall_mem_cons.mpr ⟨lw_p4, List.forall_mem_cons.mpr ⟨lw_p5, List.forall_mem_cons.mpr ⟨lw_p6, List.forall_mem_cons.mpr ⟨lw_p7, List.forall_mem_cons.mpr ⟨lw_p8, List.forall_mem_cons.mpr ⟨lw_p9, List.forall_mem_cons.mpr ⟨lw_p10, List.forall_mem_cons.mpr ⟨lw_p11, List.forall_mem_cons.mpr ⟨lw_p12, List.forall_mem_cons.mpr ⟨lw_p13, List.forall_mem_cons.mpr ⟨lw_p14, List.forall_mem_cons.mpr ⟨lw_p15, fun _ h => absurd h List.not_mem_nil⟩⟩⟩⟩⟩⟩⟩⟩⟩⟩⟩⟩⟩⟩⟩⟩
theorem lw_p16 : lw_okq (⟨"StormLots$Gale", "draw", "()J"⟩, 5) := ⟨⟨by decide +kernel, by decide +kernel⟩, List.mem_of_getElem? (i := 194) (by decide +kernel), List.mem_of_getElem? (i := 706) (by decide +kernel), List.mem_of_getElem? (i := 707) (by decide +kernel)⟩
theorem lw_p17 : lw_okq (⟨"StormLots$Gale", "passHour", "(I)V"⟩, 5) := ⟨⟨by decide +kernel, by decide +kernel⟩, List.mem_of_getElem? (i := 194) (by decide +kernel), List.mem_of_getElem? (i := 714) (by decide +kernel), List.mem_of_getElem? (i := 715) (by decide +kernel)⟩
theorem lw_p18 : lw_okq (⟨"StormLots$Gale", "throwOne", "(I)V"⟩, 5) := ⟨⟨by decide +kernel, by decide +kernel⟩, List.mem_of_getElem? (i := 194) (by decide +kernel), List.mem_of_getElem? (i := 720) (by decide +kernel), List.mem_of_getElem? (i := 721) (by decide +kernel)⟩
theorem lw_p19 : lw_okq (⟨"StormLots$Gale", "castLot", "()V"⟩, 5) := ⟨⟨by decide +kernel, by decide +kernel⟩, List.mem_of_getElem? (i := 194) (by decide +kernel), List.mem_of_getElem? (i := 725) (by decide +kernel), List.mem_of_getElem? (i := 726) (by decide +kernel)⟩
theorem lw_p20 : lw_okq (⟨"StormLots$Gale", "drawerAt", "(J)I"⟩, 5) := ⟨⟨by decide +kernel, by decide +kernel⟩, List.mem_of_getElem? (i := 194) (by decide +kernel), List.mem_of_getElem? (i := 731) (by decide +kernel), List.mem_of_getElem? (i := 732) (by decide +kernel)⟩
theorem lw_p21 : lw_okq (⟨"StormLots$Asks", "sizeOf", "(LStormLots$Ship;II)I"⟩, 2) := ⟨⟨by decide +kernel, by decide +kernel⟩, List.mem_of_getElem? (i := 221) (by decide +kernel), List.mem_of_getElem? (i := 768) (by decide +kernel), List.mem_of_getElem? (i := 769) (by decide +kernel)⟩
theorem lw_p22 : lw_okq (⟨"StormLots$Asks", "give", "(ILStormLots$Ship;II)I"⟩, 2) := ⟨⟨by decide +kernel, by decide +kernel⟩, List.mem_of_getElem? (i := 221) (by decide +kernel), List.mem_of_getElem? (i := 778) (by decide +kernel), List.mem_of_getElem? (i := 779) (by decide +kernel)⟩
theorem lw_p23 : lw_okq (⟨"StormLots$Asks", "begin", "(I)V"⟩, 2) := ⟨⟨by decide +kernel, by decide +kernel⟩, List.mem_of_getElem? (i := 221) (by decide +kernel), List.mem_of_getElem? (i := 782) (by decide +kernel), List.mem_of_getElem? (i := 783) (by decide +kernel)⟩
theorem lw_p24 : lw_okq (⟨"StormLots$Asks", "markOf", "(LStormLots$Ship;II)I"⟩, 2) := ⟨⟨by decide +kernel, by decide +kernel⟩, List.mem_of_getElem? (i := 221) (by decide +kernel), List.mem_of_getElem? (i := 786) (by decide +kernel), List.mem_of_getElem? (i := 787) (by decide +kernel)⟩
theorem lw_p25 : lw_okq (⟨"StormLots", "rowsThere", "()I"⟩, 11) := ⟨⟨by decide +kernel, by decide +kernel⟩, List.mem_of_getElem? (i := 16) (by decide +kernel), List.mem_of_getElem? (i := 802) (by decide +kernel), List.mem_of_getElem? (i := 803) (by decide +kernel)⟩
theorem lw_p26 : lw_okq (⟨"StormLotsModel", "finding", "(I)I"⟩, 31) := ⟨⟨by decide +kernel, by decide +kernel⟩, List.mem_of_getElem? (i := 810) (by decide +kernel), List.mem_of_getElem? (i := 924) (by decide +kernel), List.mem_of_getElem? (i := 925) (by decide +kernel)⟩
theorem lw_p27 : lw_okq (⟨"StormLotsModel", "beginText", "()V"⟩, 31) := ⟨⟨by decide +kernel, by decide +kernel⟩, List.mem_of_getElem? (i := 810) (by decide +kernel), List.mem_of_getElem? (i := 955) (by decide +kernel), List.mem_of_getElem? (i := 956) (by decide +kernel)⟩
theorem lw_p28 : lw_okq (⟨"StormLotsModel", "nextToken", "()V"⟩, 31) := ⟨⟨by decide +kernel, by decide +kernel⟩, List.mem_of_getElem? (i := 810) (by decide +kernel), List.mem_of_getElem? (i := 959) (by decide +kernel), List.mem_of_getElem? (i := 960) (by decide +kernel)⟩
theorem lw_p29 : lw_okq (⟨"StormLotsModel", "isLetter", "(I)Z"⟩, 31) := ⟨⟨by decide +kernel, by decide +kernel⟩, List.mem_of_getElem? (i := 810) (by decide +kernel), List.mem_of_getElem? (i := 968) (by decide +kernel), List.mem_of_getElem? (i := 969) (by decide +kernel)⟩
theorem lw_p30 : lw_okq (⟨"StormLotsModel", "must", "(Z)V"⟩, 31) := ⟨⟨by decide +kernel, by decide +kernel⟩, List.mem_of_getElem? (i := 810) (by decide +kernel), List.mem_of_getElem? (i := 972) (by decide +kernel), List.mem_of_getElem? (i := 973) (by decide +kernel)⟩
theorem lw_p31 : lw_okq (⟨"StormLotsModel", "bad", "(I)V"⟩, 31) := ⟨⟨by decide +kernel, by decide +kernel⟩, List.mem_of_getElem? (i := 810) (by decide +kernel), List.mem_of_getElem? (i := 976) (by decide +kernel), List.mem_of_getElem? (i := 977) (by decide +kernel)⟩
def lw_privs_2 : List (MethodName × Nat) := [(⟨"StormLots$Gale", "draw", "()J"⟩, 5), (⟨"StormLots$Gale", "passHour", "(I)V"⟩, 5), (⟨"StormLots$Gale", "throwOne", "(I)V"⟩, 5), (⟨"StormLots$Gale", "castLot", "()V"⟩, 5), (⟨"StormLots$Gale", "drawerAt", "(J)I"⟩, 5), (⟨"StormLots$Asks", "sizeOf", "(LStormLots$Ship;II)I"⟩, 2), (⟨"StormLots$Asks", "give", "(ILStormLots$Ship;II)I"⟩, 2), (⟨"StormLots$Asks", "begin", "(I)V"⟩, 2), (⟨"StormLots$Asks", "markOf", "(LStormLots$Ship;II)I"⟩, 2), (⟨"StormLots", "rowsThere", "()I"⟩, 11), (⟨"StormLotsModel", "finding", "(I)I"⟩, 31), (⟨"StormLotsModel", "beginText", "()V"⟩, 31), (⟨"StormLotsModel", "nextToken", "()V"⟩, 31), (⟨"StormLotsModel", "isLetter", "(I)Z"⟩, 31), (⟨"StormLotsModel", "must", "(Z)V"⟩, 31), (⟨"StormLotsModel", "bad", "(I)V"⟩, 31)]
theorem lw_r2 : ∀ q ∈ lw_privs_2, lw_okq q := List.forall_mem_cons.mpr ⟨lw_p16, List.forall_mem_cons.mpr ⟨lw_p17, List.forall_mem_cons.mpr ⟨lw_p18, List.forall_mem_cons.mpr ⟨lw_p19, List.forall_mem_cons.mpr ⟨lw_p20, List.forall_mem_cons.mpr ⟨lw_p21, List.forall_mem_cons.mpr ⟨lw_p22, List.forall_mem_cons.mpr ⟨lw_p23, List.forall_mem_cons.mpr ⟨lw_p24, List.forall_mem_cons.mpr ⟨lw_p25, List.forall_mem_cons.mpr ⟨lw_p26, List.forall_mem_cons.mpr ⟨lw_p27, List.forall_mem_cons.mpr ⟨lw_p28, List.forall_mem_cons.mpr ⟨lw_p29, List.forall_mem_cons.mpr ⟨lw_p30, List.forall_mem_cons.mpr ⟨lw_p31, fun _ h => absurd h List.not_mem_nil⟩⟩⟩⟩⟩⟩⟩⟩⟩⟩⟩⟩⟩⟩⟩⟩
theorem lw_p32 : lw_okq (⟨"StormLotsModel", "number", "(II)I"⟩, 31) := ⟨⟨by decide +kernel, by decide +kernel⟩, List.mem_of_getElem? (i := 810) (by decide +kernel), List.mem_of_getElem? (i := 980) (by decide +kernel), List.mem_of_getElem? (i := 981) (by decide +kernel)⟩
theorem lw_p33 : lw_okq (⟨"StormLotsModel", "mustSign", "(I)V"⟩, 31) := ⟨⟨by decide +kernel, by decide +kernel⟩, List.mem_of_getElem? (i := 810) (by decide +kernel), List.mem_of_getElem? (i := 984) (by decide +kernel), List.mem_of_getElem? (i := 985) (by decide +kernel)⟩
theorem lw_p34 : lw_okq (⟨"StormLotsModel", "isSort", "()Z"⟩, 31) := ⟨⟨by decide +kernel, by decide +kernel⟩, List.mem_of_getElem? (i := 810) (by decide +kernel), List.mem_of_getElem? (i := 988) (by decide +kernel), List.mem_of_getElem? (i := 989) (by decide +kernel)⟩
theorem lw_p35 : lw_okq (⟨"StormLotsModel", "readPerson", "()V"⟩, 31) := ⟨⟨by decide +kernel, by decide +kernel⟩, List.mem_of_getElem? (i := 810) (by decide +kernel), List.mem_of_getElem? (i := 995) (by decide +kernel), List.mem_of_getElem? (i := 996) (by decide +kernel)⟩
theorem lw_p36 : lw_okq (⟨"StormLotsModel", "failed", "()Z"⟩, 31) := ⟨⟨by decide +kernel, by decide +kernel⟩, List.mem_of_getElem? (i := 810) (by decide +kernel), List.mem_of_getElem? (i := 999) (by decide +kernel), List.mem_of_getElem? (i := 1000) (by decide +kernel)⟩
theorem lw_p37 : lw_okq (⟨"StormLotsModel", "of", "(II)I"⟩, 31) := ⟨⟨by decide +kernel, by decide +kernel⟩, List.mem_of_getElem? (i := 810) (by decide +kernel), List.mem_of_getElem? (i := 1004) (by decide +kernel), List.mem_of_getElem? (i := 1005) (by decide +kernel)⟩
theorem lw_p38 : lw_okq (⟨"StormLotsModel", "isPerson", "(I)Z"⟩, 31) := ⟨⟨by decide +kernel, by decide +kernel⟩, List.mem_of_getElem? (i := 810) (by decide +kernel), List.mem_of_getElem? (i := 1012) (by decide +kernel), List.mem_of_getElem? (i := 1013) (by decide +kernel)⟩
theorem lw_p39 : lw_okq (⟨"StormLotsModel", "aboard", "()I"⟩, 31) := ⟨⟨by decide +kernel, by decide +kernel⟩, List.mem_of_getElem? (i := 810) (by decide +kernel), List.mem_of_getElem? (i := 1016) (by decide +kernel), List.mem_of_getElem? (i := 1017) (by decide +kernel)⟩
theorem lw_p40 : lw_okq (⟨"StormLotsModel", "drawing", "(I)I"⟩, 31) := ⟨⟨by decide +kernel, by decide +kernel⟩, List.mem_of_getElem? (i := 810) (by decide +kernel), List.mem_of_getElem? (i := 1020) (by decide +kernel), List.mem_of_getElem? (i := 1021) (by decide +kernel)⟩
theorem lw_p41 : lw_okq (⟨"StormLotsModel", "byLot", "([J[JII)V"⟩, 31) := ⟨⟨by decide +kernel, by decide +kernel⟩, List.mem_of_getElem? (i := 810) (by decide +kernel), List.mem_of_getElem? (i := 1024) (by decide +kernel), List.mem_of_getElem? (i := 1025) (by decide +kernel)⟩
theorem lw_p42 : lw_okq (⟨"StormLotsModel", "speaks", "(III)I"⟩, 31) := ⟨⟨by decide +kernel, by decide +kernel⟩, List.mem_of_getElem? (i := 810) (by decide +kernel), List.mem_of_getElem? (i := 1028) (by decide +kernel), List.mem_of_getElem? (i := 1029) (by decide +kernel)⟩
theorem lw_p43 : lw_okq (⟨"StormLotsModel", "truthOf", "(I)I"⟩, 31) := ⟨⟨by decide +kernel, by decide +kernel⟩, List.mem_of_getElem? (i := 810) (by decide +kernel), List.mem_of_getElem? (i := 1035) (by decide +kernel), List.mem_of_getElem? (i := 1036) (by decide +kernel)⟩
theorem lw_p44 : lw_okq (⟨"StormLotsModel", "keep", "()V"⟩, 31) := ⟨⟨by decide +kernel, by decide +kernel⟩, List.mem_of_getElem? (i := 810) (by decide +kernel), List.mem_of_getElem? (i := 1046) (by decide +kernel), List.mem_of_getElem? (i := 1047) (by decide +kernel)⟩
theorem lw_p45 : lw_okq (⟨"StormLotsModel", "passes", "()V"⟩, 31) := ⟨⟨by decide +kernel, by decide +kernel⟩, List.mem_of_getElem? (i := 810) (by decide +kernel), List.mem_of_getElem? (i := 1050) (by decide +kernel), List.mem_of_getElem? (i := 1051) (by decide +kernel)⟩
theorem lw_p46 : lw_okq (⟨"StormLotsModel", "sinksBehind", "()I"⟩, 31) := ⟨⟨by decide +kernel, by decide +kernel⟩, List.mem_of_getElem? (i := 810) (by decide +kernel), List.mem_of_getElem? (i := 1054) (by decide +kernel), List.mem_of_getElem? (i := 1055) (by decide +kernel)⟩
theorem lw_p47 : lw_okq (⟨"StormLotsModel", "isThere", "()Z"⟩, 31) := ⟨⟨by decide +kernel, by decide +kernel⟩, List.mem_of_getElem? (i := 810) (by decide +kernel), List.mem_of_getElem? (i := 1066) (by decide +kernel), List.mem_of_getElem? (i := 1067) (by decide +kernel)⟩
def lw_privs_3 : List (MethodName × Nat) := [(⟨"StormLotsModel", "number", "(II)I"⟩, 31), (⟨"StormLotsModel", "mustSign", "(I)V"⟩, 31), (⟨"StormLotsModel", "isSort", "()Z"⟩, 31), (⟨"StormLotsModel", "readPerson", "()V"⟩, 31), (⟨"StormLotsModel", "failed", "()Z"⟩, 31), (⟨"StormLotsModel", "of", "(II)I"⟩, 31), (⟨"StormLotsModel", "isPerson", "(I)Z"⟩, 31), (⟨"StormLotsModel", "aboard", "()I"⟩, 31), (⟨"StormLotsModel", "drawing", "(I)I"⟩, 31), (⟨"StormLotsModel", "byLot", "([J[JII)V"⟩, 31), (⟨"StormLotsModel", "speaks", "(III)I"⟩, 31), (⟨"StormLotsModel", "truthOf", "(I)I"⟩, 31), (⟨"StormLotsModel", "keep", "()V"⟩, 31), (⟨"StormLotsModel", "passes", "()V"⟩, 31), (⟨"StormLotsModel", "sinksBehind", "()I"⟩, 31), (⟨"StormLotsModel", "isThere", "()Z"⟩, 31)]
theorem lw_r3 : ∀ q ∈ lw_privs_3, lw_okq q := List.forall_mem_cons.mpr ⟨lw_p32, List.forall_mem_cons.mpr ⟨lw_p33, List.forall_mem_cons.mpr ⟨lw_p34, List.forall_mem_cons.mpr ⟨lw_p35, List.forall_mem_cons.mpr ⟨lw_p36, List.forall_mem_cons.mpr ⟨lw_p37, List.forall_mem_cons.mpr ⟨lw_p38, List.forall_mem_cons.mpr ⟨lw_p39, List.forall_mem_cons.mpr ⟨lw_p40, List.forall_mem_cons.mpr ⟨lw_p41, List.forall_mem_cons.mpr ⟨lw_p42, List.forall_mem_cons.mpr ⟨lw_p43, List.forall_mem_cons.mpr ⟨lw_p44, List.forall_mem_cons.mpr ⟨lw_p45, List.forall_mem_cons.mpr ⟨lw_p46, List.forall_mem_cons.mpr ⟨lw_p47, fun _ h => absurd h List.not_mem_nil⟩⟩⟩⟩⟩⟩⟩⟩⟩⟩⟩⟩⟩⟩⟩⟩
theorem lw_p48 : lw_okq (⟨"StormLotsModel", "drawnTruth", "(I)I"⟩, 31) := ⟨⟨by decide +kernel, by decide +kernel⟩, List.mem_of_getElem? (i := 810) (by decide +kernel), List.mem_of_getElem? (i := 1087) (by decide +kernel), List.mem_of_getElem? (i := 1088) (by decide +kernel)⟩
theorem lw_p49 : lw_okq (⟨"StormLotsModel", "namedOf", "(II)J"⟩, 31) := ⟨⟨by decide +kernel, by decide +kernel⟩, List.mem_of_getElem? (i := 810) (by decide +kernel), List.mem_of_getElem? (i := 1119) (by decide +kernel), List.mem_of_getElem? (i := 1120) (by decide +kernel)⟩
theorem lw_p50 : lw_okq (⟨"StormLotsModel", "laySaved", "(I)V"⟩, 31) := ⟨⟨by decide +kernel, by decide +kernel⟩, List.mem_of_getElem? (i := 810) (by decide +kernel), List.mem_of_getElem? (i := 1132) (by decide +kernel), List.mem_of_getElem? (i := 1133) (by decide +kernel)⟩
theorem lw_p51 : lw_okq (⟨"StormLotsModel", "tries", "(IJ)V"⟩, 31) := ⟨⟨by decide +kernel, by decide +kernel⟩, List.mem_of_getElem? (i := 810) (by decide +kernel), List.mem_of_getElem? (i := 1137) (by decide +kernel), List.mem_of_getElem? (i := 1138) (by decide +kernel)⟩
theorem lw_p52 : lw_okq (⟨"StormLotsModel", "bestOf", "([JI)J"⟩, 31) := ⟨⟨by decide +kernel, by decide +kernel⟩, List.mem_of_getElem? (i := 810) (by decide +kernel), List.mem_of_getElem? (i := 1142) (by decide +kernel), List.mem_of_getElem? (i := 1143) (by decide +kernel)⟩
theorem lw_p53 : lw_okq (⟨"StormLotsModel", "laySome", "()V"⟩, 31) := ⟨⟨by decide +kernel, by decide +kernel⟩, List.mem_of_getElem? (i := 810) (by decide +kernel), List.mem_of_getElem? (i := 1147) (by decide +kernel), List.mem_of_getElem? (i := 1148) (by decide +kernel)⟩
theorem lw_p54 : lw_okq (⟨"StormLotsModel", "priceOf", "(III)I"⟩, 31) := ⟨⟨by decide +kernel, by decide +kernel⟩, List.mem_of_getElem? (i := 810) (by decide +kernel), List.mem_of_getElem? (i := 1163) (by decide +kernel), List.mem_of_getElem? (i := 1164) (by decide +kernel)⟩
theorem lw_p55 : lw_okq (⟨"StormLotsModel", "beenBy", "(III)I"⟩, 31) := ⟨⟨by decide +kernel, by decide +kernel⟩, List.mem_of_getElem? (i := 810) (by decide +kernel), List.mem_of_getElem? (i := 1171) (by decide +kernel), List.mem_of_getElem? (i := 1172) (by decide +kernel)⟩
theorem lw_p56 : lw_okq (⟨"StormLotsModel", "draws", "()J"⟩, 31) := ⟨⟨by decide +kernel, by decide +kernel⟩, List.mem_of_getElem? (i := 810) (by decide +kernel), List.mem_of_getElem? (i := 1180) (by decide +kernel), List.mem_of_getElem? (i := 1181) (by decide +kernel)⟩
theorem lw_p57 : lw_okq (⟨"StormLotsModel", "fallsTo", "(J)I"⟩, 31) := ⟨⟨by decide +kernel, by decide +kernel⟩, List.mem_of_getElem? (i := 810) (by decide +kernel), List.mem_of_getElem? (i := 1186) (by decide +kernel), List.mem_of_getElem? (i := 1187) (by decide +kernel)⟩
theorem lw_p58 : lw_okq (⟨"StormLotsModel", "nameBy", "(II)I"⟩, 31) := ⟨⟨by decide +kernel, by decide +kernel⟩, List.mem_of_getElem? (i := 810) (by decide +kernel), List.mem_of_getElem? (i := 1190) (by decide +kernel), List.mem_of_getElem? (i := 1191) (by decide +kernel)⟩
theorem lw_p59 : lw_okq (⟨"StormLotsModel", "sizeOf", "(I)I"⟩, 31) := ⟨⟨by decide +kernel, by decide +kernel⟩, List.mem_of_getElem? (i := 810) (by decide +kernel), List.mem_of_getElem? (i := 1221) (by decide +kernel), List.mem_of_getElem? (i := 1222) (by decide +kernel)⟩
theorem lw_p60 : lw_okq (⟨"StormLotsModel", "guestSize", "(I)I"⟩, 31) := ⟨⟨by decide +kernel, by decide +kernel⟩, List.mem_of_getElem? (i := 810) (by decide +kernel), List.mem_of_getElem? (i := 1225) (by decide +kernel), List.mem_of_getElem? (i := 1226) (by decide +kernel)⟩
theorem lw_p61 : lw_okq (⟨"StormLotsModel", "began", "(I)V"⟩, 31) := ⟨⟨by decide +kernel, by decide +kernel⟩, List.mem_of_getElem? (i := 810) (by decide +kernel), List.mem_of_getElem? (i := 1229) (by decide +kernel), List.mem_of_getElem? (i := 1230) (by decide +kernel)⟩
theorem lw_p62 : lw_okq (⟨"StormLotsModel", "plainSize", "(I)I"⟩, 31) := ⟨⟨by decide +kernel, by decide +kernel⟩, List.mem_of_getElem? (i := 810) (by decide +kernel), List.mem_of_getElem? (i := 1233) (by decide +kernel), List.mem_of_getElem? (i := 1234) (by decide +kernel)⟩
theorem lw_p63 : lw_okq (⟨"StormLotsModel", "markOf", "(I)I"⟩, 31) := ⟨⟨by decide +kernel, by decide +kernel⟩, List.mem_of_getElem? (i := 810) (by decide +kernel), List.mem_of_getElem? (i := 1237) (by decide +kernel), List.mem_of_getElem? (i := 1238) (by decide +kernel)⟩
def lw_privs_4 : List (MethodName × Nat) := [(⟨"StormLotsModel", "drawnTruth", "(I)I"⟩, 31), (⟨"StormLotsModel", "namedOf", "(II)J"⟩, 31), (⟨"StormLotsModel", "laySaved", "(I)V"⟩, 31), (⟨"StormLotsModel", "tries", "(IJ)V"⟩, 31), (⟨"StormLotsModel", "bestOf", "([JI)J"⟩, 31), (⟨"StormLotsModel", "laySome", "()V"⟩, 31), (⟨"StormLotsModel", "priceOf", "(III)I"⟩, 31), (⟨"StormLotsModel", "beenBy", "(III)I"⟩, 31), (⟨"StormLotsModel", "draws", "()J"⟩, 31), (⟨"StormLotsModel", "fallsTo", "(J)I"⟩, 31), (⟨"StormLotsModel", "nameBy", "(II)I"⟩, 31), (⟨"StormLotsModel", "sizeOf", "(I)I"⟩, 31), (⟨"StormLotsModel", "guestSize", "(I)I"⟩, 31), (⟨"StormLotsModel", "began", "(I)V"⟩, 31), (⟨"StormLotsModel", "plainSize", "(I)I"⟩, 31), (⟨"StormLotsModel", "markOf", "(I)I"⟩, 31)]
theorem lw_r4 : ∀ q ∈ lw_privs_4, lw_okq q := List.forall_mem_cons.mpr ⟨lw_p48, List.forall_mem_cons.mpr ⟨lw_p49, List.forall_mem_cons.mpr ⟨lw_p50, List.forall_mem_cons.mpr ⟨lw_p51, List.forall_mem_cons.mpr ⟨lw_p52, List.forall_mem_cons.mpr ⟨lw_p53, List.forall_mem_cons.mpr ⟨lw_p54, List.forall_mem_cons.mpr ⟨lw_p55, List.forall_mem_cons.mpr ⟨lw_p56, List.forall_mem_cons.mpr ⟨lw_p57, List.forall_mem_cons.mpr ⟨lw_p58, List.forall_mem_cons.mpr ⟨lw_p59, List.forall_mem_cons.mpr ⟨lw_p60, List.forall_mem_cons.mpr ⟨lw_p61, List.forall_mem_cons.mpr ⟨lw_p62, List.forall_mem_cons.mpr ⟨lw_p63, fun _ h => absurd h List.not_mem_nil⟩⟩⟩⟩⟩⟩⟩⟩⟩⟩⟩⟩⟩⟩⟩⟩
def lw_privs : List (MethodName × Nat) := lw_privs_1 ++ (lw_privs_2 ++ (lw_privs_3 ++ (lw_privs_4)))
def lw_tbl : List Cond := k2_sels lw_privs ++ tables_1
theorem lw_privs_ok : ∀ q ∈ lw_privs, lw_okq q := by
  show ∀ q ∈ lw_privs_1 ++ (lw_privs_2 ++ (lw_privs_3 ++ (lw_privs_4))), lw_okq q
  exact List.forall_mem_append.mpr ⟨lw_r1, List.forall_mem_append.mpr ⟨lw_r2, List.forall_mem_append.mpr ⟨lw_r3, lw_r4⟩⟩⟩
def RX0 : String := "StormLots$Acts"
def TX0 : u_T := fun k => match k with
  | 0 => ("StormLots$Acts", "before", "[LStormLots$Ship;", true)
  | 1 => ("StormLots$Acts", "next", "I", false)
  | _ => ("StormLots$Acts", "kept", "I", false)
def tyX0 : Nat → FieldType := fun k => match k with
  | 0 => .array (.object "StormLots$Ship")
  | 1 => .int
  | _ => .int
theorem nmX0 : ∀ a, a < 3 → ∀ b, b < 3 → a ≠ b → (TX0 a).2.1 ≠ (TX0 b).2.1 := by decide +kernel
theorem tyX0_ok : ∀ k, k < 3 → parseFieldDescriptor (TX0 k).2.2.1 = some (tyX0 k) := by decide +kernel
abbrev cX0_init : ByteArray := prog_2_method_1_code
def yX0_init : MethodName := ⟨RX0, "<init>", "()V"⟩
abbrev cX0_keep : ByteArray := prog_2_method_2_code
def yX0_keep : MethodName := ⟨RX0, "keep", "(LStormLots$Ship;)V"⟩
abbrev cX0_takeBack : ByteArray := prog_2_method_3_code
def yX0_takeBack : MethodName := ⟨RX0, "takeBack", "(LStormLots$Ship;)Z"⟩
abbrev cX0_forget : ByteArray := prog_2_method_4_code
def yX0_forget : MethodName := ⟨RX0, "forget", "()V"⟩
def RX1 : String := "StormLots$Asks"
def TX1 : u_T := fun k => match k with
  | 0 => ("StormLots$Asks", "bodies", "[I", true)
  | _ => ("StormLots$Asks", "begun", "I", false)
def tyX1 : Nat → FieldType := fun k => match k with
  | 0 => .array .int
  | _ => .int
theorem nmX1 : ∀ a, a < 2 → ∀ b, b < 2 → a ≠ b → (TX1 a).2.1 ≠ (TX1 b).2.1 := by decide +kernel
theorem tyX1_ok : ∀ k, k < 2 → parseFieldDescriptor (TX1 k).2.2.1 = some (tyX1 k) := by decide +kernel
abbrev cX1_init : ByteArray := prog_3_method_1_code
def yX1_init : MethodName := ⟨RX1, "<init>", "()V"⟩
abbrev cX1_answer : ByteArray := prog_3_method_2_code
def yX1_answer : MethodName := ⟨RX1, "answer", "(LStormLots$Ship;II)I"⟩
abbrev cX1_sizeOf : ByteArray := prog_3_method_3_code
def yX1_sizeOf : MethodName := ⟨RX1, "sizeOf", "(LStormLots$Ship;II)I"⟩
abbrev cX1_markOf : ByteArray := prog_3_method_4_code
def yX1_markOf : MethodName := ⟨RX1, "markOf", "(LStormLots$Ship;II)I"⟩
abbrev cX1_nearestBody : ByteArray := prog_3_method_5_code
def yX1_nearestBody : MethodName := ⟨RX1, "nearestBody", "([ILStormLots$Ship;I)I"⟩
abbrev cX1_give : ByteArray := prog_3_method_6_code
def yX1_give : MethodName := ⟨RX1, "give", "(ILStormLots$Ship;II)I"⟩
abbrev cX1_begin : ByteArray := prog_3_method_7_code
def yX1_begin : MethodName := ⟨RX1, "begin", "(I)V"⟩
def RX2 : String := "StormLots$Foresight"
def TX2 : u_T := fun k => match k with
  | 0 => ("StormLots$Foresight", "trial", "LStormLots$Ship;", true)
  | 1 => ("StormLots$Foresight", "above", "J", false)
  | 2 => ("StormLots$Foresight", "below", "J", false)
  | _ => ("StormLots$Foresight", "best", "I", false)
def tyX2 : Nat → FieldType := fun k => match k with
  | 0 => .object "StormLots$Ship"
  | 1 => .long
  | 2 => .long
  | _ => .int
theorem nmX2 : ∀ a, a < 4 → ∀ b, b < 4 → a ≠ b → (TX2 a).2.1 ≠ (TX2 b).2.1 := by decide +kernel
theorem tyX2_ok : ∀ k, k < 4 → parseFieldDescriptor (TX2 k).2.2.1 = some (tyX2 k) := by decide +kernel
abbrev cX2_init : ByteArray := prog_4_method_1_code
def yX2_init : MethodName := ⟨RX2, "<init>", "()V"⟩
abbrev cX2_whoTells : ByteArray := prog_4_method_2_code
def yX2_whoTells : MethodName := ⟨RX2, "whoTells", "(LStormLots$Ship;)I"⟩
abbrev cX2_lotsTillSure : ByteArray := prog_4_method_3_code
def yX2_lotsTillSure : MethodName := ⟨RX2, "lotsTillSure", "(LStormLots$Ship;II)I"⟩
abbrev cX2_shareIfJoined : ByteArray := prog_4_method_4_code
def yX2_shareIfJoined : MethodName := ⟨RX2, "shareIfJoined", "(LStormLots$Ship;III)I"⟩
abbrev cX2_planOneHour : ByteArray := prog_4_method_5_code
def yX2_planOneHour : MethodName := ⟨RX2, "planOneHour", "(LStormLots$Ship;)V"⟩
abbrev cX2_planTwoHours : ByteArray := prog_4_method_6_code
def yX2_planTwoHours : MethodName := ⟨RX2, "planTwoHours", "(LStormLots$Ship;)V"⟩
abbrev cX2_beginPlan : ByteArray := prog_4_method_7_code
def yX2_beginPlan : MethodName := ⟨RX2, "beginPlan", "(JJ)V"⟩
abbrev cX2_weigh : ByteArray := prog_4_method_8_code
def yX2_weigh : MethodName := ⟨RX2, "weigh", "(JI)V"⟩
abbrev cX2_lastHour : ByteArray := prog_4_method_9_code
def yX2_lastHour : MethodName := ⟨RX2, "lastHour", "(LStormLots$Ship;JJ)J"⟩
abbrev cX2_bothHours : ByteArray := prog_4_method_10_code
def yX2_bothHours : MethodName := ⟨RX2, "bothHours", "(LStormLots$Ship;JJ)J"⟩
abbrev cX2_aboveByLot : ByteArray := prog_4_method_11_code
def yX2_aboveByLot : MethodName := ⟨RX2, "aboveByLot", "(LStormLots$Ship;)J"⟩
def RX3 : String := "StormLots$Gale"
def TX3 : u_T := fun k => match k with
  | 0 => ("StormLots$Gale", "ship", "LStormLots$Ship;", true)
  | 1 => ("StormLots$Gale", "innocents", "I", false)
  | 2 => ("StormLots$Gale", "hours", "I", false)
  | 3 => ("StormLots$Gale", "one", "I", false)
  | _ => ("StormLots$Gale", "x", "J", false)
def tyX3 : Nat → FieldType := fun k => match k with
  | 0 => .object "StormLots$Ship"
  | 1 => .int
  | 2 => .int
  | 3 => .int
  | _ => .long
theorem nmX3 : ∀ a, a < 5 → ∀ b, b < 5 → a ≠ b → (TX3 a).2.1 ≠ (TX3 b).2.1 := by decide +kernel
theorem tyX3_ok : ∀ k, k < 5 → parseFieldDescriptor (TX3 k).2.2.1 = some (tyX3 k) := by decide +kernel
abbrev cX3_init : ByteArray := prog_5_method_1_code
def yX3_init : MethodName := ⟨RX3, "<init>", "()V"⟩
abbrev cX3_blow : ByteArray := prog_5_method_2_code
def yX3_blow : MethodName := ⟨RX3, "blow", "(LStormLots$Ship;II)V"⟩
abbrev cX3_draw : ByteArray := prog_5_method_3_code
def yX3_draw : MethodName := ⟨RX3, "draw", "()J"⟩
abbrev cX3_drawTheOne : ByteArray := prog_5_method_4_code
def yX3_drawTheOne : MethodName := ⟨RX3, "drawTheOne", "()I"⟩
abbrev cX3_passHour : ByteArray := prog_5_method_5_code
def yX3_passHour : MethodName := ⟨RX3, "passHour", "(I)V"⟩
abbrev cX3_throwOne : ByteArray := prog_5_method_6_code
def yX3_throwOne : MethodName := ⟨RX3, "throwOne", "(I)V"⟩
abbrev cX3_castLot : ByteArray := prog_5_method_7_code
def yX3_castLot : MethodName := ⟨RX3, "castLot", "()V"⟩
abbrev cX3_drawerAt : ByteArray := prog_5_method_8_code
def yX3_drawerAt : MethodName := ⟨RX3, "drawerAt", "(J)I"⟩
def RX4 : String := "StormLots$Row"
def TX4 : u_T := fun k => match k with
  | 0 => ("StormLots$Row", "lane", "I", false)
  | 1 => ("StormLots$Row", "size", "I", false)
  | _ => ("StormLots$Row", "items", "[I", true)
def tyX4 : Nat → FieldType := fun k => match k with
  | 0 => .int
  | 1 => .int
  | _ => .array .int
theorem nmX4 : ∀ a, a < 3 → ∀ b, b < 3 → a ≠ b → (TX4 a).2.1 ≠ (TX4 b).2.1 := by decide +kernel
theorem tyX4_ok : ∀ k, k < 3 → parseFieldDescriptor (TX4 k).2.2.1 = some (tyX4 k) := by decide +kernel
abbrev cX4_init : ByteArray := prog_6_method_1_code
def yX4_init : MethodName := ⟨RX4, "<init>", "()V"⟩
abbrev cX4_isMissing : ByteArray := prog_6_method_2_code
def yX4_isMissing : MethodName := ⟨RX4, "isMissing", "()Z"⟩
abbrev cX4_begin : ByteArray := prog_6_method_3_code
def yX4_begin : MethodName := ⟨RX4, "begin", "(II)V"⟩
abbrev cX4_end : ByteArray := prog_6_method_4_code
def yX4_end : MethodName := ⟨RX4, "end", "()V"⟩
abbrev cX4_spans : ByteArray := prog_6_method_5_code
def yX4_spans : MethodName := ⟨RX4, "spans", "(II)Z"⟩
abbrev cX4_put : ByteArray := prog_6_method_6_code
def yX4_put : MethodName := ⟨RX4, "put", "(II)I"⟩
def RX5 : String := "StormLots$Ship"
def TX5 : u_T := fun k => match k with
  | 0 => ("StormLots$Ship", "people", "I", false)
  | 1 => ("StormLots$Ship", "truth", "I", false)
  | 2 => ("StormLots$Ship", "sink", "I", false)
  | 3 => ("StormLots$Ship", "drop", "I", false)
  | 4 => ("StormLots$Ship", "hours", "I", false)
  | 5 => ("StormLots$Ship", "lots", "I", false)
  | 6 => ("StormLots$Ship", "cargo", "I", false)
  | 7 => ("StormLots$Ship", "aboard", "I", false)
  | 8 => ("StormLots$Ship", "drawing", "I", false)
  | 9 => ("StormLots$Ship", "still", "Z", false)
  | 10 => ("StormLots$Ship", "kinds", "[I", true)
  | 11 => ("StormLots$Ship", "weights", "[I", true)
  | _ => ("StormLots$Ship", "likelihoods", "[J", true)
def tyX5 : Nat → FieldType := fun k => match k with
  | 0 => .int
  | 1 => .int
  | 2 => .int
  | 3 => .int
  | 4 => .int
  | 5 => .int
  | 6 => .int
  | 7 => .int
  | 8 => .int
  | 9 => .boolean
  | 10 => .array .int
  | 11 => .array .int
  | _ => .array .long
theorem nmX5 : ∀ a, a < 13 → ∀ b, b < 13 → a ≠ b → (TX5 a).2.1 ≠ (TX5 b).2.1 := by decide +kernel
theorem tyX5_ok : ∀ k, k < 13 → parseFieldDescriptor (TX5 k).2.2.1 = some (tyX5 k) := by decide +kernel
abbrev cX5_init : ByteArray := prog_7_method_1_code
def yX5_init : MethodName := ⟨RX5, "<init>", "()V"⟩
abbrev cX5_clear : ByteArray := prog_7_method_2_code
def yX5_clear : MethodName := ⟨RX5, "clear", "()V"⟩
abbrev cX5_becomes : ByteArray := prog_7_method_3_code
def yX5_becomes : MethodName := ⟨RX5, "becomes", "(LStormLots$Ship;)V"⟩
abbrev cX5_addPerson : ByteArray := prog_7_method_4_code
def yX5_addPerson : MethodName := ⟨RX5, "addPerson", "(II)V"⟩
abbrev cX5_isShip : ByteArray := prog_7_method_5_code
def yX5_isShip : MethodName := ⟨RX5, "isShip", "()Z"⟩
abbrev cX5_has : ByteArray := prog_7_method_6_code
def yX5_has : MethodName := ⟨RX5, "has", "(I)Z"⟩
abbrev cX5_isAboard : ByteArray := prog_7_method_7_code
def yX5_isAboard : MethodName := ⟨RX5, "isAboard", "(I)Z"⟩
abbrev cX5_isDrawing : ByteArray := prog_7_method_8_code
def yX5_isDrawing : MethodName := ⟨RX5, "isDrawing", "(I)Z"⟩
abbrev cX5_drawers : ByteArray := prog_7_method_9_code
def yX5_drawers : MethodName := ⟨RX5, "drawers", "()I"⟩
abbrev cX5_truthOf : ByteArray := prog_7_method_10_code
def yX5_truthOf : MethodName := ⟨RX5, "truthOf", "(I)I"⟩
abbrev cX5_truthOfKind : ByteArray := prog_7_method_11_code
def yX5_truthOfKind : MethodName := ⟨RX5, "truthOfKind", "(I)I"⟩
abbrev cX5_lastHour : ByteArray := prog_7_method_12_code
def yX5_lastHour : MethodName := ⟨RX5, "lastHour", "()I"⟩
abbrev cX5_isInStorm : ByteArray := prog_7_method_13_code
def yX5_isInStorm : MethodName := ⟨RX5, "isInStorm", "()Z"⟩
abbrev cX5_all : ByteArray := prog_7_method_14_code
def yX5_all : MethodName := ⟨RX5, "all", "()J"⟩
abbrev cX5_allLots : ByteArray := prog_7_method_15_code
def yX5_allLots : MethodName := ⟨RX5, "allLots", "()J"⟩
abbrev cX5_likeliestAboard : ByteArray := prog_7_method_16_code
def yX5_likeliestAboard : MethodName := ⟨RX5, "likeliestAboard", "()I"⟩
abbrev cX5_mostAboardBut : ByteArray := prog_7_method_17_code
def yX5_mostAboardBut : MethodName := ⟨RX5, "mostAboardBut", "(I)J"⟩
abbrev cX5_isBelieved : ByteArray := prog_7_method_18_code
def yX5_isBelieved : MethodName := ⟨RX5, "isBelieved", "(II)Z"⟩
abbrev cX5_lotFactor : ByteArray := prog_7_method_19_code
def yX5_lotFactor : MethodName := ⟨RX5, "lotFactor", "(III)J"⟩
abbrev cX5_allIfNamed : ByteArray := prog_7_method_20_code
def yX5_allIfNamed : MethodName := ⟨RX5, "allIfNamed", "(I)J"⟩
abbrev cX5_allIfThrown : ByteArray := prog_7_method_21_code
def yX5_allIfThrown : MethodName := ⟨RX5, "allIfThrown", "(II)J"⟩
abbrev cX5_shareOf : ByteArray := prog_7_method_22_code
def yX5_shareOf : MethodName := ⟨RX5, "shareOf", "(II)I"⟩
abbrev cX5_learnLot : ByteArray := prog_7_method_23_code
def yX5_learnLot : MethodName := ⟨RX5, "learnLot", "(I)V"⟩
abbrev cX5_learnStill : ByteArray := prog_7_method_24_code
def yX5_learnStill : MethodName := ⟨RX5, "learnStill", "(I)V"⟩
abbrev cX5_learnInnocent : ByteArray := prog_7_method_25_code
def yX5_learnInnocent : MethodName := ⟨RX5, "learnInnocent", "(I)V"⟩
abbrev cX5_leave : ByteArray := prog_7_method_26_code
def yX5_leave : MethodName := ⟨RX5, "leave", "(I)V"⟩
abbrev cX5_takeLot : ByteArray := prog_7_method_27_code
def yX5_takeLot : MethodName := ⟨RX5, "takeLot", "(I)V"⟩
def RX6 : String := "StormLots$Tape"
def TX6 : u_T := fun k => match k with
  | 0 => ("StormLots$Tape", "bytes", "[I", true)
  | 1 => ("StormLots$Tape", "length", "I", false)
  | 2 => ("StormLots$Tape", "at", "I", false)
  | 3 => ("StormLots$Tape", "fault", "I", false)
  | _ => ("StormLots$Tape", "value", "I", false)
def tyX6 : Nat → FieldType := fun k => match k with
  | 0 => .array .int
  | 1 => .int
  | 2 => .int
  | 3 => .int
  | _ => .int
theorem nmX6 : ∀ a, a < 5 → ∀ b, b < 5 → a ≠ b → (TX6 a).2.1 ≠ (TX6 b).2.1 := by decide +kernel
theorem tyX6_ok : ∀ k, k < 5 → parseFieldDescriptor (TX6 k).2.2.1 = some (tyX6 k) := by decide +kernel
abbrev cX6_init : ByteArray := prog_8_method_1_code
def yX6_init : MethodName := ⟨RX6, "<init>", "()V"⟩
abbrev cX6_takes : ByteArray := prog_8_method_2_code
def yX6_takes : MethodName := ⟨RX6, "takes", "(I)Z"⟩
abbrev cX6_reads : ByteArray := prog_8_method_3_code
def yX6_reads : MethodName := ⟨RX6, "reads", "(LStormLots$Ship;)Z"⟩
abbrev cX6_readsLaw : ByteArray := prog_8_method_4_code
def yX6_readsLaw : MethodName := ⟨RX6, "readsLaw", "(LStormLots$Ship;)Z"⟩
abbrev cX6_readsPeople : ByteArray := prog_8_method_5_code
def yX6_readsPeople : MethodName := ⟨RX6, "readsPeople", "(LStormLots$Ship;)Z"⟩
abbrev cX6_readsPerson : ByteArray := prog_8_method_6_code
def yX6_readsPerson : MethodName := ⟨RX6, "readsPerson", "(LStormLots$Ship;)Z"⟩
abbrev cX6_passes : ByteArray := prog_8_method_7_code
def yX6_passes : MethodName := ⟨RX6, "passes", "(I)Z"⟩
abbrev cX6_isNumber : ByteArray := prog_8_method_8_code
def yX6_isNumber : MethodName := ⟨RX6, "isNumber", "(II)Z"⟩
abbrev cX6_fails : ByteArray := prog_8_method_9_code
def yX6_fails : MethodName := ⟨RX6, "fails", "(I)Z"⟩
abbrev cX6_byteAt : ByteArray := prog_8_method_10_code
def yX6_byteAt : MethodName := ⟨RX6, "byteAt", "(I)I"⟩
abbrev cX6_isFigure : ByteArray := prog_8_method_11_code
def yX6_isFigure : MethodName := ⟨RX6, "isFigure", "(I)Z"⟩
abbrev cX6_kindOf : ByteArray := prog_8_method_12_code
def yX6_kindOf : MethodName := ⟨RX6, "kindOf", "(I)I"⟩
def RX7 : String := "StormLots$Voyages"
def TX7 : u_T := fun k => match k with
  | 0 => ("StormLots$Voyages", "leaves", "[I", true)
  | 1 => ("StormLots$Voyages", "fewest", "[I", true)
  | 2 => ("StormLots$Voyages", "voyages", "I", false)
  | 3 => ("StormLots$Voyages", "everybody", "I", false)
  | _ => ("StormLots$Voyages", "who", "I", false)
def tyX7 : Nat → FieldType := fun k => match k with
  | 0 => .array .int
  | 1 => .array .int
  | 2 => .int
  | 3 => .int
  | _ => .int
theorem nmX7 : ∀ a, a < 5 → ∀ b, b < 5 → a ≠ b → (TX7 a).2.1 ≠ (TX7 b).2.1 := by decide +kernel
theorem tyX7_ok : ∀ k, k < 5 → parseFieldDescriptor (TX7 k).2.2.1 = some (tyX7 k) := by decide +kernel
abbrev cX7_init : ByteArray := prog_9_method_1_code
def yX7_init : MethodName := ⟨RX7, "<init>", "()V"⟩
abbrev cX7_areTold : ByteArray := prog_9_method_2_code
def yX7_areTold : MethodName := ⟨RX7, "areTold", "(LStormLots$Row;III)Z"⟩
abbrev cX7_fewestThatLeaveThem : ByteArray := prog_9_method_3_code
def yX7_fewestThatLeaveThem : MethodName := ⟨RX7, "fewestThatLeaveThem", "()I"⟩
def RX8 : String := "StormLots"
def TX8 : u_T := fun k => match k with
  | 0 => ("StormLots", "rows", "[LStormLots$Row;", true)
  | 1 => ("StormLots", "tape", "LStormLots$Tape;", true)
  | 2 => ("StormLots", "now", "LStormLots$Ship;", true)
  | 3 => ("StormLots", "draft", "LStormLots$Ship;", true)
  | 4 => ("StormLots", "images", "[LStormLots$Ship;", true)
  | 5 => ("StormLots", "acts", "LStormLots$Acts;", true)
  | 6 => ("StormLots", "foresight", "LStormLots$Foresight;", true)
  | 7 => ("StormLots", "voyages", "LStormLots$Voyages;", true)
  | 8 => ("StormLots", "gale", "LStormLots$Gale;", true)
  | 9 => ("StormLots", "asks", "LStormLots$Asks;", true)
  | _ => ("StormLots", "finding", "I", false)
def tyX8 : Nat → FieldType := fun k => match k with
  | 0 => .array (.object "StormLots$Row")
  | 1 => .object "StormLots$Tape"
  | 2 => .object "StormLots$Ship"
  | 3 => .object "StormLots$Ship"
  | 4 => .array (.object "StormLots$Ship")
  | 5 => .object "StormLots$Acts"
  | 6 => .object "StormLots$Foresight"
  | 7 => .object "StormLots$Voyages"
  | 8 => .object "StormLots$Gale"
  | 9 => .object "StormLots$Asks"
  | _ => .int
theorem nmX8 : ∀ a, a < 11 → ∀ b, b < 11 → a ≠ b → (TX8 a).2.1 ≠ (TX8 b).2.1 := by decide +kernel
theorem tyX8_ok : ∀ k, k < 11 → parseFieldDescriptor (TX8 k).2.2.1 = some (tyX8 k) := by decide +kernel
abbrev cX8_init : ByteArray := prog_1_method_1_code
def yX8_init : MethodName := ⟨RX8, "<init>", "()V"⟩
abbrev cX8_row : ByteArray := prog_1_method_2_code
def yX8_row : MethodName := ⟨RX8, "row", "(III)I"⟩
abbrev cX8_set : ByteArray := prog_1_method_3_code
def yX8_set : MethodName := ⟨RX8, "set", "(III)I"⟩
abbrev cX8_copy : ByteArray := prog_1_method_4_code
def yX8_copy : MethodName := ⟨RX8, "copy", "(IIIII)I"⟩
abbrev cX8_drop : ByteArray := prog_1_method_5_code
def yX8_drop : MethodName := ⟨RX8, "drop", "(I)I"⟩
abbrev cX8_feed : ByteArray := prog_1_method_6_code
def yX8_feed : MethodName := ⟨RX8, "feed", "(I)I"⟩
abbrev cX8_ship : ByteArray := prog_1_method_7_code
def yX8_ship : MethodName := ⟨RX8, "ship", "()I"⟩
abbrev cX8_fault : ByteArray := prog_1_method_8_code
def yX8_fault : MethodName := ⟨RX8, "fault", "()I"⟩
abbrev cX8_undo : ByteArray := prog_1_method_9_code
def yX8_undo : MethodName := ⟨RX8, "undo", "()I"⟩
abbrev cX8_cast : ByteArray := prog_1_method_10_code
def yX8_cast : MethodName := ⟨RX8, "cast", "(I)I"⟩
abbrev cX8_throwOver : ByteArray := prog_1_method_11_code
def yX8_throwOver : MethodName := ⟨RX8, "throwOver", "(II)I"⟩
abbrev cX8_cargo : ByteArray := prog_1_method_12_code
def yX8_cargo : MethodName := ⟨RX8, "cargo", "()I"⟩
abbrev cX8_hour : ByteArray := prog_1_method_13_code
def yX8_hour : MethodName := ⟨RX8, "hour", "()I"⟩
abbrev cX8_joins : ByteArray := prog_1_method_14_code
def yX8_joins : MethodName := ⟨RX8, "joins", "(I)I"⟩
abbrev cX8_person : ByteArray := prog_1_method_15_code
def yX8_person : MethodName := ⟨RX8, "person", "(II)I"⟩
abbrev cX8_sea : ByteArray := prog_1_method_16_code
def yX8_sea : MethodName := ⟨RX8, "sea", "(I)I"⟩
abbrev cX8_likelihood : ByteArray := prog_1_method_17_code
def yX8_likelihood : MethodName := ⟨RX8, "likelihood", "(I)J"⟩
abbrev cX8_belief : ByteArray := prog_1_method_18_code
def yX8_belief : MethodName := ⟨RX8, "belief", "(II)J"⟩
abbrev cX8_likeliest : ByteArray := prog_1_method_19_code
def yX8_likeliest : MethodName := ⟨RX8, "likeliest", "()I"⟩
abbrev cX8_named : ByteArray := prog_1_method_20_code
def yX8_named : MethodName := ⟨RX8, "named", "(II)J"⟩
abbrev cX8_tells : ByteArray := prog_1_method_21_code
def yX8_tells : MethodName := ⟨RX8, "tells", "()I"⟩
abbrev cX8_saved : ByteArray := prog_1_method_22_code
def yX8_saved : MethodName := ⟨RX8, "saved", "(II)J"⟩
abbrev cX8_sure : ByteArray := prog_1_method_23_code
def yX8_sure : MethodName := ⟨RX8, "sure", "(II)I"⟩
abbrev cX8_price : ByteArray := prog_1_method_24_code
def yX8_price : MethodName := ⟨RX8, "price", "(III)I"⟩
abbrev cX8_been : ByteArray := prog_1_method_25_code
def yX8_been : MethodName := ⟨RX8, "been", "(IIII)I"⟩
abbrev cX8_storm : ByteArray := prog_1_method_26_code
def yX8_storm : MethodName := ⟨RX8, "storm", "(III)I"⟩
abbrev cX8_image : ByteArray := prog_1_method_27_code
def yX8_image : MethodName := ⟨RX8, "image", "(I)I"⟩
abbrev cX8_restore : ByteArray := prog_1_method_28_code
def yX8_restore : MethodName := ⟨RX8, "restore", "(I)I"⟩
abbrev cX8_kind : ByteArray := prog_1_method_29_code
def yX8_kind : MethodName := ⟨RX8, "kind", "(I)I"⟩
abbrev cX8_as : ByteArray := prog_1_method_30_code
def yX8_as : MethodName := ⟨RX8, "as", "(II)I"⟩
abbrev cX8_ask : ByteArray := prog_1_method_31_code
def yX8_ask : MethodName := ⟨RX8, "ask", "(II)I"⟩
abbrev cX8_trace : ByteArray := prog_1_method_32_code
def yX8_trace : MethodName := ⟨RX8, "trace", "(I)I"⟩
abbrev cX8_count : ByteArray := prog_1_method_33_code
def yX8_count : MethodName := ⟨RX8, "count", "(I)I"⟩
abbrev cX8_status : ByteArray := prog_1_method_34_code
def yX8_status : MethodName := ⟨RX8, "status", "()I"⟩
abbrev cX8_found : ByteArray := prog_1_method_35_code
def yX8_found : MethodName := ⟨RX8, "found", "(I)I"⟩
abbrev cX8_foundNothing : ByteArray := prog_1_method_36_code
def yX8_foundNothing : MethodName := ⟨RX8, "foundNothing", "(I)I"⟩
abbrev cX8_rowsThere : ByteArray := prog_1_method_37_code
def yX8_rowsThere : MethodName := ⟨RX8, "rowsThere", "()I"⟩
abbrev cX8_isNoRow : ByteArray := prog_1_method_38_code
def yX8_isNoRow : MethodName := ⟨RX8, "isNoRow", "(I)Z"⟩
abbrev cX8_isOutside : ByteArray := prog_1_method_39_code
def yX8_isOutside : MethodName := ⟨RX8, "isOutside", "(III)Z"⟩
abbrev cX8_isKindOf : ByteArray := prog_1_method_40_code
def yX8_isKindOf : MethodName := ⟨RX8, "isKindOf", "(II)Z"⟩
abbrev cX8_lowest : ByteArray := prog_1_method_41_code
def yX8_lowest : MethodName := ⟨RX8, "lowest", "(JJI)J"⟩
abbrev cX8_commonPart : ByteArray := prog_1_method_42_code
def yX8_commonPart : MethodName := ⟨RX8, "commonPart", "(JJ)J"⟩
def RX9 : String := "StormLotsModel"
def TX9 : u_T := fun k => match k with
  | 0 => ("StormLotsModel", "thrown", "I", false)
  | 1 => ("StormLotsModel", "status", "I", false)
  | 2 => ("StormLotsModel", "lane", "[I", true)
  | 3 => ("StormLotsModel", "many", "[I", true)
  | 4 => ("StormLotsModel", "item", "[I", true)
  | 5 => ("StormLotsModel", "ship", "[I", true)
  | 6 => ("StormLotsModel", "fresh", "[I", true)
  | 7 => ("StormLotsModel", "like", "[J", true)
  | 8 => ("StormLotsModel", "was", "[I", true)
  | 9 => ("StormLotsModel", "liked", "[J", true)
  | 10 => ("StormLotsModel", "acts", "I", false)
  | 11 => ("StormLotsModel", "tape", "[I", true)
  | 12 => ("StormLotsModel", "taped", "I", false)
  | 13 => ("StormLotsModel", "cursor", "I", false)
  | 14 => ("StormLotsModel", "start", "I", false)
  | 15 => ("StormLotsModel", "token", "I", false)
  | 16 => ("StormLotsModel", "value", "I", false)
  | 17 => ("StormLotsModel", "fault", "I", false)
  | 18 => ("StormLotsModel", "faultAt", "I", false)
  | 19 => ("StormLotsModel", "latest", "I", false)
  | 20 => ("StormLotsModel", "some", "[J", true)
  | 21 => ("StormLotsModel", "then", "[J", true)
  | 22 => ("StormLotsModel", "up", "J", false)
  | 23 => ("StormLotsModel", "down", "J", false)
  | 24 => ("StormLotsModel", "best", "I", false)
  | 25 => ("StormLotsModel", "drawn", "J", false)
  | 26 => ("StormLotsModel", "isKept", "[Z", true)
  | 27 => ("StormLotsModel", "kept", "[I", true)
  | 28 => ("StormLotsModel", "keptLike", "[J", true)
  | 29 => ("StormLotsModel", "trace", "[I", true)
  | _ => ("StormLotsModel", "traced", "I", false)
def tyX9 : Nat → FieldType := fun k => match k with
  | 0 => .int
  | 1 => .int
  | 2 => .array .int
  | 3 => .array .int
  | 4 => .array .int
  | 5 => .array .int
  | 6 => .array .int
  | 7 => .array .long
  | 8 => .array .int
  | 9 => .array .long
  | 10 => .int
  | 11 => .array .int
  | 12 => .int
  | 13 => .int
  | 14 => .int
  | 15 => .int
  | 16 => .int
  | 17 => .int
  | 18 => .int
  | 19 => .int
  | 20 => .array .long
  | 21 => .array .long
  | 22 => .long
  | 23 => .long
  | 24 => .int
  | 25 => .long
  | 26 => .array .boolean
  | 27 => .array .int
  | 28 => .array .long
  | 29 => .array .int
  | _ => .int
theorem nmX9 : ∀ a, a < 31 → ∀ b, b < 31 → a ≠ b → (TX9 a).2.1 ≠ (TX9 b).2.1 := by decide +kernel
theorem tyX9_ok : ∀ k, k < 31 → parseFieldDescriptor (TX9 k).2.2.1 = some (tyX9 k) := by decide +kernel
abbrev cX9_init : ByteArray := prog_11_method_1_code
def yX9_init : MethodName := ⟨RX9, "<init>", "()V"⟩
abbrev cX9_in : ByteArray := prog_11_method_3_code
def yX9_in : MethodName := ⟨RX9, "in", "(JJJ)Z"⟩
abbrev cX9_finding : ByteArray := prog_11_method_4_code
def yX9_finding : MethodName := ⟨RX9, "finding", "(I)I"⟩
abbrev cX9_isRow : ByteArray := prog_11_method_5_code
def yX9_isRow : MethodName := ⟨RX9, "isRow", "(I)Z"⟩
abbrev cX9_row : ByteArray := prog_11_method_6_code
def yX9_row : MethodName := ⟨RX9, "row", "(III)I"⟩
abbrev cX9_set : ByteArray := prog_11_method_7_code
def yX9_set : MethodName := ⟨RX9, "set", "(III)I"⟩
abbrev cX9_copy : ByteArray := prog_11_method_8_code
def yX9_copy : MethodName := ⟨RX9, "copy", "(IIIII)I"⟩
abbrev cX9_drop : ByteArray := prog_11_method_9_code
def yX9_drop : MethodName := ⟨RX9, "drop", "(I)I"⟩
abbrev cX9_feed : ByteArray := prog_11_method_10_code
def yX9_feed : MethodName := ⟨RX9, "feed", "(I)I"⟩
abbrev cX9_bad : ByteArray := prog_11_method_11_code
def yX9_bad : MethodName := ⟨RX9, "bad", "(I)V"⟩
abbrev cX9_nextToken : ByteArray := prog_11_method_12_code
def yX9_nextToken : MethodName := ⟨RX9, "nextToken", "()V"⟩
abbrev cX9_must : ByteArray := prog_11_method_13_code
def yX9_must : MethodName := ⟨RX9, "must", "(Z)V"⟩
abbrev cX9_isLetter : ByteArray := prog_11_method_14_code
def yX9_isLetter : MethodName := ⟨RX9, "isLetter", "(I)Z"⟩
abbrev cX9_number : ByteArray := prog_11_method_15_code
def yX9_number : MethodName := ⟨RX9, "number", "(II)I"⟩
abbrev cX9_mustSign : ByteArray := prog_11_method_16_code
def yX9_mustSign : MethodName := ⟨RX9, "mustSign", "(I)V"⟩
abbrev cX9_beginText : ByteArray := prog_11_method_17_code
def yX9_beginText : MethodName := ⟨RX9, "beginText", "()V"⟩
abbrev cX9_failed : ByteArray := prog_11_method_18_code
def yX9_failed : MethodName := ⟨RX9, "failed", "()Z"⟩
abbrev cX9_fault : ByteArray := prog_11_method_19_code
def yX9_fault : MethodName := ⟨RX9, "fault", "()I"⟩
abbrev cX9_kindBy : ByteArray := prog_11_method_20_code
def yX9_kindBy : MethodName := ⟨RX9, "kindBy", "(I)I"⟩
abbrev cX9_readPerson : ByteArray := prog_11_method_21_code
def yX9_readPerson : MethodName := ⟨RX9, "readPerson", "()V"⟩
abbrev cX9_isSort : ByteArray := prog_11_method_22_code
def yX9_isSort : MethodName := ⟨RX9, "isSort", "()Z"⟩
abbrev cX9_ship : ByteArray := prog_11_method_23_code
def yX9_ship : MethodName := ⟨RX9, "ship", "()I"⟩
abbrev cX9_isThere : ByteArray := prog_11_method_24_code
def yX9_isThere : MethodName := ⟨RX9, "isThere", "()Z"⟩
abbrev cX9_isPerson : ByteArray := prog_11_method_25_code
def yX9_isPerson : MethodName := ⟨RX9, "isPerson", "(I)Z"⟩
abbrev cX9_of : ByteArray := prog_11_method_26_code
def yX9_of : MethodName := ⟨RX9, "of", "(II)I"⟩
abbrev cX9_sinksBehind : ByteArray := prog_11_method_27_code
def yX9_sinksBehind : MethodName := ⟨RX9, "sinksBehind", "()I"⟩
abbrev cX9_aboard : ByteArray := prog_11_method_28_code
def yX9_aboard : MethodName := ⟨RX9, "aboard", "()I"⟩
abbrev cX9_drawing : ByteArray := prog_11_method_29_code
def yX9_drawing : MethodName := ⟨RX9, "drawing", "(I)I"⟩
abbrev cX9_bits : ByteArray := prog_11_method_30_code
def yX9_bits : MethodName := ⟨RX9, "bits", "(I)I"⟩
abbrev cX9_has : ByteArray := prog_11_method_31_code
def yX9_has : MethodName := ⟨RX9, "has", "(II)Z"⟩
abbrev cX9_truthOf : ByteArray := prog_11_method_32_code
def yX9_truthOf : MethodName := ⟨RX9, "truthOf", "(I)I"⟩
abbrev cX9_speaks : ByteArray := prog_11_method_33_code
def yX9_speaks : MethodName := ⟨RX9, "speaks", "(III)I"⟩
abbrev cX9_allOf : ByteArray := prog_11_method_34_code
def yX9_allOf : MethodName := ⟨RX9, "allOf", "([J)J"⟩
abbrev cX9_byLot : ByteArray := prog_11_method_35_code
def yX9_byLot : MethodName := ⟨RX9, "byLot", "([J[JII)V"⟩
abbrev cX9_laySome : ByteArray := prog_11_method_36_code
def yX9_laySome : MethodName := ⟨RX9, "laySome", "()V"⟩
abbrev cX9_likeliestOf : ByteArray := prog_11_method_37_code
def yX9_likeliestOf : MethodName := ⟨RX9, "likeliestOf", "([JI)I"⟩
abbrev cX9_keep : ByteArray := prog_11_method_38_code
def yX9_keep : MethodName := ⟨RX9, "keep", "()V"⟩
abbrev cX9_passes : ByteArray := prog_11_method_39_code
def yX9_passes : MethodName := ⟨RX9, "passes", "()V"⟩
abbrev cX9_cast : ByteArray := prog_11_method_40_code
def yX9_cast : MethodName := ⟨RX9, "cast", "(I)I"⟩
abbrev cX9_throwOver : ByteArray := prog_11_method_41_code
def yX9_throwOver : MethodName := ⟨RX9, "throwOver", "(II)I"⟩
abbrev cX9_cargo : ByteArray := prog_11_method_42_code
def yX9_cargo : MethodName := ⟨RX9, "cargo", "()I"⟩
abbrev cX9_hour : ByteArray := prog_11_method_43_code
def yX9_hour : MethodName := ⟨RX9, "hour", "()I"⟩
abbrev cX9_joins : ByteArray := prog_11_method_44_code
def yX9_joins : MethodName := ⟨RX9, "joins", "(I)I"⟩
abbrev cX9_undo : ByteArray := prog_11_method_45_code
def yX9_undo : MethodName := ⟨RX9, "undo", "()I"⟩
abbrev cX9_drawnTruth : ByteArray := prog_11_method_46_code
def yX9_drawnTruth : MethodName := ⟨RX9, "drawnTruth", "(I)I"⟩
abbrev cX9_person : ByteArray := prog_11_method_47_code
def yX9_person : MethodName := ⟨RX9, "person", "(II)I"⟩
abbrev cX9_sea : ByteArray := prog_11_method_48_code
def yX9_sea : MethodName := ⟨RX9, "sea", "(I)I"⟩
abbrev cX9_likelihood : ByteArray := prog_11_method_49_code
def yX9_likelihood : MethodName := ⟨RX9, "likelihood", "(I)J"⟩
abbrev cX9_part : ByteArray := prog_11_method_50_code
def yX9_part : MethodName := ⟨RX9, "part", "(JJI)J"⟩
abbrev cX9_belief : ByteArray := prog_11_method_51_code
def yX9_belief : MethodName := ⟨RX9, "belief", "(II)J"⟩
abbrev cX9_likeliest : ByteArray := prog_11_method_52_code
def yX9_likeliest : MethodName := ⟨RX9, "likeliest", "()I"⟩
abbrev cX9_namedOf : ByteArray := prog_11_method_53_code
def yX9_namedOf : MethodName := ⟨RX9, "namedOf", "(II)J"⟩
abbrev cX9_named : ByteArray := prog_11_method_54_code
def yX9_named : MethodName := ⟨RX9, "named", "(II)J"⟩
abbrev cX9_tells : ByteArray := prog_11_method_55_code
def yX9_tells : MethodName := ⟨RX9, "tells", "()I"⟩
abbrev cX9_bestOf : ByteArray := prog_11_method_56_code
def yX9_bestOf : MethodName := ⟨RX9, "bestOf", "([JI)J"⟩
abbrev cX9_tries : ByteArray := prog_11_method_57_code
def yX9_tries : MethodName := ⟨RX9, "tries", "(IJ)V"⟩
abbrev cX9_laySaved : ByteArray := prog_11_method_58_code
def yX9_laySaved : MethodName := ⟨RX9, "laySaved", "(I)V"⟩
abbrev cX9_saved : ByteArray := prog_11_method_59_code
def yX9_saved : MethodName := ⟨RX9, "saved", "(II)J"⟩
abbrev cX9_sure : ByteArray := prog_11_method_60_code
def yX9_sure : MethodName := ⟨RX9, "sure", "(II)I"⟩
abbrev cX9_priceOf : ByteArray := prog_11_method_61_code
def yX9_priceOf : MethodName := ⟨RX9, "priceOf", "(III)I"⟩
abbrev cX9_price : ByteArray := prog_11_method_62_code
def yX9_price : MethodName := ⟨RX9, "price", "(III)I"⟩
abbrev cX9_beenBy : ByteArray := prog_11_method_63_code
def yX9_beenBy : MethodName := ⟨RX9, "beenBy", "(III)I"⟩
abbrev cX9_been : ByteArray := prog_11_method_64_code
def yX9_been : MethodName := ⟨RX9, "been", "(IIII)I"⟩
abbrev cX9_draws : ByteArray := prog_11_method_65_code
def yX9_draws : MethodName := ⟨RX9, "draws", "()J"⟩
abbrev cX9_placeOf : ByteArray := prog_11_method_66_code
def yX9_placeOf : MethodName := ⟨RX9, "placeOf", "(II)I"⟩
abbrev cX9_fallsTo : ByteArray := prog_11_method_67_code
def yX9_fallsTo : MethodName := ⟨RX9, "fallsTo", "(J)I"⟩
abbrev cX9_nameBy : ByteArray := prog_11_method_68_code
def yX9_nameBy : MethodName := ⟨RX9, "nameBy", "(II)I"⟩
abbrev cX9_storm : ByteArray := prog_11_method_69_code
def yX9_storm : MethodName := ⟨RX9, "storm", "(III)I"⟩
abbrev cX9_image : ByteArray := prog_11_method_70_code
def yX9_image : MethodName := ⟨RX9, "image", "(I)I"⟩
abbrev cX9_restore : ByteArray := prog_11_method_71_code
def yX9_restore : MethodName := ⟨RX9, "restore", "(I)I"⟩
abbrev cX9_isOf : ByteArray := prog_11_method_72_code
def yX9_isOf : MethodName := ⟨RX9, "isOf", "(II)Z"⟩
abbrev cX9_kind : ByteArray := prog_11_method_73_code
def yX9_kind : MethodName := ⟨RX9, "kind", "(I)I"⟩
abbrev cX9_as : ByteArray := prog_11_method_74_code
def yX9_as : MethodName := ⟨RX9, "as", "(II)I"⟩
abbrev cX9_began : ByteArray := prog_11_method_75_code
def yX9_began : MethodName := ⟨RX9, "began", "(I)V"⟩
abbrev cX9_plainSize : ByteArray := prog_11_method_76_code
def yX9_plainSize : MethodName := ⟨RX9, "plainSize", "(I)I"⟩
abbrev cX9_guestSize : ByteArray := prog_11_method_77_code
def yX9_guestSize : MethodName := ⟨RX9, "guestSize", "(I)I"⟩
abbrev cX9_markOf : ByteArray := prog_11_method_78_code
def yX9_markOf : MethodName := ⟨RX9, "markOf", "(I)I"⟩
abbrev cX9_sizeOf : ByteArray := prog_11_method_79_code
def yX9_sizeOf : MethodName := ⟨RX9, "sizeOf", "(I)I"⟩
abbrev cX9_ask : ByteArray := prog_11_method_80_code
def yX9_ask : MethodName := ⟨RX9, "ask", "(II)I"⟩
abbrev cX9_trace : ByteArray := prog_11_method_81_code
def yX9_trace : MethodName := ⟨RX9, "trace", "(I)I"⟩
abbrev cX9_count : ByteArray := prog_11_method_82_code
def yX9_count : MethodName := ⟨RX9, "count", "(I)I"⟩
abbrev cX9_status : ByteArray := prog_11_method_83_code
def yX9_status : MethodName := ⟨RX9, "status", "()I"⟩
def RJ6 : String := "java/lang/Integer"
abbrev cJ6_bitCount_0f7a4 : ByteArray := prog_12_method_49_code
def yJ6_bitCount_0f7a4 : MethodName := ⟨RJ6, "bitCount", "(I)I"⟩
def RJ9 : String := "java/lang/Math"
abbrev cJ9_max_f86c9 : ByteArray := prog_13_method_66_code
def yJ9_max_f86c9 : MethodName := ⟨RJ9, "max", "(JJ)J"⟩
abbrev cJ9_min_7cf53 : ByteArray := prog_13_method_69_code
def yJ9_min_7cf53 : MethodName := ⟨RJ9, "min", "(II)I"⟩
def RJ10 : String := "java/lang/System"
def RJ7 : String := "java/util/Arrays"
abbrev cJ7_fill_53178 : ByteArray := prog_15_method_103_code
def yJ7_fill_53178 : MethodName := ⟨RJ7, "fill", "([II)V"⟩
def RL : String := "StormLotsLaw"
abbrev cL_law : ByteArray := code
def yL_law : MethodName := ⟨RL, "law", "([I)Z"⟩
abbrev vwCl : List vw_C := [(RX0, TX0, 3), (RX1, TX1, 2), (RX2, TX2, 4), (RX3, TX3, 5), (RX4, TX4, 3), (RX5, TX5, 13), (RX6, TX6, 5), (RX7, TX7, 5), (RX8, TX8, 11), (RX9, TX9, 31)]
