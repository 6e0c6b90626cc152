section
-- ===== PART A: goes FIRST, ahead of the names: the tables' words, and 'selects' of the private methods out of them =====
/-- a private method of a class that the tables say can be made, by its rows of tables_1 -/
def lw_okq (q : MethodName × Nat) : Prop := (q.1.cls ≠ "java/lang/invoke/MethodHandle" ∧ q.1.cls ≠ "java/lang/invoke/VarHandle") ∧ Cond.instantiable q.1.cls q.2 ∈ tables_1 ∧ Cond.privateMethod q.1 ∈ tables_1 ∧ Cond.instanceMethod q.1 ∈ tables_1
theorem lw_p0 : lw_okq (⟨"PostRoad", "digestOfRoad", "(J)J"⟩, 4) := ⟨⟨by decide +kernel, by decide +kernel⟩, List.mem_of_getElem? (i := 18) (by decide +kernel), List.mem_of_getElem? (i := 522) (by decide +kernel), List.mem_of_getElem? (i := 523) (by decide +kernel)⟩
theorem lw_p1 : lw_okq (⟨"PostRoad", "digestOfTeams", "(J)J"⟩, 4) := ⟨⟨by decide +kernel, by decide +kernel⟩, List.mem_of_getElem? (i := 18) (by decide +kernel), List.mem_of_getElem? (i := 545) (by decide +kernel), List.mem_of_getElem? (i := 546) (by decide +kernel)⟩
theorem lw_p2 : lw_okq (⟨"PostRoad", "digestOfLetters", "(J)J"⟩, 4) := ⟨⟨by decide +kernel, by decide +kernel⟩, List.mem_of_getElem? (i := 18) (by decide +kernel), List.mem_of_getElem? (i := 554) (by decide +kernel), List.mem_of_getElem? (i := 555) (by decide +kernel)⟩
theorem lw_p3 : lw_okq (⟨"java/lang/Throwable", "fillInStackTrace", "(I)Ljava/lang/Throwable;"⟩, 6) := ⟨⟨by decide +kernel, by decide +kernel⟩, List.mem_of_getElem? (i := 614) (by decide +kernel), List.mem_of_getElem? (i := 612) (by decide +kernel), List.mem_of_getElem? (i := 613) (by decide +kernel)⟩
theorem lw_p4 : lw_okq (⟨"PostRoadModel", "begins", "(I)V"⟩, 11) := ⟨⟨by decide +kernel, by decide +kernel⟩, List.mem_of_getElem? (i := 820) (by decide +kernel), List.mem_of_getElem? (i := 826) (by decide +kernel), List.mem_of_getElem? (i := 827) (by decide +kernel)⟩
theorem lw_p5 : lw_okq (⟨"PostRoadModel", "isStage", "(I)Z"⟩, 11) := ⟨⟨by decide +kernel, by decide +kernel⟩, List.mem_of_getElem? (i := 820) (by decide +kernel), List.mem_of_getElem? (i := 874) (by decide +kernel), List.mem_of_getElem? (i := 875) (by decide +kernel)⟩
theorem lw_p6 : lw_okq (⟨"PostRoadModel", "throwing", "(I)I"⟩, 11) := ⟨⟨by decide +kernel, by decide +kernel⟩, List.mem_of_getElem? (i := 820) (by decide +kernel), List.mem_of_getElem? (i := 882) (by decide +kernel), List.mem_of_getElem? (i := 883) (by decide +kernel)⟩
theorem lw_p7 : lw_okq (⟨"PostRoadModel", "save", "()V"⟩, 11) := ⟨⟨by decide +kernel, by decide +kernel⟩, List.mem_of_getElem? (i := 820) (by decide +kernel), List.mem_of_getElem? (i := 889) (by decide +kernel), List.mem_of_getElem? (i := 890) (by decide +kernel)⟩
theorem lw_p8 : lw_okq (⟨"PostRoadModel", "hoursOf", "(I)I"⟩, 11) := ⟨⟨by decide +kernel, by decide +kernel⟩, List.mem_of_getElem? (i := 820) (by decide +kernel), List.mem_of_getElem? (i := 893) (by decide +kernel), List.mem_of_getElem? (i := 894) (by decide +kernel)⟩
theorem lw_p9 : lw_okq (⟨"PostRoadModel", "fine", "(I)I"⟩, 11) := ⟨⟨by decide +kernel, by decide +kernel⟩, List.mem_of_getElem? (i := 820) (by decide +kernel), List.mem_of_getElem? (i := 897) (by decide +kernel), List.mem_of_getElem? (i := 898) (by decide +kernel)⟩
theorem lw_p10 : lw_okq (⟨"PostRoadModel", "isInn", "(I)Z"⟩, 11) := ⟨⟨by decide +kernel, by decide +kernel⟩, List.mem_of_getElem? (i := 820) (by decide +kernel), List.mem_of_getElem? (i := 905) (by decide +kernel), List.mem_of_getElem? (i := 906) (by decide +kernel)⟩
theorem lw_p11 : lw_okq (⟨"PostRoadModel", "adds", "(II)V"⟩, 11) := ⟨⟨by decide +kernel, by decide +kernel⟩, List.mem_of_getElem? (i := 820) (by decide +kernel), List.mem_of_getElem? (i := 916) (by decide +kernel), List.mem_of_getElem? (i := 917) (by decide +kernel)⟩
theorem lw_p12 : lw_okq (⟨"PostRoadModel", "isDelivered", "(I)Z"⟩, 11) := ⟨⟨by decide +kernel, by decide +kernel⟩, List.mem_of_getElem? (i := 820) (by decide +kernel), List.mem_of_getElem? (i := 934) (by decide +kernel), List.mem_of_getElem? (i := 935) (by decide +kernel)⟩
theorem lw_p13 : lw_okq (⟨"PostRoadModel", "ofLetter", "(II)I"⟩, 11) := ⟨⟨by decide +kernel, by decide +kernel⟩, List.mem_of_getElem? (i := 820) (by decide +kernel), List.mem_of_getElem? (i := 938) (by decide +kernel), List.mem_of_getElem? (i := 939) (by decide +kernel)⟩
theorem lw_p14 : lw_okq (⟨"PostRoadModel", "hour", "()V"⟩, 11) := ⟨⟨by decide +kernel, by decide +kernel⟩, List.mem_of_getElem? (i := 820) (by decide +kernel), List.mem_of_getElem? (i := 947) (by decide +kernel), List.mem_of_getElem? (i := 948) (by decide +kernel)⟩
theorem lw_p15 : lw_okq (⟨"PostRoadModel", "rests", "()V"⟩, 11) := ⟨⟨by decide +kernel, by decide +kernel⟩, List.mem_of_getElem? (i := 820) (by decide +kernel), List.mem_of_getElem? (i := 951) (by decide +kernel), List.mem_of_getElem? (i := 952) (by decide +kernel)⟩
def lw_privs_1 : List (MethodName × Nat) := [(⟨"PostRoad", "digestOfRoad", "(J)J"⟩, 4), (⟨"PostRoad", "digestOfTeams", "(J)J"⟩, 4), (⟨"PostRoad", "digestOfLetters", "(J)J"⟩, 4), (⟨"java/lang/Throwable", "fillInStackTrace", "(I)Ljava/lang/Throwable;"⟩, 6), (⟨"PostRoadModel", "begins", "(I)V"⟩, 11), (⟨"PostRoadModel", "isStage", "(I)Z"⟩, 11), (⟨"PostRoadModel", "throwing", "(I)I"⟩, 11), (⟨"PostRoadModel", "save", "()V"⟩, 11), (⟨"PostRoadModel", "hoursOf", "(I)I"⟩, 11), (⟨"PostRoadModel", "fine", "(I)I"⟩, 11), (⟨"PostRoadModel", "isInn", "(I)Z"⟩, 11), (⟨"PostRoadModel", "adds", "(II)V"⟩, 11), (⟨"PostRoadModel", "isDelivered", "(I)Z"⟩, 11), (⟨"PostRoadModel", "ofLetter", "(II)I"⟩, 11), (⟨"PostRoadModel", "hour", "()V"⟩, 11), (⟨"PostRoadModel", "rests", "()V"⟩, 11)]
theorem lw_r1 : ∀ q ∈ lw_privs_1, lw_okq q := List.forall_mem_cons.mpr ⟨lw_p0, List.forall_mem_cons.mpr ⟨lw_p1, List.forall_mem_cons.mpr ⟨lw_p2, List.forall_mem_cons.mpr ⟨lw_p3, List.forall_mem_cons.mpr ⟨lw_p4, List.forall_mem_cons.mpr ⟨lw_p5, List.forall_mem_cons.mpr ⟨lw_p6, List.forall_mem_cons.mpr ⟨lw_p7, List.forall_mem_cons.mpr ⟨lw_p8, List.forall_mem_cons.mpr ⟨lw_p9, List.forall_mem_cons.mpr ⟨lw_p10, List.forall_mem_cons.mpr ⟨lw_p11, List.forall_mem_cons.mpr ⟨lw_p12, List.forall_mem_cons.mpr ⟨lw_p13, List.forall_mem_cons.mpr ⟨lw_p14, List.forall_mem_cons.mpr ⟨lw_p15, fun _ h => absurd h List.not_mem_nil⟩⟩⟩⟩⟩⟩⟩⟩⟩⟩⟩⟩⟩⟩⟩⟩
theorem lw_p16 : lw_okq (⟨"PostRoadModel", "of", "(II)I"⟩, 11) := ⟨⟨by decide +kernel, by decide +kernel⟩, List.mem_of_getElem? (i := 820) (by decide +kernel), List.mem_of_getElem? (i := 955) (by decide +kernel), List.mem_of_getElem? (i := 956) (by decide +kernel)⟩
theorem lw_p17 : lw_okq (⟨"PostRoadModel", "roads", "()V"⟩, 11) := ⟨⟨by decide +kernel, by decide +kernel⟩, List.mem_of_getElem? (i := 820) (by decide +kernel), List.mem_of_getElem? (i := 959) (by decide +kernel), List.mem_of_getElem? (i := 960) (by decide +kernel)⟩
theorem lw_p18 : lw_okq (⟨"PostRoadModel", "arrives", "(I)V"⟩, 11) := ⟨⟨by decide +kernel, by decide +kernel⟩, List.mem_of_getElem? (i := 820) (by decide +kernel), List.mem_of_getElem? (i := 963) (by decide +kernel), List.mem_of_getElem? (i := 964) (by decide +kernel)⟩
theorem lw_p19 : lw_okq (⟨"PostRoadModel", "effort", "(II)I"⟩, 11) := ⟨⟨by decide +kernel, by decide +kernel⟩, List.mem_of_getElem? (i := 820) (by decide +kernel), List.mem_of_getElem? (i := 967) (by decide +kernel), List.mem_of_getElem? (i := 968) (by decide +kernel)⟩
theorem lw_p20 : lw_okq (⟨"PostRoadModel", "comes", "(II)V"⟩, 11) := ⟨⟨by decide +kernel, by decide +kernel⟩, List.mem_of_getElem? (i := 820) (by decide +kernel), List.mem_of_getElem? (i := 974) (by decide +kernel), List.mem_of_getElem? (i := 975) (by decide +kernel)⟩
theorem lw_p21 : lw_okq (⟨"PostRoadModel", "goOn", "()V"⟩, 11) := ⟨⟨by decide +kernel, by decide +kernel⟩, List.mem_of_getElem? (i := 820) (by decide +kernel), List.mem_of_getElem? (i := 978) (by decide +kernel), List.mem_of_getElem? (i := 979) (by decide +kernel)⟩
theorem lw_p22 : lw_okq (⟨"PostRoadModel", "lies", "(I)Z"⟩, 11) := ⟨⟨by decide +kernel, by decide +kernel⟩, List.mem_of_getElem? (i := 820) (by decide +kernel), List.mem_of_getElem? (i := 982) (by decide +kernel), List.mem_of_getElem? (i := 983) (by decide +kernel)⟩
theorem lw_p23 : lw_okq (⟨"PostRoadModel", "isAhead", "(II)Z"⟩, 11) := ⟨⟨by decide +kernel, by decide +kernel⟩, List.mem_of_getElem? (i := 820) (by decide +kernel), List.mem_of_getElem? (i := 986) (by decide +kernel), List.mem_of_getElem? (i := 987) (by decide +kernel)⟩
theorem lw_p24 : lw_okq (⟨"PostRoadModel", "goesOn", "(I)V"⟩, 11) := ⟨⟨by decide +kernel, by decide +kernel⟩, List.mem_of_getElem? (i := 820) (by decide +kernel), List.mem_of_getElem? (i := 990) (by decide +kernel), List.mem_of_getElem? (i := 991) (by decide +kernel)⟩
theorem lw_p25 : lw_okq (⟨"PostRoadModel", "whyNot", "(I)I"⟩, 11) := ⟨⟨by decide +kernel, by decide +kernel⟩, List.mem_of_getElem? (i := 820) (by decide +kernel), List.mem_of_getElem? (i := 994) (by decide +kernel), List.mem_of_getElem? (i := 995) (by decide +kernel)⟩
theorem lw_p26 : lw_okq (⟨"PostRoadModel", "isBlocked", "(I)Z"⟩, 11) := ⟨⟨by decide +kernel, by decide +kernel⟩, List.mem_of_getElem? (i := 820) (by decide +kernel), List.mem_of_getElem? (i := 1001) (by decide +kernel), List.mem_of_getElem? (i := 1002) (by decide +kernel)⟩
theorem lw_p27 : lw_okq (⟨"PostRoadModel", "isShut", "(I)Z"⟩, 11) := ⟨⟨by decide +kernel, by decide +kernel⟩, List.mem_of_getElem? (i := 820) (by decide +kernel), List.mem_of_getElem? (i := 1005) (by decide +kernel), List.mem_of_getElem? (i := 1006) (by decide +kernel)⟩
theorem lw_p28 : lw_okq (⟨"PostRoadModel", "freeBeds", "(I)I"⟩, 11) := ⟨⟨by decide +kernel, by decide +kernel⟩, List.mem_of_getElem? (i := 820) (by decide +kernel), List.mem_of_getElem? (i := 1009) (by decide +kernel), List.mem_of_getElem? (i := 1010) (by decide +kernel)⟩
theorem lw_p29 : lw_okq (⟨"PostRoadModel", "teamsOf", "(II)I"⟩, 11) := ⟨⟨by decide +kernel, by decide +kernel⟩, List.mem_of_getElem? (i := 820) (by decide +kernel), List.mem_of_getElem? (i := 1013) (by decide +kernel), List.mem_of_getElem? (i := 1014) (by decide +kernel)⟩
theorem lw_p30 : lw_okq (⟨"PostRoadModel", "teamFor", "(I)I"⟩, 11) := ⟨⟨by decide +kernel, by decide +kernel⟩, List.mem_of_getElem? (i := 820) (by decide +kernel), List.mem_of_getElem? (i := 1017) (by decide +kernel), List.mem_of_getElem? (i := 1018) (by decide +kernel)⟩
theorem lw_p31 : lw_okq (⟨"PostRoadModel", "leaves", "(III)V"⟩, 11) := ⟨⟨by decide +kernel, by decide +kernel⟩, List.mem_of_getElem? (i := 820) (by decide +kernel), List.mem_of_getElem? (i := 1021) (by decide +kernel), List.mem_of_getElem? (i := 1022) (by decide +kernel)⟩
def lw_privs_2 : List (MethodName × Nat) := [(⟨"PostRoadModel", "of", "(II)I"⟩, 11), (⟨"PostRoadModel", "roads", "()V"⟩, 11), (⟨"PostRoadModel", "arrives", "(I)V"⟩, 11), (⟨"PostRoadModel", "effort", "(II)I"⟩, 11), (⟨"PostRoadModel", "comes", "(II)V"⟩, 11), (⟨"PostRoadModel", "goOn", "()V"⟩, 11), (⟨"PostRoadModel", "lies", "(I)Z"⟩, 11), (⟨"PostRoadModel", "isAhead", "(II)Z"⟩, 11), (⟨"PostRoadModel", "goesOn", "(I)V"⟩, 11), (⟨"PostRoadModel", "whyNot", "(I)I"⟩, 11), (⟨"PostRoadModel", "isBlocked", "(I)Z"⟩, 11), (⟨"PostRoadModel", "isShut", "(I)Z"⟩, 11), (⟨"PostRoadModel", "freeBeds", "(I)I"⟩, 11), (⟨"PostRoadModel", "teamsOf", "(II)I"⟩, 11), (⟨"PostRoadModel", "teamFor", "(I)I"⟩, 11), (⟨"PostRoadModel", "leaves", "(III)V"⟩, 11)]
theorem lw_r2 : ∀ q ∈ lw_privs_2, lw_okq q := List.forall_mem_cons.mpr ⟨lw_p16, List.forall_mem_cons.mpr ⟨lw_p17, List.forall_mem_cons.mpr ⟨lw_p18, List.forall_mem_cons.mpr ⟨lw_p19, List.forall_mem_cons.mpr ⟨lw_p20, List.forall_mem_cons.mpr ⟨lw_p21, List.forall_mem_cons.mpr ⟨lw_p22, List.forall_mem_cons.mpr ⟨lw_p23, List.forall_mem_cons.mpr ⟨lw_p24, List.forall_mem_cons.mpr ⟨lw_p25, List.forall_mem_cons.mpr ⟨lw_p26, List.forall_mem_cons.mpr ⟨lw_p27, List.forall_mem_cons.mpr ⟨lw_p28, List.forall_mem_cons.mpr ⟨lw_p29, List.forall_mem_cons.mpr ⟨lw_p30, List.forall_mem_cons.mpr ⟨lw_p31, fun _ h => absurd h List.not_mem_nil⟩⟩⟩⟩⟩⟩⟩⟩⟩⟩⟩⟩⟩⟩⟩⟩
theorem lw_p32 : lw_okq (⟨"PostRoadModel", "walkBack", "()V"⟩, 11) := ⟨⟨by decide +kernel, by decide +kernel⟩, List.mem_of_getElem? (i := 820) (by decide +kernel), List.mem_of_getElem? (i := 1025) (by decide +kernel), List.mem_of_getElem? (i := 1026) (by decide +kernel)⟩
theorem lw_p33 : lw_okq (⟨"PostRoadModel", "lettersAt", "(I)I"⟩, 11) := ⟨⟨by decide +kernel, by decide +kernel⟩, List.mem_of_getElem? (i := 820) (by decide +kernel), List.mem_of_getElem? (i := 1029) (by decide +kernel), List.mem_of_getElem? (i := 1030) (by decide +kernel)⟩
theorem lw_p34 : lw_okq (⟨"PostRoadModel", "stageOf", "(II)I"⟩, 11) := ⟨⟨by decide +kernel, by decide +kernel⟩, List.mem_of_getElem? (i := 820) (by decide +kernel), List.mem_of_getElem? (i := 1037) (by decide +kernel), List.mem_of_getElem? (i := 1038) (by decide +kernel)⟩
theorem lw_p35 : lw_okq (⟨"PostRoadModel", "teamsOn", "(I)I"⟩, 11) := ⟨⟨by decide +kernel, by decide +kernel⟩, List.mem_of_getElem? (i := 820) (by decide +kernel), List.mem_of_getElem? (i := 1041) (by decide +kernel), List.mem_of_getElem? (i := 1042) (by decide +kernel)⟩
theorem lw_p36 : lw_okq (⟨"PostRoadModel", "innOf", "(II)I"⟩, 11) := ⟨⟨by decide +kernel, by decide +kernel⟩, List.mem_of_getElem? (i := 820) (by decide +kernel), List.mem_of_getElem? (i := 1049) (by decide +kernel), List.mem_of_getElem? (i := 1050) (by decide +kernel)⟩
theorem lw_p37 : lw_okq (⟨"PostRoadModel", "isTeam", "(I)Z"⟩, 11) := ⟨⟨by decide +kernel, by decide +kernel⟩, List.mem_of_getElem? (i := 820) (by decide +kernel), List.mem_of_getElem? (i := 1057) (by decide +kernel), List.mem_of_getElem? (i := 1058) (by decide +kernel)⟩
theorem lw_p38 : lw_okq (⟨"PostRoadModel", "isLetter", "(I)Z"⟩, 11) := ⟨⟨by decide +kernel, by decide +kernel⟩, List.mem_of_getElem? (i := 820) (by decide +kernel), List.mem_of_getElem? (i := 1065) (by decide +kernel), List.mem_of_getElem? (i := 1066) (by decide +kernel)⟩
theorem lw_p39 : lw_okq (⟨"PostRoadModel", "valueOf", "(I)I"⟩, 11) := ⟨⟨by decide +kernel, by decide +kernel⟩, List.mem_of_getElem? (i := 820) (by decide +kernel), List.mem_of_getElem? (i := 1075) (by decide +kernel), List.mem_of_getElem? (i := 1076) (by decide +kernel)⟩
theorem lw_p40 : lw_okq (⟨"PostRoadModel", "lettersBy", "(Z)I"⟩, 11) := ⟨⟨by decide +kernel, by decide +kernel⟩, List.mem_of_getElem? (i := 820) (by decide +kernel), List.mem_of_getElem? (i := 1079) (by decide +kernel), List.mem_of_getElem? (i := 1080) (by decide +kernel)⟩
theorem lw_p41 : lw_okq (⟨"PostRoadModel", "laysAside", "()V"⟩, 11) := ⟨⟨by decide +kernel, by decide +kernel⟩, List.mem_of_getElem? (i := 820) (by decide +kernel), List.mem_of_getElem? (i := 1091) (by decide +kernel), List.mem_of_getElem? (i := 1092) (by decide +kernel)⟩
theorem lw_p42 : lw_okq (⟨"PostRoadModel", "takesBack", "()V"⟩, 11) := ⟨⟨by decide +kernel, by decide +kernel⟩, List.mem_of_getElem? (i := 820) (by decide +kernel), List.mem_of_getElem? (i := 1095) (by decide +kernel), List.mem_of_getElem? (i := 1096) (by decide +kernel)⟩
theorem lw_p43 : lw_okq (⟨"PostRoadModel", "forAll", "()I"⟩, 11) := ⟨⟨by decide +kernel, by decide +kernel⟩, List.mem_of_getElem? (i := 820) (by decide +kernel), List.mem_of_getElem? (i := 1103) (by decide +kernel), List.mem_of_getElem? (i := 1104) (by decide +kernel)⟩
theorem lw_p44 : lw_okq (⟨"PostRoadModel", "toAll", "()I"⟩, 11) := ⟨⟨by decide +kernel, by decide +kernel⟩, List.mem_of_getElem? (i := 820) (by decide +kernel), List.mem_of_getElem? (i := 1107) (by decide +kernel), List.mem_of_getElem? (i := 1108) (by decide +kernel)⟩
theorem lw_p45 : lw_okq (⟨"PostRoadModel", "areDelivered", "()Z"⟩, 11) := ⟨⟨by decide +kernel, by decide +kernel⟩, List.mem_of_getElem? (i := 820) (by decide +kernel), List.mem_of_getElem? (i := 1111) (by decide +kernel), List.mem_of_getElem? (i := 1112) (by decide +kernel)⟩
theorem lw_p46 : lw_okq (⟨"PostRoadModel", "readsText", "()Z"⟩, 11) := ⟨⟨by decide +kernel, by decide +kernel⟩, List.mem_of_getElem? (i := 820) (by decide +kernel), List.mem_of_getElem? (i := 1144) (by decide +kernel), List.mem_of_getElem? (i := 1145) (by decide +kernel)⟩
theorem lw_p47 : lw_okq (⟨"PostRoadModel", "readsStage", "()Z"⟩, 11) := ⟨⟨by decide +kernel, by decide +kernel⟩, List.mem_of_getElem? (i := 820) (by decide +kernel), List.mem_of_getElem? (i := 1148) (by decide +kernel), List.mem_of_getElem? (i := 1149) (by decide +kernel)⟩
def lw_privs_3 : List (MethodName × Nat) := [(⟨"PostRoadModel", "walkBack", "()V"⟩, 11), (⟨"PostRoadModel", "lettersAt", "(I)I"⟩, 11), (⟨"PostRoadModel", "stageOf", "(II)I"⟩, 11), (⟨"PostRoadModel", "teamsOn", "(I)I"⟩, 11), (⟨"PostRoadModel", "innOf", "(II)I"⟩, 11), (⟨"PostRoadModel", "isTeam", "(I)Z"⟩, 11), (⟨"PostRoadModel", "isLetter", "(I)Z"⟩, 11), (⟨"PostRoadModel", "valueOf", "(I)I"⟩, 11), (⟨"PostRoadModel", "lettersBy", "(Z)I"⟩, 11), (⟨"PostRoadModel", "laysAside", "()V"⟩, 11), (⟨"PostRoadModel", "takesBack", "()V"⟩, 11), (⟨"PostRoadModel", "forAll", "()I"⟩, 11), (⟨"PostRoadModel", "toAll", "()I"⟩, 11), (⟨"PostRoadModel", "areDelivered", "()Z"⟩, 11), (⟨"PostRoadModel", "readsText", "()Z"⟩, 11), (⟨"PostRoadModel", "readsStage", "()Z"⟩, 11)]
theorem lw_r3 : ∀ q ∈ lw_privs_3, lw_okq q := List.forall_mem_cons.mpr ⟨lw_p32, List.forall_mem_cons.mpr ⟨lw_p33, List.forall_mem_cons.mpr ⟨lw_p34, List.forall_mem_cons.mpr ⟨lw_p35, List.forall_mem_cons.mpr ⟨lw_p36, List.forall_mem_cons.mpr ⟨lw_p37, List.forall_mem_cons.mpr ⟨lw_p38, List.forall_mem_cons.mpr ⟨lw_p39, List.forall_mem_cons.mpr ⟨lw_p40, List.forall_mem_cons.mpr ⟨lw_p41, List.forall_mem_cons.mpr ⟨lw_p42, List.forall_mem_cons.mpr ⟨lw_p43, List.forall_mem_cons.mpr ⟨lw_p44, List.forall_mem_cons.mpr ⟨lw_p45, List.forall_mem_cons.mpr ⟨lw_p46, List.forall_mem_cons.mpr ⟨lw_p47, fun _ h => absurd h List.not_mem_nil⟩⟩⟩⟩⟩⟩⟩⟩⟩⟩⟩⟩⟩⟩⟩⟩
theorem lw_p48 : lw_okq (⟨"PostRoadModel", "here", "()I"⟩, 11) := ⟨⟨by decide +kernel, by decide +kernel⟩, List.mem_of_getElem? (i := 820) (by decide +kernel), List.mem_of_getElem? (i := 1152) (by decide +kernel), List.mem_of_getElem? (i := 1153) (by decide +kernel)⟩
def lw_privs_4 : List (MethodName × Nat) := [(⟨"PostRoadModel", "here", "()I"⟩, 11)]
theorem lw_r4 : ∀ q ∈ lw_privs_4, lw_okq q := List.forall_mem_cons.mpr ⟨lw_p48, fun _ h => absurd h List.not_mem_nil⟩
def lw_privs : List (MethodName × Nat) := lw_privs_1 ++ (lw_privs_2 ++ (lw_privs_3 ++ (lw_privs_4)))
def lw_tbl : List Cond := k2_sels lw_privs ++ tables_1
theorem lw_privs_ok : ∀ q ∈ lw_privs, lw_okq q := by
  show ∀ q ∈ lw_privs_1 ++ (lw_privs_2 ++ (lw_privs_3 ++ (lw_privs_4))), lw_okq q
  exact List.forall_mem_append.mpr ⟨lw_r1, List.forall_mem_append.mpr ⟨lw_r2, List.forall_mem_append.mpr ⟨lw_r3, lw_r4⟩⟩⟩
/-- the streams that the claim lets the run draw from -/
abbrev lw_cs : List Choice := [Jvm.Choice.named "NaN.bits"]
theorem lw_bits : nanBits ∈ lw_cs := by first | decide | exact List.mem_cons_self | simp [lw_cs, nanBits]
-- ===== end of PART A; then your names; then what follows =====
end
section
/-! ===== BEGIN words of one list among another's, by their places ===== -/
theorem goodIn_r {big : List Cond} (ws : List Cond) (ps : List Nat) (hp : ws = ps.filterMap (fun i => big[i]?)) (h : ws.all goodWord = true) : GoodIn big ws := by
  intro w hw
  have h1 := List.all_eq_true.mp h w hw
  rw [hp] at hw
  obtain ⟨i, -, hi⟩ := List.mem_filterMap.mp hw
  have hm : w ∈ big := by first | exact List.mem_of_getElem? hi | exact List.getElem?_mem hi
  exact ⟨hm, good_of_word h1⟩
theorem goodIn_app {big a b : List Cond} (ha : GoodIn big a) (hb : GoodIn big b) : GoodIn big (a ++ b) := fun w h => (List.mem_append.mp h).elim (ha w) (hb w)
theorem goodIn_ca {big a b : List Cond} {c : Cond} (ha : GoodIn big (c :: a)) (hb : GoodIn big b) : GoodIn big (c :: (a ++ b)) := fun w h => (List.mem_cons.mp h).elim (fun e => ha w (List.mem_cons.mpr (Or.inl e))) (fun h => (List.mem_append.mp h).elim (fun h => ha w (List.mem_cons.mpr (Or.inr h))) (hb w))
theorem goodIn_sub {big ws : List Cond} (hm : ∀ w ∈ ws, w ∈ big) (h : ws.all goodWord = true) : GoodIn big ws := fun w hw => ⟨hm w hw, good_of_word (List.all_eq_true.mp h w hw)⟩
/-! ===== END ===== -/

/-! ===== BEGIN exceptions that leave a method, and their catching by the caller (launches without stack traces) ===== -/
section VXA
/-! The laws vx_back, vx_callV, vx_callS, vx_callSW, vx_throw0, vx_throwS follow proofs of the library, with one case more: JvmDerived/Free/Laws.lean (Back.of_free), Shelf42/LK1.lean (callV, callS), Shelf/KitTraced.lean (throwNew0V, throwNewS). -/
/-- where a method has thrown q: the class by its name, the cell, what was written, the world -/
def vx_T (XC : String → State → State → Prop) (st : State) (q : Addr) (t : State) (mc ms : Nat) (free : Addr → Prop) : Prop :=
  ∃ (E : String) (ce : Cell) (L : List Loc), XC E st t ∧ t.heap[q]? = some ce ∧ ce.vm = .none ∧ st.vm.findClass E = some ce.cls ∧ st.WarmedH t.vm ∧ st.sameButNew ({ t with vm := st.vm } : State) L mc ms ∧ ∀ z ∈ L, free z.base
def vx_Q (Qc : Array Value → State → Outcome → State → Prop) (XC : String → State → State → Prop) (mc ms : Nat) (free : Addr → Prop) : Array Value → State → Outcome → State → Prop := fun a st o t =>
  (Qc a st o t ∧ ∃ L, FrameEnd st o t L mc ms ∧ ∀ q ∈ L, free q.base) ∨ ∃ q, o = .threw q ∧ vx_T XC st q t mc ms free
/-- a callee that returns or throws -/
def vx_Met (l : Launch) (y : MethodName) (ws : List Cond) (rm : Room) (Pc : Array Value → State → Prop) (Qc : Array Value → State → Outcome → State → Prop) (XC : String → State → State → Prop) (mc ms : Nat) (free : Addr → Prop) : Prop :=
  MetFree l y (headSpec ws rm) Pc (fun _ _ _ _ _ => True) (vx_Q Qc XC mc ms free)
def vx_Post (XC : String → State → State → Prop) (mc ms : Nat) (free : Addr → Prop) : Pt → Array Value → Addr → Pt → Prop := fun A a q B =>
  ∃ (g : JFrame) (mk : MethodId) (t : State) (L : List Loc) (E : String) (ce : Cell), B.U.heap = t.heap ∧ B.U.vm = t.vm ∧ XC E (A.U.calling g mk a) t ∧ t.heap[q]? = some ce ∧ ce.vm = .none ∧ A.U.vm.findClass E = some ce.cls ∧ B.locs = A.locs ++ L ∧ (∀ z ∈ L, free z.base) ∧ B.cells = A.cells + mc ∧ B.slots = A.slots + ms
def vx_Back (l : Launch) (R : Room) (p : Program) (e : Env) (below : List Frame) (s : State) (sargs : Array Value) (y : MethodName) (len W9 : Nat)
    (Pre : Pt → Array Value → Prop) (Post : Pt → Array Value → Option Value → Pt → Prop) (PostX : Pt → Array Value → Addr → Pt → Prop) : Prop :=
  ∀ (m : MethodId) (meth : Method) (c : Code) (A : Pt) (g : JFrame) (ig : Instr) (mk : MethodId) (a : Array Value),
    Stand p l e R s m sargs below meth c A.U A.locs A.cells A.slots → g.method = m → g.locals.size = c.maxLocals → decode c.code g.pc = .ok (ig, len) →
    2 * g.monitorRoom + (g.stack.map fun v => v.category).sum ≤ W9 → A.U.methodNamed? y = some mk → Pre A a →
    (∃ (v : Option Value) (B : Pt), Stand p l e R s m sargs below meth c B.U B.locs B.cells B.slots ∧ Post A a v B ∧
      Steps p.tables e below (doInvoke e (A.U.setTop g) [] mk a).1 (B.U.setTop { g with pc := g.pc + len, stack := v.toList ++ g.stack })) ∨
    (∃ (q : Addr) (B : Pt), Stand p l e R s m sargs below meth c B.U B.locs B.cells B.slots ∧ PostX A a q B ∧
      Steps p.tables e below (doInvoke e (A.U.setTop g) [] mk a).1 ((B.U.setTop g).pushFrame (.throwing q)))
section Payer
variable {l : Launch} {R : Room} {p : Program} {e : Env} {below : List Frame} {s : State} {sargs : Array Value} {y : MethodName} {len W9 : Nat}
theorem vx_back {ws : List Cond} {rm : Room} {Pc : Array Value → State → Prop} {Qc : Array Value → State → Outcome → State → Prop} {XC : String → State → State → Prop} {mc ms : Nat} {free : Addr → Prop} {bytes : ByteArray} {maxL : Nat} {ret : Option FieldType}
    (hM : vx_Met l y ws rm Pc Qc XC mc ms free) (hblind : FrameBlind Pc) (hrc : rm.cells = mc) (hrs : rm.slots = ms)
    (hframes : rm.frames + 1 ≤ R.frames) (hlocals : W9 + (maxL + 11) + rm.locals ≤ R.locals)
    (hws : ∀ w ∈ ws, ∀ a' U, s.WarmedH U.vm → w.before a' U = true) (hcode : Cond.code y bytes maxL ret ∈ ws) (hinit : ∀ a' U, s.WarmedH U.vm → (Cond.initialized y.cls).before a' U = true) :
    vx_Back l R p e below s sargs y len W9 (PreOf R mc ms Pc) (PostOf Qc mc ms free) (vx_Post XC mc ms free) := by
  intro m meth c A g ig mk a X hg hsize hdg hW hn hp
  have h1 : (headSpec ws rm).pre.before a A.U = true := atoms_intro fun w hw => hws w hw _ _ X.warmed
  have h2 : (Cond.code y bytes maxL ret).before a A.U = true := hws _ hcode _ _ X.warmed
  have h3 : (Cond.initialized y.cls).before a A.U = true := hinit _ _ X.warmed
  have h4 : A.cells + (headSpec ws rm).room.cells ≤ R.cells := by rw [show (headSpec ws rm).room.cells = mc from hrc]; exact hp.1
  have h5 : A.slots + (headSpec ws rm).room.slots ≤ R.slots := by rw [show (headSpec ws rm).room.slots = ms from hrs]; exact hp.2.1
  have hPc : Pc a (A.U.calling g mk a) := hblind _ _ _ _ hp.2.2
  obtain ⟨U, Ls, c0, s0⟩ := A
  dsimp only [Pt.U, Pt.locs, Pt.cells, Pt.slots] at h1 h2 h3 h4 h5 X hn hPc ⊢
  obtain ⟨methY, cY, hmY, hcY, -, hlY, -, -, -, -⟩ := Cond.code_spec hn h2
  obtain ⟨kY, hkY, -⟩ := className_of_methodNamed hn
  have hinitY : kY.init = .initialized := Cond.initialized_spec (findClass_of_methodNamed hn) hkY h3
  have h : At U g.method c below := by rw [hg]; exact X.here
  have hlocals9 : W9 + (maxL + 11) + (headSpec ws rm).room.locals ≤ R.locals := hlocals
  have happ : (headSpec ws rm).appliesLoose y e.platform (U.calling g mk a) = true :=
    Spec.appliesLoose_calling (g := g) h hdg hn hkY hinitY
      (X.room_calling (g := g) (R' := (headSpec ws rm).room) hsize hmY hcY hframes (by rw [hlY]; omega) h4 h5) h1
  obtain ⟨mid, hmid⟩ := h.above
  have hfr : (U.setTop g).frames = (.java g :: mid) ++ below := by rw [State.frames_setTop' g h.top, hmid]; rfl
  obtain ⟨o, s₂, hsteps, -, hend, hq⟩ := Steps.callFree hM p X.admits X.cas X.clock (acts := []) hfr happ hPc trivial
  have hq' : vx_Q Qc XC mc ms free a (U.calling g mk a) o s₂ := hq
  rw [State.frames_setTop' g h.top] at hend
  obtain ⟨g₀, hg0⟩ := Option.isSome_iff_exists.mp h.top
  obtain ⟨r, hr⟩ := State.topJava?_eq_some.mp hg0
  have hr' : (({ U with heap := s₂.heap, slotsUsed := s₂.slotsUsed } : State).setVm s₂.vm).frames = .java g₀ :: r := hr
  rcases hq' with ⟨hqc, L, hfe, hL⟩ | ⟨q, rfl, E, ce, L, hx, hce, hcv, hcl, hW₂, hsm, hL⟩
  · obtain ⟨⟨v, rfl⟩, hW₂, e2, q2, q3, q4, q5, q6⟩ := id hfe
    have e3 : s₂ = ({ (U.calling g mk a).setFrames s₂.frames with heap := s₂.heap, slotsUsed := s₂.slotsUsed } : State).setVm s₂.vm := by
      have : s₂ = ({ s₂ with vm := (U.calling g mk a).vm } : State).setVm s₂.vm := rfl
      rw [e2] at this
      exact this
    obtain ⟨c₂, i₂, len₂, hc₂, hd₂, hf₂⟩ := hend
    have hW' : U.WarmedH s₂.vm := hW₂
    have hcc : c₂ = c := by
      have h1 : s₂.code? g.method = U.code? g.method := by
        rw [State.code?_eq, State.code?_eq, hW'.alike.method?]
      exact Option.some.inj (hc₂.symm.trans (h1.trans h.code))
    subst hcc
    have hlen : len₂ = len := by rw [hdg] at hd₂; cases hd₂; rfl
    subst hlen
    have hs₂ : s₂ = (({ U with heap := s₂.heap, slotsUsed := s₂.slotsUsed } : State).setVm s₂.vm).setTop { g with pc := g.pc + len₂, stack := v.toList ++ g.stack } := by
      refine e3.trans ?_
      rw [hf₂, State.calling_eq h.top, State.setFrames_setFrames, State.setTop_of_frames _ hr', hr]
      rfl
    have hsame : U.sameButNew ({ U with heap := s₂.heap, slotsUsed := s₂.slotsUsed } : State) L mc ms := by
      refine ⟨?_, q2, q3, q4, q5, q6⟩
      obtain ⟨t, ht, -⟩ := State.frames_cons hr
      show ({ U with heap := s₂.heap, slotsUsed := s₂.slotsUsed } : State) = { U.setFrames U.frames with heap := s₂.heap, slotsUsed := s₂.slotsUsed }
      rw [State.setFrames_self ht]
    subst hg
    refine Or.inl ⟨v, ⟨(({ U with heap := s₂.heap, slotsUsed := s₂.slotsUsed } : State).setVm s₂.vm), Ls ++ L, c0 + mc, s0 + ms⟩,
      ⟨X.admits, X.cas, X.clock, X.frames, X.room, X.hears, X.method, X.code, (X.here.setHeapUsed s₂.heap s₂.slotsUsed).setVm hW'.alike, X.tail, State.WarmedH.trans X.warmed hW', X.limits, X.bytes, X.same.trans (hsame.setVm s.vm)⟩,
      ⟨g, mk, s₂, L, rfl, rfl, hqc, rfl, hL, rfl, rfl⟩, ?_⟩
    show Steps p.tables e below _ ((({ U with heap := s₂.heap, slotsUsed := s₂.slotsUsed } : State).setVm s₂.vm).setTop { g with pc := g.pc + len₂, stack := v.toList ++ g.stack })
    rw [← hs₂]
    exact hsteps
  · obtain ⟨e2, q2, q3, q4, q5, q6⟩ := id hsm
    have e3 : s₂ = ({ (U.calling g mk a).setFrames s₂.frames with heap := s₂.heap, slotsUsed := s₂.slotsUsed } : State).setVm s₂.vm := by
      have : s₂ = ({ s₂ with vm := (U.calling g mk a).vm } : State).setVm s₂.vm := rfl
      rw [e2] at this
      exact this
    have hf₂ : s₂.frames = .throwing q :: .java g :: U.frames.tail := hend
    have hW' : U.WarmedH s₂.vm := hW₂
    have hs₂ : s₂ = ((({ U with heap := s₂.heap, slotsUsed := s₂.slotsUsed } : State).setVm s₂.vm).setTop g).pushFrame (.throwing q) := by
      refine e3.trans ?_
      rw [hf₂, State.calling_eq h.top, State.setFrames_setFrames, State.pushFrame, State.frames_setTop _ hr', State.setTop_of_frames _ hr', State.setFrames_setFrames, hr]
      rfl
    have hsame : U.sameButNew ({ U with heap := s₂.heap, slotsUsed := s₂.slotsUsed } : State) L mc ms := by
      refine ⟨?_, q2, q3, q4, q5, q6⟩
      obtain ⟨t, ht, -⟩ := State.frames_cons hr
      show ({ U with heap := s₂.heap, slotsUsed := s₂.slotsUsed } : State) = { U.setFrames U.frames with heap := s₂.heap, slotsUsed := s₂.slotsUsed }
      rw [State.setFrames_self ht]
    subst hg
    refine Or.inr ⟨q, ⟨(({ U with heap := s₂.heap, slotsUsed := s₂.slotsUsed } : State).setVm s₂.vm), Ls ++ L, c0 + mc, s0 + ms⟩,
      ⟨X.admits, X.cas, X.clock, X.frames, X.room, X.hears, X.method, X.code, (X.here.setHeapUsed s₂.heap s₂.slotsUsed).setVm hW'.alike, X.tail, State.WarmedH.trans X.warmed hW', X.limits, X.bytes, X.same.trans (hsame.setVm s.vm)⟩,
      ⟨g, mk, s₂, L, E, ce, rfl, rfl, hx, hce, hcv, hcl, rfl, hL, rfl, rfl⟩, ?_⟩
    show Steps p.tables e below _ (((({ U with heap := s₂.heap, slotsUsed := s₂.slotsUsed } : State).setVm s₂.vm).setTop g).pushFrame (.throwing q))
    rw [← hs₂]
    exact hsteps
end Payer
section Calls
variable {p : Program} {l : Launch} {e : Env} {R : Room} {s : State} {m : MethodId} {args : Array Value} {below : List Frame} {meth : Method} {c : Code} {T : State} {locs : List Loc} {cells slots : Nat}
theorem vx_callV (X : Stand p l e R s m args below meth c T locs cells slots) (hexec : p.tables.exec = Jvm.exec) {own C : String} {index : Nat} {y : MethodName} {bytes : ByteArray} {maxL : Nat} {ret : Option FieldType}
    (hown : s.vm.findClass own = some m.cls) (hlink : (Cond.methodLink own index y).before args s = true) (hinst : (Cond.instanceMethod y).before args s = true) (hsel : (Cond.selects C y y).before args s = true)
    (hcode : (Cond.code y bytes maxL ret).before args s = true) (hy : y.cls ≠ "java/lang/invoke/MethodHandle" ∧ y.cls ≠ "java/lang/invoke/VarHandle")
    {W9 : Nat} {Pre : Pt → Array Value → Prop} {Post : Pt → Array Value → Option Value → Pt → Prop} {PostX : Pt → Array Value → Addr → Pt → Prop} (hK : vx_Back l R p e below s args y 3 W9 Pre Post PostX)
    {b : Addr} {cellB : Cell} (hcell : T.heap[b]? = some cellB) (hobj : cellB.vm.isStatics = false) (hcls : s.vm.findClass C = some cellB.cls)
    {g : JFrame} (hg : g.method = m) (hsize : g.locals.size = c.maxLocals) {argsL rest : List Value} (hlen : ∀ sig, parseMethodDescriptor y.desc = some sig → argsL.length = sig.parameters.length)
    (hstack : g.stack = argsL.reverse ++ .ref b :: rest) (hW : 2 * g.monitorRoom + (rest.map fun v => v.category).sum ≤ W9) (hdg : decode c.code g.pc = .ok (.invokevirtual index, 3))
    (hpre : ∀ vm₁, s.WarmedH vm₁ → Pre ⟨T.setVm vm₁, locs, cells, slots⟩ (Value.ref b :: argsL).toArray) :
    (∃ (v : Option Value) (vm₁ : Vm) (B : Pt), s.WarmedH vm₁ ∧ Stand p l e R s m args below meth c B.U B.locs B.cells B.slots ∧ Post ⟨T.setVm vm₁, locs, cells, slots⟩ (Value.ref b :: argsL).toArray v B ∧
      ∀ target, Steps p.tables e below (B.U.setTop { g with pc := g.pc + 3, stack := v.toList ++ rest }) target → Steps p.tables e below (T.setTop g) target) ∨
    (∃ (q : Addr) (vm₁ : Vm) (B : Pt), s.WarmedH vm₁ ∧ Stand p l e R s m args below meth c B.U B.locs B.cells B.slots ∧ PostX ⟨T.setVm vm₁, locs, cells, slots⟩ (Value.ref b :: argsL).toArray q B ∧
      Steps p.tables e below (T.setTop g) ((B.U.setTop { g with stack := rest }).pushFrame (.throwing q))) := by
  obtain ⟨mk, methM, hnamed, hmethM, hstM, habM⟩ := Cond.instanceMethod_spec hinst
  obtain ⟨methM', cM, hmethM', -, -, -, -, -, -, hsigM⟩ := Cond.code_spec hnamed hcode
  cases hmethM.symm.trans hmethM'
  obtain ⟨c2, r2, m2, q1, q2, q3, q4, kP, hkP, hkPi⟩ := Cond.selects_spec hsel
  cases hcls.symm.trans q1
  cases (State.methodFound?_of_named hnamed hy).symm.trans q2
  cases hnamed.symm.trans q3
  have hselP : selectMethod e.platform s.vm cellB.cls mk = .method mk := by rw [Launch.admits_selectMethod X.admits]; exact q4
  obtain ⟨vm₁, X₁, hstep₁⟩ := X.invokevirtual hexec hown hlink hnamed hmethM hstM hkP hkPi hy (a := b) (cell := cellB) hcell
    (fun z h => by rw [h] at hobj; cases hobj) hselP hmethM habM hkP hkPi (g := g) hg (argsL := argsL) (rest := rest) (hlen _ hsigM) hstack hdg
  rcases hK m meth c ⟨T.setVm vm₁, locs, cells, slots⟩ { g with stack := rest } (.invokevirtual index) mk (Value.ref b :: argsL).toArray X₁ hg hsize hdg hW (X₁.named hnamed) (hpre vm₁ X₁.warmed) with ⟨v, B, X', hpost, hsteps⟩ | ⟨q, B, X', hpost, hsteps⟩
  · exact Or.inl ⟨v, vm₁, B, X₁.warmed, X', hpost, fun target h => hstep₁ _ fun acts => by rw [doInvoke_state]; exact hsteps.trans h⟩
  · exact Or.inr ⟨q, vm₁, B, X₁.warmed, X', hpost, hstep₁ _ fun acts => by rw [doInvoke_state]; exact hsteps⟩
theorem vx_callS (X : Stand p l e R s m args below meth c T locs cells slots) (hexec : p.tables.exec = Jvm.exec) {own : String} {index : Nat} {y : MethodName} {bytes : ByteArray} {maxL : Nat} {ret : Option FieldType}
    (hown : s.vm.findClass own = some m.cls) (hlink : (Cond.methodLink own index y).before args s = true) (hstat : (Cond.static y).before args s = true) (hinit : (Cond.initialized y.cls).before args s = true)
    (hcode : (Cond.code y bytes maxL ret).before args s = true) (hy : y.cls ≠ "java/lang/invoke/MethodHandle" ∧ y.cls ≠ "java/lang/invoke/VarHandle")
    {W9 : Nat} {Pre : Pt → Array Value → Prop} {Post : Pt → Array Value → Option Value → Pt → Prop} {PostX : Pt → Array Value → Addr → Pt → Prop} (hK : vx_Back l R p e below s args y 3 W9 Pre Post PostX)
    {g : JFrame} (hg : g.method = m) (hsize : g.locals.size = c.maxLocals) {argsL rest : List Value} (hlen : ∀ sig, parseMethodDescriptor y.desc = some sig → argsL.length = sig.parameters.length)
    (hstack : g.stack = argsL.reverse ++ rest) (hW : 2 * g.monitorRoom + (rest.map fun v => v.category).sum ≤ W9) (hdg : decode c.code g.pc = .ok (.invokestatic index, 3))
    (hpre : ∀ vm₁, s.WarmedH vm₁ → Pre ⟨T.setVm vm₁, locs, cells, slots⟩ argsL.toArray) :
    (∃ (v : Option Value) (vm₁ : Vm) (B : Pt), s.WarmedH vm₁ ∧ Stand p l e R s m args below meth c B.U B.locs B.cells B.slots ∧ Post ⟨T.setVm vm₁, locs, cells, slots⟩ argsL.toArray v B ∧
      ∀ target, Steps p.tables e below (B.U.setTop { g with pc := g.pc + 3, stack := v.toList ++ rest }) target → Steps p.tables e below (T.setTop g) target) ∨
    (∃ (q : Addr) (vm₁ : Vm) (B : Pt), s.WarmedH vm₁ ∧ Stand p l e R s m args below meth c B.U B.locs B.cells B.slots ∧ PostX ⟨T.setVm vm₁, locs, cells, slots⟩ argsL.toArray q B ∧
      Steps p.tables e below (T.setTop g) ((B.U.setTop { g with stack := rest }).pushFrame (.throwing q))) := by
  obtain ⟨mk, hnamed⟩ := Cond.code_named hcode
  obtain ⟨methM, cM, hmethM, -, -, -, -, -, -, hsigM⟩ := Cond.code_spec hnamed hcode
  have hstatic : methM.isStatic = true := Cond.static_spec hnamed hmethM hstat
  obtain ⟨kP, hkP, -⟩ := className_of_methodNamed hnamed
  have hinitP : kP.init = .initialized := Cond.initialized_spec (findClass_of_methodNamed hnamed) hkP hinit
  obtain ⟨vm₁, X₁, hstep₁⟩ := X.invokestatic hexec hown hlink hnamed hmethM hstatic hkP hinitP hy (g := g) hg (argsL := argsL) (rest := rest) (hlen _ hsigM) hstack hdg
  rcases hK m meth c ⟨T.setVm vm₁, locs, cells, slots⟩ { g with stack := rest } (.invokestatic index) mk argsL.toArray X₁ hg hsize hdg hW (X₁.named hnamed) (hpre vm₁ X₁.warmed) with ⟨v, B, X', hpost, hsteps⟩ | ⟨q, B, X', hpost, hsteps⟩
  · exact Or.inl ⟨v, vm₁, B, X₁.warmed, X', hpost, fun target h => hstep₁ _ fun acts => by rw [doInvoke_state]; exact hsteps.trans h⟩
  · exact Or.inr ⟨q, vm₁, B, X₁.warmed, X', hpost, hstep₁ _ fun acts => by rw [doInvoke_state]; exact hsteps⟩
end Calls
theorem vx_cls {s : State} {T : State} {vm₁ : Vm} {E : String} {k : ClassId} (hW : s.WarmedH vm₁) (h : (T.setVm vm₁).vm.findClass E = some k) : s.vm.findClass E = some k := by
  have h1 : vm₁.findClass E = some k := h
  rw [hW.alike.findClass] at h1
  exact h1
/-- the method's frame g, with q thrown over it -/
def vx_W (p : Program) (l : Launch) (e : Env) (R : Room) (s : State) (m : MethodId) (args : Array Value) (below : List Frame) (meth : Method) (c : Code) (H : Heap) (locs : List Loc) (cells slots : Nat) (Q : State → Prop) (g : JFrame) (q : Addr) : Prop :=
  ∀ T : State, T.heap = H → Stand p l e R s m args below meth c T locs cells slots → ∃ t, Steps p.tables e below ((T.setTop g).pushFrame (.throwing q)) t ∧ Q t
def vx_Run (p : Program) (l : Launch) (e : Env) (R : Room) (s : State) (m : MethodId) (args : Array Value) (below : List Frame) (meth : Method) (c : Code) (H : Heap) (locs : List Loc) (cells slots mc ms : Nat) (g : JFrame) (rest : List Value) (Qa : State → Outcome → State → Prop) (XC : String → State → State → Prop) (free : Addr → Prop) : Prop :=
  ∀ T : State, T.heap = H → Stand p l e R s m args below meth c T locs cells slots →
    (∃ (v : Option Value) (st₀ t T' : State) (L : List Loc), st₀.heap = H ∧ Stand p l e R s m args below meth c T' (locs ++ L) (cells + mc) (slots + ms) ∧ (∀ q ∈ L, free q.base) ∧ T'.heap = t.heap ∧ T'.vm = t.vm ∧ Qa st₀ (.returned v) t ∧
      Goes p e below T g T' { g with pc := g.pc + 3, stack := v.toList ++ rest }) ∨
    (∃ (q : Addr) (st₀ t T' : State) (L : List Loc) (E : String) (ce : Cell), st₀.heap = H ∧ Stand p l e R s m args below meth c T' (locs ++ L) (cells + mc) (slots + ms) ∧ (∀ z ∈ L, free z.base) ∧ T'.heap = t.heap ∧ T'.vm = t.vm ∧ XC E st₀ t ∧ t.heap[q]? = some ce ∧ ce.vm = .none ∧ s.vm.findClass E = some ce.cls ∧
      Steps p.tables e below (T.setTop g) ((T'.setTop { g with stack := rest }).pushFrame (.throwing q)))
def vx_X {S : Type} (px : S → Prop) (B : String → S → State → Prop) (A : Nat → Prop) : String → State → State → Prop := fun E st t => ∃ u : S, px u ∧ B E u t ∧ va_F A st t
section Runs
variable {p : Program} {l : Launch} {e : Env} {R : Room} {s : State} {m : MethodId} {args : Array Value} {below : List Frame} {meth : Method} {c : Code} {H : Heap} {locs : List Loc} {cells slots : Nat}
variable {y : MethodName} {bytes cc : ByteArray} {maxL nL mc ms n index : Nat} {ret : Option FieldType} {ws : List Cond} {rm : Room} {Pc : Array Value → State → Prop} {Qc : Array Value → State → Outcome → State → Prop} {XC : String → State → State → Prop} {free : Addr → Prop} {Ts : List Cond} {own C : String} {b : Addr} {As rest : List Value} {g : JFrame}
theorem vx_callBack (cb : CallB R s args own index y bytes maxL ret ws rm mc ms n) (hM : vx_Met l y ws rm Pc Qc XC mc ms free) (hbl : FrameBlind Pc) : vx_Back l R p e below s args y 3 8 (PreOf R mc ms Pc) (PostOf Qc mc ms free) (vx_Post XC mc ms free) := by
  obtain ⟨hrc, hrs, hfr, hlo, hws, hcw, -, hini, -⟩ := cb
  exact vx_back (bytes := bytes) (maxL := maxL) (ret := ret) hM hbl hrc hrs hfr hlo hws hcw (fun a' U hW => word_at hW (Or.inl (by first | rfl | simp [Cond.onTables, Cond.keeps, Cond.steady])) hini)
theorem vx_runV (S : CallFix p m c cc nL s args Ts own) (hM : vx_Met l y ws rm Pc Qc XC mc ms free) (cw : CallW R s args own C index y bytes maxL ret ws rm mc ms n) (hp : PreV s H C b Pc As)
    (hg : g.method = m) (hn : As.length = n) (hsize : g.locals.size = nL) (hstack : g.stack = As.reverse ++ .ref b :: rest) (hW : 2 * g.monitorRoom + (rest.map fun v => v.category).sum ≤ 8) (hdg : decode cc g.pc = .ok (.invokevirtual index, 3)) (hf : cells + mc ≤ R.cells ∧ slots + ms ≤ R.slots) :
    vx_Run p l e R s m args below meth c H locs cells slots mc ms g rest (Qc (Value.ref b :: As).toArray) XC free := by
  have hK : vx_Back l R p e below s args y 3 8 (PreOf R mc ms Pc) (PostOf Qc mc ms free) (vx_Post XC mc ms free) := vx_callBack cw.1 hM hp.1
  obtain ⟨⟨-, -, -, -, -, -, hcode, -, hy, hlen, hl⟩, hin, hse⟩ := cw
  obtain ⟨hx, hb, hml, ho, -⟩ := S
  obtain ⟨-, ⟨cellB, hcB, hoB, hclB⟩, hPc⟩ := hp
  intro T hT X
  rcases vx_callV X hx (C := C) (bytes := bytes) (maxL := maxL) (ret := ret) ho hl hin hse hcode hy hK (by rw [hT]; exact hcB) hoB hclB hg (hsize.trans hml.symm) (argsL := As) (rest := rest) (fun sig h => hn.trans (hlen sig h)) hstack hW (by rw [hb]; exact hdg)
    (fun vm₁ hW₁ => ⟨hf.1, hf.2, hPc (T.setVm vm₁) hT hW₁⟩) with ⟨v, vm₁, ⟨U', l2, c2, s2⟩, hW₁, X', ⟨g', mk, t, L, e1, e2, hq, h1, hL, h2, h3⟩, st⟩ | ⟨q, vm₁, ⟨U', l2, c2, s2⟩, hW₁, X', ⟨g', mk, t, L, E, ce, e1, e2, hq, hce, hcv, hcl, h1, hL, h2, h3⟩, st⟩
  · dsimp only [Pt.U, Pt.locs, Pt.cells, Pt.slots] at X' e1 e2 h1 h2 h3 st
    subst h1; subst h2; subst h3
    exact Or.inl ⟨v, (T.setVm vm₁).calling g' mk (Value.ref b :: As).toArray, t, U', L, hT, X', hL, e1, e2, hq, st⟩
  · dsimp only [Pt.U, Pt.locs, Pt.cells, Pt.slots] at X' e1 e2 h1 h2 h3 st hcl
    subst h1; subst h2; subst h3
    exact Or.inr ⟨q, (T.setVm vm₁).calling g' mk (Value.ref b :: As).toArray, t, U', L, E, ce, hT, X', hL, e1, e2, hq, hce, hcv, vx_cls hW₁ hcl, st⟩
theorem vx_runS (S : CallFix p m c cc nL s args Ts own) (hM : vx_Met l y ws rm Pc Qc XC mc ms free) (cw : CallB R s args own index y bytes maxL ret ws rm mc ms n ∧ (Cond.static y).before args s = true) (hp : PreS s H Pc As)
    (hg : g.method = m) (hn : As.length = n) (hsize : g.locals.size = nL) (hstack : g.stack = As.reverse ++ rest) (hW : 2 * g.monitorRoom + (rest.map fun v => v.category).sum ≤ 8) (hdg : decode cc g.pc = .ok (.invokestatic index, 3)) (hf : cells + mc ≤ R.cells ∧ slots + ms ≤ R.slots) :
    vx_Run p l e R s m args below meth c H locs cells slots mc ms g rest (Qc As.toArray) XC free := by
  have hK : vx_Back l R p e below s args y 3 8 (PreOf R mc ms Pc) (PostOf Qc mc ms free) (vx_Post XC mc ms free) := vx_callBack cw.1 hM hp.1
  obtain ⟨⟨-, -, -, -, -, -, hcode, hini, hy, hlen, hl⟩, hstt⟩ := cw
  obtain ⟨hx, hb, hml, ho, -⟩ := S
  intro T hT X
  rcases vx_callS X hx (bytes := bytes) (maxL := maxL) (ret := ret) ho hl hstt hini hcode hy hK hg (hsize.trans hml.symm) (argsL := As) (rest := rest) (fun sig h => hn.trans (hlen sig h)) hstack hW (by rw [hb]; exact hdg)
    (fun vm₁ hW₁ => ⟨hf.1, hf.2, hp.2 (T.setVm vm₁) hT hW₁⟩) with ⟨v, vm₁, ⟨U', l2, c2, s2⟩, hW₁, X', ⟨g', mk, t, L, e1, e2, hq, h1, hL, h2, h3⟩, st⟩ | ⟨q, vm₁, ⟨U', l2, c2, s2⟩, hW₁, X', ⟨g', mk, t, L, E, ce, e1, e2, hq, hce, hcv, hcl, h1, hL, h2, h3⟩, st⟩
  · dsimp only [Pt.U, Pt.locs, Pt.cells, Pt.slots] at X' e1 e2 h1 h2 h3 st
    subst h1; subst h2; subst h3
    exact Or.inl ⟨v, (T.setVm vm₁).calling g' mk As.toArray, t, U', L, hT, X', hL, e1, e2, hq, st⟩
  · dsimp only [Pt.U, Pt.locs, Pt.cells, Pt.slots] at X' e1 e2 h1 h2 h3 st hcl
    subst h1; subst h2; subst h3
    exact Or.inr ⟨q, (T.setVm vm₁).calling g' mk As.toArray, t, U', L, E, ce, hT, X', hL, e1, e2, hq, hce, hcv, vx_cls hW₁ hcl, st⟩
end Runs
section Rows
variable {p : Program} {l : Launch} {e : Env} {R : Room} {s : State} {m : MethodId} {args : Array Value} {below : List Frame} {meth : Method} {c : Code} {H : Heap} {locs : List Loc} {cells slots : Nat} {Q : State → Prop}
variable {mc ms : Nat} {free : Addr → Prop} {A0 A1 : Nat → Prop} {H0 : Heap} {a : Array Value} {pc : Nat} {ls : Array Slot} {st0 rest : List Value}
theorem vx_keep {st₀ t T' : State} {L : List Loc} (h0 : st₀.heap = H) (e1 : T'.heap = t.heap) (hS : va_S A0 H0 H locs) (hA : ∀ q, q < H.size → A1 q → A0 q) (hf : ∀ q, free q → A0 q) (hL : ∀ q ∈ L, free q.base) (hF : va_F A1 st₀ t) :
    H.size ≤ T'.heap.size ∧ (∀ q : Nat, q < H.size → ¬ A1 q → T'.heap[q]? = H[q]?) ∧ va_S A0 H0 T'.heap (locs ++ L) := by
  obtain ⟨hz, hk⟩ := hF
  rw [h0] at hz hk
  exact ⟨by rw [e1]; exact hz, fun q h1 h2 => by rw [e1]; exact hk q h1 h2,
    ⟨Nat.le_trans hS.1 (by rw [e1]; exact hz), fun q h1 h2 => by rw [e1, hk q (Nat.lt_of_lt_of_le h1 hS.1) (fun z => h2 (hA q (Nat.lt_of_lt_of_le h1 hS.1) z))]; exact hS.2.1 q h1 h2, fun q hq => by
      rcases List.mem_append.mp hq with h | h
      · exact hS.2.2 q h
      · exact hf _ (hL q h)⟩⟩
theorem vx_calli {S SX : Type} {post : Int32 → S → Prop} {px : SX → Prop} {B : S → State → Prop} {BX : String → SX → State → Prop} {AX : Nat → Prop} (hr : vx_Run p l e R s m args below meth c H locs cells slots mc ms (F0 m pc ls st0) rest (va_Qi post B A1 a) (vx_X px BX AX) free) (hS : va_S A0 H0 H locs) (hA : ∀ q, q < H.size → A1 q → A0 q) (hf : ∀ q, free q → A0 q) (hAX : ∀ q, q < H.size → AX q → A0 q)
    (kx : ∀ (E : String) (ce : Cell) (q9 : Addr) (u : SX) (t : State) (H1 : Heap) (locs1 : List Loc), t.heap = H1 → s.vm.Alike t.vm → px u → BX E u t → H.size ≤ H1.size → (∀ q : Nat, q < H.size → ¬ AX q → H1[q]? = H[q]?) → va_S A0 H0 H1 locs1 → H1[q9]? = some ce → ce.vm = .none → s.vm.findClass E = some ce.cls → vx_W p l e R s m args below meth c H1 locs1 (cells + mc) (slots + ms) Q (F0 m pc ls rest) q9)
    (kk : ∀ (r : Int32) (u : S) (t : State) (H1 : Heap) (locs1 : List Loc), t.heap = H1 → s.vm.Alike t.vm → post r u → B u t → H.size ≤ H1.size → (∀ q : Nat, q < H.size → ¬ A1 q → H1[q]? = H[q]?) → va_S A0 H0 H1 locs1 → W p l e R s m args below meth c H1 locs1 (cells + mc) (slots + ms) Q (F0 m (pc + 3) ls (.int r :: rest))) : W p l e R s m args below meth c H locs cells slots Q (F0 m pc ls st0) := by
  intro T hT X
  rcases hr T hT X with ⟨v, st₀, t, T', L, h0, X', hL, e1, e2, ⟨⟨r, u, hv, hp, hb⟩, hF⟩, st⟩ | ⟨q, st₀, t, T', L, E, ce, h0, X', hL, e1, e2, ⟨u, hp, hb, hF⟩, hce, hcv, hcl, st⟩
  · cases hv
    obtain ⟨k1, k2, k3⟩ := vx_keep h0 e1 hS hA hf hL hF
    obtain ⟨t2, a1, b1⟩ := kk r u t T'.heap (locs ++ L) e1.symm (by rw [← e2]; exact X'.warmed.alike) hp hb k1 k2 k3 T' rfl X'
    exact ⟨t2, st t2 a1, b1⟩
  · obtain ⟨k1, k2, k3⟩ := vx_keep h0 e1 hS hAX hf hL hF
    obtain ⟨t2, a1, b1⟩ := kx E ce q u t T'.heap (locs ++ L) e1.symm (by rw [← e2]; exact X'.warmed.alike) hp hb k1 k2 k3 (by rw [e1]; exact hce) hcv hcl T' rfl X'
    exact ⟨t2, st.trans a1, b1⟩
theorem vx_calll {S SX : Type} {post : Int64 → S → Prop} {px : SX → Prop} {B : S → State → Prop} {BX : String → SX → State → Prop} {AX : Nat → Prop} (hr : vx_Run p l e R s m args below meth c H locs cells slots mc ms (F0 m pc ls st0) rest (va_Ql post B A1 a) (vx_X px BX AX) free) (hS : va_S A0 H0 H locs) (hA : ∀ q, q < H.size → A1 q → A0 q) (hf : ∀ q, free q → A0 q) (hAX : ∀ q, q < H.size → AX q → A0 q)
    (kx : ∀ (E : String) (ce : Cell) (q9 : Addr) (u : SX) (t : State) (H1 : Heap) (locs1 : List Loc), t.heap = H1 → s.vm.Alike t.vm → px u → BX E u t → H.size ≤ H1.size → (∀ q : Nat, q < H.size → ¬ AX q → H1[q]? = H[q]?) → va_S A0 H0 H1 locs1 → H1[q9]? = some ce → ce.vm = .none → s.vm.findClass E = some ce.cls → vx_W p l e R s m args below meth c H1 locs1 (cells + mc) (slots + ms) Q (F0 m pc ls rest) q9)
    (kk : ∀ (r : Int64) (u : S) (t : State) (H1 : Heap) (locs1 : List Loc), t.heap = H1 → s.vm.Alike t.vm → post r u → B u t → H.size ≤ H1.size → (∀ q : Nat, q < H.size → ¬ A1 q → H1[q]? = H[q]?) → va_S A0 H0 H1 locs1 → W p l e R s m args below meth c H1 locs1 (cells + mc) (slots + ms) Q (F0 m (pc + 3) ls (.long r :: rest))) : W p l e R s m args below meth c H locs cells slots Q (F0 m pc ls st0) := by
  intro T hT X
  rcases hr T hT X with ⟨v, st₀, t, T', L, h0, X', hL, e1, e2, ⟨⟨r, u, hv, hp, hb⟩, hF⟩, st⟩ | ⟨q, st₀, t, T', L, E, ce, h0, X', hL, e1, e2, ⟨u, hp, hb, hF⟩, hce, hcv, hcl, st⟩
  · cases hv
    obtain ⟨k1, k2, k3⟩ := vx_keep h0 e1 hS hA hf hL hF
    obtain ⟨t2, a1, b1⟩ := kk r u t T'.heap (locs ++ L) e1.symm (by rw [← e2]; exact X'.warmed.alike) hp hb k1 k2 k3 T' rfl X'
    exact ⟨t2, st t2 a1, b1⟩
  · obtain ⟨k1, k2, k3⟩ := vx_keep h0 e1 hS hAX hf hL hF
    obtain ⟨t2, a1, b1⟩ := kx E ce q u t T'.heap (locs ++ L) e1.symm (by rw [← e2]; exact X'.warmed.alike) hp hb k1 k2 k3 (by rw [e1]; exact hce) hcv hcl T' rfl X'
    exact ⟨t2, st.trans a1, b1⟩
theorem vx_callf {S SX : Type} {post : UInt32 → S → Prop} {px : SX → Prop} {B : S → State → Prop} {BX : String → SX → State → Prop} {AX : Nat → Prop} (hr : vx_Run p l e R s m args below meth c H locs cells slots mc ms (F0 m pc ls st0) rest (va_Qf post B A1 a) (vx_X px BX AX) free) (hS : va_S A0 H0 H locs) (hA : ∀ q, q < H.size → A1 q → A0 q) (hf : ∀ q, free q → A0 q) (hAX : ∀ q, q < H.size → AX q → A0 q)
    (kx : ∀ (E : String) (ce : Cell) (q9 : Addr) (u : SX) (t : State) (H1 : Heap) (locs1 : List Loc), t.heap = H1 → s.vm.Alike t.vm → px u → BX E u t → H.size ≤ H1.size → (∀ q : Nat, q < H.size → ¬ AX q → H1[q]? = H[q]?) → va_S A0 H0 H1 locs1 → H1[q9]? = some ce → ce.vm = .none → s.vm.findClass E = some ce.cls → vx_W p l e R s m args below meth c H1 locs1 (cells + mc) (slots + ms) Q (F0 m pc ls rest) q9)
    (kk : ∀ (r : UInt32) (u : S) (t : State) (H1 : Heap) (locs1 : List Loc), t.heap = H1 → s.vm.Alike t.vm → post r u → B u t → H.size ≤ H1.size → (∀ q : Nat, q < H.size → ¬ A1 q → H1[q]? = H[q]?) → va_S A0 H0 H1 locs1 → W p l e R s m args below meth c H1 locs1 (cells + mc) (slots + ms) Q (F0 m (pc + 3) ls (.float r :: rest))) : W p l e R s m args below meth c H locs cells slots Q (F0 m pc ls st0) := by
  intro T hT X
  rcases hr T hT X with ⟨v, st₀, t, T', L, h0, X', hL, e1, e2, ⟨⟨r, u, hv, hp, hb⟩, hF⟩, st⟩ | ⟨q, st₀, t, T', L, E, ce, h0, X', hL, e1, e2, ⟨u, hp, hb, hF⟩, hce, hcv, hcl, st⟩
  · cases hv
    obtain ⟨k1, k2, k3⟩ := vx_keep h0 e1 hS hA hf hL hF
    obtain ⟨t2, a1, b1⟩ := kk r u t T'.heap (locs ++ L) e1.symm (by rw [← e2]; exact X'.warmed.alike) hp hb k1 k2 k3 T' rfl X'
    exact ⟨t2, st t2 a1, b1⟩
  · obtain ⟨k1, k2, k3⟩ := vx_keep h0 e1 hS hAX hf hL hF
    obtain ⟨t2, a1, b1⟩ := kx E ce q u t T'.heap (locs ++ L) e1.symm (by rw [← e2]; exact X'.warmed.alike) hp hb k1 k2 k3 (by rw [e1]; exact hce) hcv hcl T' rfl X'
    exact ⟨t2, st.trans a1, b1⟩
theorem vx_calld {S SX : Type} {post : UInt64 → S → Prop} {px : SX → Prop} {B : S → State → Prop} {BX : String → SX → State → Prop} {AX : Nat → Prop} (hr : vx_Run p l e R s m args below meth c H locs cells slots mc ms (F0 m pc ls st0) rest (va_Qd post B A1 a) (vx_X px BX AX) free) (hS : va_S A0 H0 H locs) (hA : ∀ q, q < H.size → A1 q → A0 q) (hf : ∀ q, free q → A0 q) (hAX : ∀ q, q < H.size → AX q → A0 q)
    (kx : ∀ (E : String) (ce : Cell) (q9 : Addr) (u : SX) (t : State) (H1 : Heap) (locs1 : List Loc), t.heap = H1 → s.vm.Alike t.vm → px u → BX E u t → H.size ≤ H1.size → (∀ q : Nat, q < H.size → ¬ AX q → H1[q]? = H[q]?) → va_S A0 H0 H1 locs1 → H1[q9]? = some ce → ce.vm = .none → s.vm.findClass E = some ce.cls → vx_W p l e R s m args below meth c H1 locs1 (cells + mc) (slots + ms) Q (F0 m pc ls rest) q9)
    (kk : ∀ (r : UInt64) (u : S) (t : State) (H1 : Heap) (locs1 : List Loc), t.heap = H1 → s.vm.Alike t.vm → post r u → B u t → H.size ≤ H1.size → (∀ q : Nat, q < H.size → ¬ A1 q → H1[q]? = H[q]?) → va_S A0 H0 H1 locs1 → W p l e R s m args below meth c H1 locs1 (cells + mc) (slots + ms) Q (F0 m (pc + 3) ls (.double r :: rest))) : W p l e R s m args below meth c H locs cells slots Q (F0 m pc ls st0) := by
  intro T hT X
  rcases hr T hT X with ⟨v, st₀, t, T', L, h0, X', hL, e1, e2, ⟨⟨r, u, hv, hp, hb⟩, hF⟩, st⟩ | ⟨q, st₀, t, T', L, E, ce, h0, X', hL, e1, e2, ⟨u, hp, hb, hF⟩, hce, hcv, hcl, st⟩
  · cases hv
    obtain ⟨k1, k2, k3⟩ := vx_keep h0 e1 hS hA hf hL hF
    obtain ⟨t2, a1, b1⟩ := kk r u t T'.heap (locs ++ L) e1.symm (by rw [← e2]; exact X'.warmed.alike) hp hb k1 k2 k3 T' rfl X'
    exact ⟨t2, st t2 a1, b1⟩
  · obtain ⟨k1, k2, k3⟩ := vx_keep h0 e1 hS hAX hf hL hF
    obtain ⟨t2, a1, b1⟩ := kx E ce q u t T'.heap (locs ++ L) e1.symm (by rw [← e2]; exact X'.warmed.alike) hp hb k1 k2 k3 (by rw [e1]; exact hce) hcv hcl T' rfl X'
    exact ⟨t2, st.trans a1, b1⟩
theorem vx_callv {S SX : Type} {post : S → Prop} {px : SX → Prop} {B : S → State → Prop} {BX : String → SX → State → Prop} {AX : Nat → Prop} (hr : vx_Run p l e R s m args below meth c H locs cells slots mc ms (F0 m pc ls st0) rest (va_Qv post B A1 a) (vx_X px BX AX) free) (hS : va_S A0 H0 H locs) (hA : ∀ q, q < H.size → A1 q → A0 q) (hf : ∀ q, free q → A0 q) (hAX : ∀ q, q < H.size → AX q → A0 q)
    (kx : ∀ (E : String) (ce : Cell) (q9 : Addr) (u : SX) (t : State) (H1 : Heap) (locs1 : List Loc), t.heap = H1 → s.vm.Alike t.vm → px u → BX E u t → H.size ≤ H1.size → (∀ q : Nat, q < H.size → ¬ AX q → H1[q]? = H[q]?) → va_S A0 H0 H1 locs1 → H1[q9]? = some ce → ce.vm = .none → s.vm.findClass E = some ce.cls → vx_W p l e R s m args below meth c H1 locs1 (cells + mc) (slots + ms) Q (F0 m pc ls rest) q9)
    (kk : ∀ (u : S) (t : State) (H1 : Heap) (locs1 : List Loc), t.heap = H1 → s.vm.Alike t.vm → post u → B u t → H.size ≤ H1.size → (∀ q : Nat, q < H.size → ¬ A1 q → H1[q]? = H[q]?) → va_S A0 H0 H1 locs1 → W p l e R s m args below meth c H1 locs1 (cells + mc) (slots + ms) Q (F0 m (pc + 3) ls (rest))) : W p l e R s m args below meth c H locs cells slots Q (F0 m pc ls st0) := by
  intro T hT X
  rcases hr T hT X with ⟨v, st₀, t, T', L, h0, X', hL, e1, e2, ⟨⟨u, hv, hp, hb⟩, hF⟩, st⟩ | ⟨q, st₀, t, T', L, E, ce, h0, X', hL, e1, e2, ⟨u, hp, hb, hF⟩, hce, hcv, hcl, st⟩
  · cases hv
    obtain ⟨k1, k2, k3⟩ := vx_keep h0 e1 hS hA hf hL hF
    obtain ⟨t2, a1, b1⟩ := kk u t T'.heap (locs ++ L) e1.symm (by rw [← e2]; exact X'.warmed.alike) hp hb k1 k2 k3 T' rfl X'
    exact ⟨t2, st t2 a1, b1⟩
  · obtain ⟨k1, k2, k3⟩ := vx_keep h0 e1 hS hAX hf hL hF
    obtain ⟨t2, a1, b1⟩ := kx E ce q u t T'.heap (locs ++ L) e1.symm (by rw [← e2]; exact X'.warmed.alike) hp hb k1 k2 k3 (by rw [e1]; exact hce) hcv hcl T' rfl X'
    exact ⟨t2, st.trans a1, b1⟩
/-- caught by the row x of this method's table; the rows ahead don't take it -/
theorem vx_catch {own name : String} {E : String} {ce : Cell} {q : Addr} (hown : s.vm.findClass own = some m.cls) (pre : List ExceptionTableEntry) (x : ExceptionTableEntry) (suf : List ExceptionTableEntry) (hsplit : c.exceptionTable.toList = pre ++ x :: suf)
    (hpass : ∀ z ∈ pre, covers z pc = false ∨ (z.catchType ≠ 0 ∧ ∃ nm : String, (Cond.classLink own z.catchType nm).before args s = true ∧ va_Nc E nm s)) (hx : covers x pc = true) (h0 : x.catchType ≠ 0)
    (hlink : (Cond.classLink own x.catchType name).before args s = true) (hcast : (Cond.castable E name).before args s = true) (hcell : H[q]? = some ce) (hv : ce.vm = .none) (hcl : s.vm.findClass E = some ce.cls)
    (kk : W p l e R s m args below meth c H locs cells slots Q (F0 m x.handlerPc ls [.ref q])) : vx_W p l e R s m args below meth c H locs cells slots Q (F0 m pc ls rest) q := by
  intro T hT X
  have hpl : e.platform.magicAccessors = ({} : Platform).magicAccessors := by rw [X.admits.platform]
  obtain ⟨c3, c4, hc3, hc4, hasg⟩ := Cond.castable_spec hcast
  cases Option.some.inj (hc3.symm.trans hcl)
  obtain ⟨c5, hc5, hcl5⟩ := Cond.classLink_spec hown hlink e.platform hpl
  cases Option.some.inj (hc4.symm.trans hc5)
  obtain ⟨vm', X', st⟩ := X.thenCaughtThrough q (g := F0 m pc ls rest) rfl (Steps.refl _) (by rw [hT]; exact hcell) (by rw [hv]; rfl) (by obtain ⟨k9, h9, -⟩ := Vm.findClass_spec hcl; exact ⟨k9, h9⟩) pre x suf hsplit
    (fun z hz => by
      rcases hpass z hz with h | ⟨hz0, nm, hl1, hn1⟩
      · exact Or.inl h
      · obtain ⟨c6, hc6, hcl6⟩ := Cond.classLink_spec hown hl1 e.platform hpl
        obtain ⟨a8, b8, h1, h2, h3⟩ := hn1
        cases Option.some.inj (h1.symm.trans hcl)
        cases Option.some.inj (h2.symm.trans hc6)
        exact Or.inr ⟨hz0, _, hcl6, h3⟩) hx (Or.inr ⟨h0, c4, hcl5, hasg⟩)
  obtain ⟨t, a1, b1⟩ := kk (T.setVm vm') hT X'
  exact ⟨t, st.trans a1, b1⟩
end Rows
section Ends
variable {p : Program} {l : Launch} {e : Env} {R : Room} {s : State} {m : MethodId} {args : Array Value} {below : List Frame} {meth : Method} {c : Code} {H : Heap} {locs : List Loc} {cells slots : Nat} {Q : State → Prop}
variable {mc ms : Nat} {free : Addr → Prop} {A0 A1 : Nat → Prop} {H0 : Heap} {a : Array Value} {ls : Array Slot} {st0 rest : List Value}
variable {Qc : Array Value → State → Outcome → State → Prop} {XC : String → State → State → Prop}
/-- what a body that may throw owes at its end -/
def vx_MQ (below : List Frame) (Qc : Array Value → State → Outcome → State → Prop) (XC : String → State → State → Prop) (a : Array Value) (s : State) (mc ms : Nat) (free : Addr → Prop) : State → Prop := fun t =>
  ∃ o, t.status = .running ∧ Ended t below o ∧ vx_Q Qc XC mc ms free a s o t
theorem vx_ret {g : JFrame} {mc ms : Nat} (k : W p l e R s m args below meth c H locs cells slots (MQ below Qc args s mc ms free) g) : W p l e R s m args below meth c H locs cells slots (vx_MQ below Qc XC args s mc ms free) g := by
  intro T hT X
  obtain ⟨t, a1, o, b1, b2, b3, b4⟩ := k T hT X
  exact ⟨t, a1, o, b1, b2, Or.inl ⟨b3, b4⟩⟩
/-- not caught here: it goes on to the caller -/
theorem vx_widen {g : JFrame} {q : Addr} {k n : Nat} (h1 : cells ≤ k) (h2 : slots ≤ n) (kk : vx_W p l e R s m args below meth c H locs k n Q g q) : vx_W p l e R s m args below meth c H locs cells slots Q g q := fun T hT X => kk T hT (stand_widen X h1 h2)
theorem vx_out {pc : Nat} {E : String} {ce : Cell} {q : Addr} {mc ms : Nat} (hout : ∀ x ∈ c.exceptionTable.toList, covers x pc = false) (hlocks : meth.locks = false) (hcell : H[q]? = some ce) (hv : ce.vm = .none) (hcl : s.vm.findClass E = some ce.cls)
    (hx : ∀ t : State, t.heap = H → s.vm.Alike t.vm → XC E s t) (hf : ∀ z ∈ locs, free z.base) (hc : cells ≤ mc) (hs : slots ≤ ms) :
    vx_W p l e R s m args below meth c H locs cells slots (vx_MQ below Qc XC args s mc ms free) (F0 m pc ls rest) q := by
  intro T hT X
  obtain ⟨st1, hrun, hend, hW, hsm⟩ := X.leaveThrown q (g := F0 m pc ls rest) rfl rfl rfl hout hlocks
  have hcell9 : (T.setFrames (.throwing q :: below)).heap[q]? = some ce := by
    show T.heap[q]? = some ce
    rw [hT]; exact hcell
  exact ⟨_, st1, .threw q, hrun, hend, Or.inr ⟨q, rfl, E, ce, locs, hx _ hT hW.alike, hcell9, hv, hcl, hW, hsm.mono hc hs, hf⟩⟩
theorem vx_frame {U : State} {k n : Nat} (h : s.sameButNew ({ U with vm := s.vm } : State) locs k n) : s.heap.size ≤ U.heap.size ∧ ∀ q : Nat, q < s.heap.size → (∀ z ∈ locs, z.base ≠ q) → U.heap[q]? = s.heap[q]? := by
  obtain ⟨-, h2, -, -, -, h6⟩ := h
  refine ⟨h2, fun q hq hz => ?_⟩
  obtain ⟨c9, e1, e2, e3, e4⟩ := h6 q _ (Array.getElem?_eq_getElem hq)
  have hs : c9.slots = (s.heap[q]).slots := Array.ext_getElem? fun i => e4 i fun hm => hz _ hm rfl
  have h9 : c9 = s.heap[q] := by
    rw [hs] at e2
    exact e2
  have e5 : U.heap[q]? = some c9 := e1
  rw [e5, h9, Array.getElem?_eq_getElem hq]
/-- the words of a throw but the four that speak of the heap -/
def vx_no (w : Cond) : Bool := decide (w ≠ .isRef (.static Bundle.tN "UNASSIGNED_STACK" Bundle.steD)) && decide (w ≠ .isRef (.static Bundle.tN "SUPPRESSED_SENTINEL" Bundle.listD)) && decide (w ≠ .laysStatic Bundle.tN "UNASSIGNED_STACK" Bundle.steD) && decide (w ≠ .laysStatic Bundle.tN "SUPPRESSED_SENTINEL" Bundle.listD)
def vx_at0 (own : String) (ic : Nat) (X : String) (names : List String) : List Cond := (Bundle.ownAtoms0 own ic X names).filter vx_no
def vx_atS (own : String) (ic : Nat) (X : String) (names : List String) : List Cond := (Bundle.ownAtoms own ic X names).filter vx_no
/-- a word that the tables alone decide, or a good one -/
def vx_ot (w : Cond) : Bool := w.onTables || goodWord w
theorem vx_ot_at {args a' : Array Value} {s U : State} {w : Cond} (hW : s.WarmedH U.vm) (hvm : s.vm = U.vm) (hg : vx_ot w = true) (h : w.before args s = true) : w.before a' U = true := by
  simp only [vx_ot, Bool.or_eq_true] at hg
  rcases hg with hg | hg
  · exact va_tabs hg hvm h
  · exact word_at hW (good_of_word hg) h
/-- a list's words: the good ones out of the method's own list, the others by premises of their own -/
theorem vx_hat {args : Array Value} {s : State} {L B : List Cond} (h1 : ∀ w ∈ L.filter goodWord, w.before args s = true) (h2 : ∀ w ∈ L.filter (fun w => !goodWord w), w ∈ B) (h3 : ∀ w ∈ B, w.before args s = true) : ∀ w ∈ L, w.before args s = true := by
  intro w hw
  by_cases g : goodWord w = true
  · exact h1 w (List.mem_filter.mpr ⟨hw, g⟩)
  · refine h3 w (h2 w (List.mem_filter.mpr ⟨hw, ?_⟩))
    show (!goodWord w) = true
    cases hgw : goodWord w
    · rfl
    · exact absurd hgw g
theorem vx_c {args : Array Value} {s : State} {w : Cond} {B : List Cond} (h : w.before args s = true) (t : ∀ w ∈ B, w.before args s = true) : ∀ w' ∈ w :: B, w'.before args s = true := fun w' h' => (List.mem_cons.mp h').elim (fun e => by rw [e]; exact h) (t w')
theorem vx_n {args : Array Value} {s : State} : ∀ w ∈ ([] : List Cond), w.before args s = true := fun _ h => nomatch h
theorem vx_own {args : Array Value} {s : State} {L : List Cond} (h1 : ∀ w ∈ L.filter vx_no, w.before args s = true)
    (hU : (Cond.isRef (.static Bundle.tN "UNASSIGNED_STACK" Bundle.steD)).before args s = true) (hN : (Cond.isRef (.static Bundle.tN "SUPPRESSED_SENTINEL" Bundle.listD)).before args s = true)
    (lU : (Cond.laysStatic Bundle.tN "UNASSIGNED_STACK" Bundle.steD).before args s = true) (lN : (Cond.laysStatic Bundle.tN "SUPPRESSED_SENTINEL" Bundle.listD).before args s = true) : ∀ w ∈ L, w.before args s = true := by
  intro w hw
  by_cases e1 : w = .isRef (.static Bundle.tN "UNASSIGNED_STACK" Bundle.steD)
  · rw [e1]; exact hU
  · by_cases e2 : w = .isRef (.static Bundle.tN "SUPPRESSED_SENTINEL" Bundle.listD)
    · rw [e2]; exact hN
    · by_cases e3 : w = .laysStatic Bundle.tN "UNASSIGNED_STACK" Bundle.steD
      · rw [e3]; exact lU
      · by_cases e4 : w = .laysStatic Bundle.tN "SUPPRESSED_SENTINEL" Bundle.listD
        · rw [e4]; exact lN
        · exact h1 w (List.mem_filter.mpr ⟨hw, by unfold vx_no; rw [decide_eq_true e1, decide_eq_true e2, decide_eq_true e3, decide_eq_true e4]; rfl⟩)
/-- where a static field lies, its class's statics cell in H -/
def vx_L (C n d : String) (A : Nat → Prop) (U : State) (H : Heap) : Prop := ∃ (c : ClassId) (k : Class) (i : Nat) (f : Field) (a : Nat) (cell : Cell), U.vm.findClass C = some c ∧ U.fieldFound? C n d = some (c, k, i, f) ∧ f.isStatic = true ∧ k.statics = some a ∧ H[a]? = some cell ∧ cell.vm.isStatics = true ∧ cell.cls = c ∧ f.slot < cell.slots.size ∧ k.staticTypes[f.slot]? = some f.type ∧ ¬ A a
theorem vx_L.moved {C n d : String} {A : Nat → Prop} {u U : State} {H : Heap} (hvm : u.vm.Alike U.vm) (h : vx_L C n d A u H) : vx_L C n d A U H := by
  obtain ⟨c, k, i, f, a, cell, h1, h2, h3, h4, h5, h6, h7, h8, h9, h10⟩ := h
  obtain ⟨k', hi', he⟩ := State.fieldFound?_setVm hvm h2
  exact ⟨c, k', i, f, a, cell, by rw [hvm.findClass]; exact h1, hi', h3, by rw [he]; exact h4, h5, h6, h7, h8, by rw [he]; exact h9, h10⟩
theorem vx_L.kept {C n d : String} {A : Nat → Prop} {U : State} {H H1 : Heap} (h : vx_L C n d A U H) (hq : ∀ a : Nat, a < H.size → ¬ A a → H1[a]? = H[a]?) : vx_L C n d A U H1 := by
  obtain ⟨c, k, i, f, a, cell, h1, h2, h3, h4, h5, h6, h7, h8, h9, h10⟩ := h
  exact ⟨c, k, i, f, a, cell, h1, h2, h3, h4, by rw [hq a (Array.getElem?_eq_some_iff.mp h5).1 h10]; exact h5, h6, h7, h8, h9, h10⟩
theorem vx_L.narrow {C n d : String} {A B : Nat → Prop} {U : State} {H : Heap} (h : vx_L C n d A U H) (hAB : ∀ q, B q → A q) : vx_L C n d B U H := by
  obtain ⟨c, k, i, f, a, cell, h1, h2, h3, h4, h5, h6, h7, h8, h9, h10⟩ := h
  exact ⟨c, k, i, f, a, cell, h1, h2, h3, h4, h5, h6, h7, h8, h9, fun z => h10 (hAB _ z)⟩
theorem vx_L.word {C n d : String} {A : Nat → Prop} {s : State} {args : Array Value} (h : vx_L C n d A s s.heap) : (Cond.laysStatic C n d).before args s = true := by
  obtain ⟨c, k, i, f, a, cell, h1, h2, h3, h4, h5, h6, h7, h8, h9, -⟩ := h
  show (Cond.laysStatic C n d).holds args s none s [] = true
  exact Cond.laysStatic_of h1 h2 h3 h4 h5 h6 h7 h8 h9
/-- .. and what it holds: null or some reference -/
def vx_Zq (C n d : String) (A : Nat → Prop) (U : State) (H : Heap) : Prop := va_Zq C n d A U H ∧ vx_L C n d A U H
theorem vx_Zq.moved {C n d : String} {A : Nat → Prop} {u U : State} {H : Heap} (hvm : u.vm.Alike U.vm) (h : vx_Zq C n d A u H) : vx_Zq C n d A U H := ⟨va_Zq.moved hvm h.1, vx_L.moved hvm h.2⟩
theorem vx_Zq.kept {C n d : String} {A : Nat → Prop} {U : State} {H H1 : Heap} (h : vx_Zq C n d A U H) (hq : ∀ a : Nat, a < H.size → ¬ A a → H1[a]? = H[a]?) : vx_Zq C n d A U H1 := ⟨va_Zq.kept h.1 hq, vx_L.kept h.2 hq⟩
theorem vx_Zq.narrow {C n d : String} {A B : Nat → Prop} {U : State} {H : Heap} (h : vx_Zq C n d A U H) (hAB : ∀ q, B q → A q) : vx_Zq C n d B U H := ⟨va_Zq.narrow h.1 hAB, vx_L.narrow h.2 hAB⟩
theorem vx_Zqof {args : Array Value} {s : State} {C n d : String} {A : Nat → Prop} (hl : (Cond.laysStatic C n d).before args s = true) (hini : (Cond.initialized C).before args s = true) (h : (Cond.isRef (.static C n d)).before args s = true) (hA : ∀ a : Nat, a < s.heap.size → ¬ A a) : vx_Zq C n d A s s.heap := by
  refine ⟨va_Zqof hl hini h hA, ?_⟩
  obtain ⟨c, k, i, f, a, cell, h1, h2, h3, h4, h5, h6, h7, h8, h9⟩ := Cond.laysStatic_spec hl
  exact ⟨c, k, i, f, a, cell, h1, h2, h3, h4, h5, h6, h7, h8, h9, hA a (Array.getElem?_eq_some_iff.mp h5).1⟩
theorem vx_isRef {C n d : String} {v : Value} {A : Nat → Prop} {s : State} {args : Array Value} (h : va_Z C n d v A s s.heap) (hv : v.isRef = true) : (Cond.isRef (.static C n d)).before args s = true := by
  obtain ⟨cf, kf, fi, f, a, cell, h1, h2, h3, h4, h5, h6, h7, -⟩ := h
  have he : (Term.static C n d).eval args s none [] s = some v := by
    simp [Term.eval, State.fieldNamed?, h1, h2, h4, h5, h6, h7]
  simp only [Cond.before, Cond.holds, Cond.value, he]
  cases v <;> simp_all [Value.isRef]
theorem vx_isRefq {C n d : String} {A : Nat → Prop} {s : State} {args : Array Value} (h : va_Zq C n d A s s.heap) : (Cond.isRef (.static C n d)).before args s = true := by
  rcases h with h | ⟨t, h⟩
  · exact vx_isRef h rfl
  · exact vx_isRef h rfl
/-- the same frame, seen from here: as if the method were called anew in this heap -/
theorem vx_rebase {T : State} (X : Stand p l e R s m args below meth c T locs cells slots) {R' : Room} (hf : R'.frames ≤ R.frames) (hl : R'.locals ≤ R.locals) (hc : cells + R'.cells ≤ R.cells) (hs : slots + R'.slots ≤ R.slots) :
    Stand p l e R' ((T.setVm s.vm).setFrames (.invoking m args :: below)) m args below meth c T [] 0 0 := by
  have htop : (T.setVm s.vm).topJava?.isSome := X.here.top
  have hF : ((T.setVm s.vm).setFrames (.invoking m args :: below)).frames = .invoking m args :: below := State.frames_setFrames _ (State.cur_lt_of_top htop)
  obtain ⟨g₀, hg0⟩ := Option.isSome_iff_exists.mp htop
  obtain ⟨r, hr⟩ := State.topJava?_eq_some.mp hg0
  have hl9 : e.platform.stackLimits (T.setVm s.vm).me = e.platform.stackLimits s.me := X.limits
  have hb9 : (T.setVm s.vm).me.stackBytes = s.me.stackBytes := X.bytes
  refine ⟨X.admits, X.cas, X.clock, hF, ?_, X.hears, X.method, X.code, X.here, X.tail, X.warmed, ?_, ?_, ?_⟩
  · have h := X.room
    have hU : ((T.setVm s.vm).setFrames (.invoking m args :: below)).localsInUse = s.localsInUse := by
      rw [State.localsInUse_invoking hF (meth := meth) (c := c) X.method X.code, State.localsInUse_invoking X.frames X.method X.code]
    simp only [State.hasRoom, Bool.and_eq_true, decide_eq_true_eq] at h ⊢
    obtain ⟨⟨⟨⟨h1, h2, h3, h4, h5, h6⟩, h7⟩, h8⟩, h9⟩ := h
    rw [X.frames, List.length_cons] at h2 h3
    have q1 := X.heapSize
    have q2 := X.used
    simp only [hF, hU, List.length_cons, State.stackLimits_setFrames, State.stackBytes_setFrames, hl9, hb9]
    refine ⟨⟨⟨⟨by omega, by omega, by omega, by omega, by omega, h6⟩, ?_⟩, ?_⟩, X.book⟩
    · show T.heap.size + R'.cells ≤ e.platform.maxCells
      omega
    · show T.slotsUsed + R'.slots ≤ e.platform.maxSlots
      omega
  · rw [State.stackLimits_setFrames]; rfl
  · rw [State.stackBytes_setFrames]; rfl
  · refine ⟨?_, Nat.le_refl _, Nat.le_refl _, ?_, ?_, fun a c9 h9 => ⟨c9, h9, rfl, rfl, fun _ _ => rfl⟩⟩
    · obtain ⟨t, ht, -⟩ := State.frames_cons hr
      show T.setVm s.vm = { ((T.setVm s.vm).setFrames (.invoking m args :: below)).setFrames (T.setVm s.vm).frames with heap := T.heap, slotsUsed := T.slotsUsed }
      rw [State.setFrames_setFrames, State.setFrames_self ht]
      rfl
    · show T.slotsUsed = T.slotsUsed + ((T.heap.toList.drop T.heap.size).map (·.slots.size)).sum
      rw [List.drop_eq_nil_of_le (Nat.le_of_eq Array.length_toList)]
      rfl
    · show ((T.heap.toList.drop T.heap.size).map (·.slots.size)).sum ≤ 0
      rw [List.drop_eq_nil_of_le (Nat.le_of_eq Array.length_toList)]
      exact Nat.le_refl _
/-- 'throw new E()': new; dup; invokespecial; athrow -/
theorem vx_throw0 {cc : ByteArray} {pc : Nat} (hexec : p.tables.exec = Jvm.exec) (hb : c.code = cc) (hl : l.stackTraces = false) {own cls : String} {names : List String} {ik ic mc ms : Nat} {A : Nat → Prop}
    (hown : s.vm.findClass own = some m.cls) (hcls : Bundle.fit cls = true) (hnames : ∀ n ∈ names, Bundle.fit n = true)
    (hk : (Cond.classLink own ik cls).before args s = true) (hini : (Cond.initialized cls).before args s = true) (hat : ∀ w ∈ vx_at0 own ic cls names, w.before args s = true)
    (hgood : ∀ w ∈ Cond.classLink own ik cls :: Cond.initialized cls :: vx_at0 own ic cls names, vx_ot w = true)
    (hU : vx_Zq Bundle.tN "UNASSIGNED_STACK" Bundle.steD A s s.heap) (hN : vx_Zq Bundle.tN "SUPPRESSED_SENTINEL" Bundle.listD A s s.heap) (hS : va_S A s.heap H locs) (hsize : ls.size = c.maxLocals)
    (d0 : decode cc pc = .ok (.new ik, 3)) (d3 : decode cc (pc + 3) = .ok (.dup, 1)) (d4 : decode cc (pc + 4) = .ok (.invokespecial ic, 3)) (d7 : decode cc (pc + 7) = .ok (.athrow, 1))
    (hout : ∀ x ∈ c.exceptionTable.toList, covers x (pc + 7) = false)
    (hRframes : names.length + 3 < R.frames) (hRlocals : (rest.map fun v => v.category).sum + (13 * (names.length + 1) + 42) ≤ R.locals) (hRcells : cells + 1 ≤ R.cells) (hRslots : slots + 6 ≤ R.slots) (hlocks : meth.locks = false)
    (hx : ∀ t : State, s.vm.Alike t.vm → H.size ≤ t.heap.size → (∀ q : Nat, q < H.size → t.heap[q]? = H[q]?) → XC cls s t)
    (hf : ∀ z ∈ locs, free z.base) (hc : cells + 1 ≤ mc) (hs : slots + 6 ≤ ms) :
    W p l e R s m args below meth c H locs cells slots (vx_MQ below Qc XC args s mc ms free) (F0 m pc ls rest) := by
  intro T hT X
  have htr : e.platform.stackTraces = false := (show e.platform.stackTraces = l.stackTraces by rw [X.admits.platform]).trans hl
  have Y := vx_rebase X (R' := { frames := R.frames, locals := R.locals, cells := 1, slots := 6 }) (Nat.le_refl _) (Nat.le_refl _) hRcells hRslots
  obtain ⟨s', hA⟩ : ∃ z, z = (T.setVm s.vm).setFrames (.invoking m args :: below) := ⟨_, rfl⟩
  rw [← hA] at Y
  have hvm : s'.vm = s.vm := by rw [hA]; rfl
  have hhp : s'.heap = H := by rw [hA]; exact hT
  have hW0 : s.WarmedH s'.vm := by rw [hvm]; exact State.WarmedH.refl s
  have hat' : ∀ w ∈ vx_at0 own ic cls names, w.before args s' = true := fun w hw => vx_ot_at hW0 hvm.symm (hgood w (List.mem_cons_of_mem _ (List.mem_cons_of_mem _ hw))) (hat w hw)
  have hk' : (Cond.classLink own ik cls).before args s' = true := vx_ot_at hW0 hvm.symm (hgood _ List.mem_cons_self) hk
  have hini' : (Cond.initialized cls).before args s' = true := vx_ot_at hW0 hvm.symm (hgood _ (List.mem_cons_of_mem _ List.mem_cons_self)) hini
  have hU' : vx_Zq Bundle.tN "UNASSIGNED_STACK" Bundle.steD A s' s'.heap := by rw [hhp]; exact vx_Zq.moved hW0.alike (hU.kept hS.2.1)
  have hN' : vx_Zq Bundle.tN "SUPPRESSED_SENTINEL" Bundle.listD A s' s'.heap := by rw [hhp]; exact vx_Zq.moved hW0.alike (hN.kept hS.2.1)
  have h : ∀ w ∈ Bundle.ownAtoms0 own ic cls names, w.before args s' = true := vx_own hat' (vx_isRefq hU'.1) (vx_isRefq hN'.1) hU'.2.word hN'.2.word
  have hown' : s'.vm.findClass own = some m.cls := by rw [hvm]; exact hown
  have hins : (Cond.instantiable cls 6).before args s' = true := h _ (by simp [Bundle.ownAtoms0])
  obtain ⟨vm₁, cX, kX, hfX, hkX, -, -, X₁, st1⟩ := Y.newCold hexec (own := own) (C := cls) (index := ik) (n := 6) hown' hk' hins hini'
    (g := F0 m pc ls rest) rfl (by rw [hb]; exact d0) (Nat.le_refl _) (Nat.le_refl _)
  generalize hT1 : (T.setVm vm₁).pushCell { cls := cX, slots := kX.instanceTypes.map defaultValue, vm := .none } = T1 at X₁ st1
  have hcat : (Value.ref T.heap.size).category = 1 := rfl
  have hcellA : T1.heap[T.heap.size]? = some (freshCell cX kX) := by rw [← hT1]; exact State.heap_pushCell_size _ _
  have d3' : decode c.code (pc + 3) = .ok (.dup, 1) := by rw [hb]; exact d3
  obtain ⟨U, hsteps, hrun, hend, hW, hsame, ce, hce, hO⟩ := X₁.ctorThrow0 hexec htr (own := own) (cls := cls) (names := names) (ic := ic) hown' hcls hnames h (fun x hx => nomatch hx) hfX hkX hcellA (by rw [hhp, hT]; exact Nat.le_refl _)
    (g := { method := m, pc := pc + 4, locals := ls, stack := .ref T.heap.size :: .ref T.heap.size :: rest, locked := none }) rfl hsize rfl rfl (rest := rest) rfl
    (by rw [hb]; exact d4) (by rw [hb]; exact d7) hout hRframes (by simp only [List.map_cons, List.sum_cons, hcat]; omega) hlocks
  obtain ⟨f1, f2⟩ := vx_frame hsame
  rw [hhp] at f1 f2
  have hWs : s.WarmedH U.vm := State.WarmedH.trans hW0 hW
  have hcl : s.vm.findClass cls = some ce.cls := by
    have h9 := hO.cls
    rw [hvm] at h9
    exact h9
  have hall : s.sameButNew ({ U with vm := s.vm } : State) locs mc ms := by
    subst hA
    obtain ⟨e1, e2⟩ := hsame
    rw [State.setFrames_setFrames] at e1
    have h2 : (T.setVm s.vm).sameButNew ({ U with vm := s.vm } : State) [] (0 + 1) (0 + 6) := ⟨e1, e2⟩
    have h3 := X.same.trans h2
    rw [List.append_nil] at h3
    exact h3.mono hc hs
  refine ⟨U, ?_, .threw T.heap.size, hrun, hend, Or.inr ⟨T.heap.size, rfl, cls, ce, locs, hx U hWs.alike f1 (fun q hq => f2 q hq (fun z hz => nomatch hz)), hce, hO.vm, hcl, hWs, hall, hf⟩⟩
  refine st1 _ ?_
  show Steps p.tables e below (T1.setTop { method := m, pc := pc + 3, locals := ls, stack := .ref T.heap.size :: rest, locked := none }) _
  jvm_step X₁.here [X₁.here.top, hexec, d3', Value.category]
  exact hsteps
/-- 'throw new E("text")': new; dup; ldc; invokespecial; athrow -/
theorem vx_throwS {cc : ByteArray} {pc : Nat} (hexec : p.tables.exec = Jvm.exec) (hb : c.code = cc) (hl : l.stackTraces = false) {own cls text : String} {names : List String} {ik is ic mc ms sa : Nat} {A : Nat → Prop}
    (hown : s.vm.findClass own = some m.cls) (hcls : Bundle.fit cls = true) (hnames : ∀ n ∈ names, Bundle.fit n = true)
    (hk : (Cond.classLink own ik cls).before args s = true) (hini : (Cond.initialized cls).before args s = true) (hstr : vk_R own is text sa s) (hat : ∀ w ∈ vx_atS own ic cls names, w.before args s = true)
    (hgood : ∀ w ∈ Cond.classLink own ik cls :: Cond.initialized cls :: vx_atS own ic cls names, vx_ot w = true)
    (hU : vx_Zq Bundle.tN "UNASSIGNED_STACK" Bundle.steD A s s.heap) (hN : vx_Zq Bundle.tN "SUPPRESSED_SENTINEL" Bundle.listD A s s.heap) (hS : va_S A s.heap H locs) (hsize : ls.size = c.maxLocals)
    (d0 : decode cc pc = .ok (.new ik, 3)) (d3 : decode cc (pc + 3) = .ok (.dup, 1)) (d4 : decode cc (pc + 4) = .ok (.ldc is, 2)) (d6 : decode cc (pc + 6) = .ok (.invokespecial ic, 3)) (d9 : decode cc (pc + 9) = .ok (.athrow, 1))
    (hout : ∀ x ∈ c.exceptionTable.toList, covers x (pc + 9) = false)
    (hRframes : names.length + 3 < R.frames) (hRlocals : (rest.map fun v => v.category).sum + (13 * (names.length + 1) + 43) ≤ R.locals) (hRcells : cells + 1 ≤ R.cells) (hRslots : slots + 6 ≤ R.slots) (hlocks : meth.locks = false)
    (hx : ∀ t : State, s.vm.Alike t.vm → H.size ≤ t.heap.size → (∀ q : Nat, q < H.size → t.heap[q]? = H[q]?) → XC cls s t)
    (hf : ∀ z ∈ locs, free z.base) (hc : cells + 1 ≤ mc) (hs : slots + 6 ≤ ms) :
    W p l e R s m args below meth c H locs cells slots (vx_MQ below Qc XC args s mc ms free) (F0 m pc ls rest) := by
  intro T hT X
  have htr : e.platform.stackTraces = false := (show e.platform.stackTraces = l.stackTraces by rw [X.admits.platform]).trans hl
  have Y := vx_rebase X (R' := { frames := R.frames, locals := R.locals, cells := 1, slots := 6 }) (Nat.le_refl _) (Nat.le_refl _) hRcells hRslots
  obtain ⟨s', hA⟩ : ∃ z, z = (T.setVm s.vm).setFrames (.invoking m args :: below) := ⟨_, rfl⟩
  rw [← hA] at Y
  have hvm : s'.vm = s.vm := by rw [hA]; rfl
  have hhp : s'.heap = H := by rw [hA]; exact hT
  have hW0 : s.WarmedH s'.vm := by rw [hvm]; exact State.WarmedH.refl s
  have hat' : ∀ w ∈ vx_atS own ic cls names, w.before args s' = true := fun w hw => vx_ot_at hW0 hvm.symm (hgood w (List.mem_cons_of_mem _ (List.mem_cons_of_mem _ hw))) (hat w hw)
  have hk' : (Cond.classLink own ik cls).before args s' = true := vx_ot_at hW0 hvm.symm (hgood _ List.mem_cons_self) hk
  have hini' : (Cond.initialized cls).before args s' = true := vx_ot_at hW0 hvm.symm (hgood _ (List.mem_cons_of_mem _ List.mem_cons_self)) hini
  have hU' : vx_Zq Bundle.tN "UNASSIGNED_STACK" Bundle.steD A s' s'.heap := by rw [hhp]; exact vx_Zq.moved hW0.alike (hU.kept hS.2.1)
  have hN' : vx_Zq Bundle.tN "SUPPRESSED_SENTINEL" Bundle.listD A s' s'.heap := by rw [hhp]; exact vx_Zq.moved hW0.alike (hN.kept hS.2.1)
  have h : ∀ w ∈ Bundle.ownAtoms own ic cls names, w.before args s' = true := vx_own hat' (vx_isRefq hU'.1) (vx_isRefq hN'.1) hU'.2.word hN'.2.word
  have hown' : s'.vm.findClass own = some m.cls := by rw [hvm]; exact hown
  have hins : (Cond.instantiable cls 6).before args s' = true := h _ (by simp [Bundle.ownAtoms])
  obtain ⟨vm₁, cX, kX, hfX, hkX, -, -, X₁, st1⟩ := Y.newCold hexec (own := own) (C := cls) (index := ik) (n := 6) hown' hk' hins hini'
    (g := F0 m pc ls rest) rfl (by rw [hb]; exact d0) (Nat.le_refl _) (Nat.le_refl _)
  generalize hT1 : (T.setVm vm₁).pushCell { cls := cX, slots := kX.instanceTypes.map defaultValue, vm := .none } = T1 at X₁ st1
  have hcat : (Value.ref T.heap.size).category = 1 := rfl
  have hcellA : T1.heap[T.heap.size]? = some (freshCell cX kX) := by rw [← hT1]; exact State.heap_pushCell_size _ _
  have d3' : decode c.code (pc + 3) = .ok (.dup, 1) := by rw [hb]; exact d3
  have d4' : decode c.code (pc + 4) = .ok (.ldc is, 2) := by rw [hb]; exact d4
  have hstr' : vk_R own is text sa s' := vk_R.warm hW0 hstr
  obtain ⟨U, hsteps, hrun, hend, hW, hsame, ce, hce, hO⟩ := X₁.ctorThrowS hexec htr (own := own) (cls := cls) (names := names) (ic := ic) hown' hcls hnames h (fun x hx => nomatch hx) hfX hkX hcellA (by rw [hhp, hT]; exact Nat.le_refl _) (msg := .ref sa) rfl
    (g := { method := m, pc := pc + 6, locals := ls, stack := .ref sa :: .ref T.heap.size :: .ref T.heap.size :: rest, locked := none }) rfl hsize rfl rfl (rest := rest) rfl
    (by rw [hb]; exact d6) (by rw [hb]; exact d9) hout hRframes (by simp only [List.map_cons, List.sum_cons, hcat]; omega) hlocks
  obtain ⟨f1, f2⟩ := vx_frame hsame
  rw [hhp] at f1 f2
  have hWs : s.WarmedH U.vm := State.WarmedH.trans hW0 hW
  have hcl : s.vm.findClass cls = some ce.cls := by
    have h9 := hO.cls
    rw [hvm] at h9
    exact h9
  have hall : s.sameButNew ({ U with vm := s.vm } : State) locs mc ms := by
    subst hA
    obtain ⟨e1, e2⟩ := hsame
    rw [State.setFrames_setFrames] at e1
    have h2 : (T.setVm s.vm).sameButNew ({ U with vm := s.vm } : State) [] (0 + 1) (0 + 6) := ⟨e1, e2⟩
    have h3 := X.same.trans h2
    rw [List.append_nil] at h3
    exact h3.mono hc hs
  refine ⟨U, ?_, .threw T.heap.size, hrun, hend, Or.inr ⟨T.heap.size, rfl, cls, ce, locs, hx U hWs.alike f1 (fun q hq => f2 q hq (fun z hz => nomatch hz)), hce, hO.vm, hcl, hWs, hall, hf⟩⟩
  refine st1 _ ?_
  show Steps p.tables e below (T1.setTop { method := m, pc := pc + 3, locals := ls, stack := .ref T.heap.size :: rest, locked := none }) _
  jvm_step X₁.here [X₁.here.top, hexec, d3', Value.category]
  exact X₁.ldcString hexec (own := own) (text := text) (index := is) (a := sa) hown' hstr'.1 hstr'.2
    (g := { method := m, pc := pc + 4, locals := ls, stack := .ref T.heap.size :: .ref T.heap.size :: rest, locked := none }) rfl d4' _ hsteps
/-- 'throw new E("text")', the text by a wide index -/
theorem vx_throwSW {cc : ByteArray} {pc : Nat} (hexec : p.tables.exec = Jvm.exec) (hb : c.code = cc) (hl : l.stackTraces = false) {own cls text : String} {names : List String} {ik is ic mc ms sa : Nat} {A : Nat → Prop}
    (hown : s.vm.findClass own = some m.cls) (hcls : Bundle.fit cls = true) (hnames : ∀ n ∈ names, Bundle.fit n = true)
    (hk : (Cond.classLink own ik cls).before args s = true) (hini : (Cond.initialized cls).before args s = true) (hstr : vk_R own is text sa s) (hat : ∀ w ∈ vx_atS own ic cls names, w.before args s = true)
    (hgood : ∀ w ∈ Cond.classLink own ik cls :: Cond.initialized cls :: vx_atS own ic cls names, vx_ot w = true)
    (hU : vx_Zq Bundle.tN "UNASSIGNED_STACK" Bundle.steD A s s.heap) (hN : vx_Zq Bundle.tN "SUPPRESSED_SENTINEL" Bundle.listD A s s.heap) (hS : va_S A s.heap H locs) (hsize : ls.size = c.maxLocals)
    (d0 : decode cc pc = .ok (.new ik, 3)) (d3 : decode cc (pc + 3) = .ok (.dup, 1)) (d4 : decode cc (pc + 4) = .ok (.ldc_w is, 3)) (d7 : decode cc (pc + 7) = .ok (.invokespecial ic, 3)) (d10 : decode cc (pc + 10) = .ok (.athrow, 1))
    (hout : ∀ x ∈ c.exceptionTable.toList, covers x (pc + 10) = false)
    (hRframes : names.length + 3 < R.frames) (hRlocals : (rest.map fun v => v.category).sum + (13 * (names.length + 1) + 43) ≤ R.locals) (hRcells : cells + 1 ≤ R.cells) (hRslots : slots + 6 ≤ R.slots) (hlocks : meth.locks = false)
    (hx : ∀ t : State, s.vm.Alike t.vm → H.size ≤ t.heap.size → (∀ q : Nat, q < H.size → t.heap[q]? = H[q]?) → XC cls s t)
    (hf : ∀ z ∈ locs, free z.base) (hc : cells + 1 ≤ mc) (hs : slots + 6 ≤ ms) :
    W p l e R s m args below meth c H locs cells slots (vx_MQ below Qc XC args s mc ms free) (F0 m pc ls rest) := by
  intro T hT X
  have htr : e.platform.stackTraces = false := (show e.platform.stackTraces = l.stackTraces by rw [X.admits.platform]).trans hl
  have Y := vx_rebase X (R' := { frames := R.frames, locals := R.locals, cells := 1, slots := 6 }) (Nat.le_refl _) (Nat.le_refl _) hRcells hRslots
  obtain ⟨s', hA⟩ : ∃ z, z = (T.setVm s.vm).setFrames (.invoking m args :: below) := ⟨_, rfl⟩
  rw [← hA] at Y
  have hvm : s'.vm = s.vm := by rw [hA]; rfl
  have hhp : s'.heap = H := by rw [hA]; exact hT
  have hW0 : s.WarmedH s'.vm := by rw [hvm]; exact State.WarmedH.refl s
  have hat' : ∀ w ∈ vx_atS own ic cls names, w.before args s' = true := fun w hw => vx_ot_at hW0 hvm.symm (hgood w (List.mem_cons_of_mem _ (List.mem_cons_of_mem _ hw))) (hat w hw)
  have hk' : (Cond.classLink own ik cls).before args s' = true := vx_ot_at hW0 hvm.symm (hgood _ List.mem_cons_self) hk
  have hini' : (Cond.initialized cls).before args s' = true := vx_ot_at hW0 hvm.symm (hgood _ (List.mem_cons_of_mem _ List.mem_cons_self)) hini
  have hU' : vx_Zq Bundle.tN "UNASSIGNED_STACK" Bundle.steD A s' s'.heap := by rw [hhp]; exact vx_Zq.moved hW0.alike (hU.kept hS.2.1)
  have hN' : vx_Zq Bundle.tN "SUPPRESSED_SENTINEL" Bundle.listD A s' s'.heap := by rw [hhp]; exact vx_Zq.moved hW0.alike (hN.kept hS.2.1)
  have h : ∀ w ∈ Bundle.ownAtoms own ic cls names, w.before args s' = true := vx_own hat' (vx_isRefq hU'.1) (vx_isRefq hN'.1) hU'.2.word hN'.2.word
  have hown' : s'.vm.findClass own = some m.cls := by rw [hvm]; exact hown
  have hins : (Cond.instantiable cls 6).before args s' = true := h _ (by simp [Bundle.ownAtoms])
  obtain ⟨vm₁, cX, kX, hfX, hkX, -, -, X₁, st1⟩ := Y.newCold hexec (own := own) (C := cls) (index := ik) (n := 6) hown' hk' hins hini'
    (g := F0 m pc ls rest) rfl (by rw [hb]; exact d0) (Nat.le_refl _) (Nat.le_refl _)
  generalize hT1 : (T.setVm vm₁).pushCell { cls := cX, slots := kX.instanceTypes.map defaultValue, vm := .none } = T1 at X₁ st1
  have hcat : (Value.ref T.heap.size).category = 1 := rfl
  have hcellA : T1.heap[T.heap.size]? = some (freshCell cX kX) := by rw [← hT1]; exact State.heap_pushCell_size _ _
  have d3' : decode c.code (pc + 3) = .ok (.dup, 1) := by rw [hb]; exact d3
  have d4' : decode c.code (pc + 4) = .ok (.ldc_w is, 3) := by rw [hb]; exact d4
  have hstr' : vk_R own is text sa s' := vk_R.warm hW0 hstr
  obtain ⟨U, hsteps, hrun, hend, hW, hsame, ce, hce, hO⟩ := X₁.ctorThrowS hexec htr (own := own) (cls := cls) (names := names) (ic := ic) hown' hcls hnames h (fun x hx => nomatch hx) hfX hkX hcellA (by rw [hhp, hT]; exact Nat.le_refl _) (msg := .ref sa) rfl
    (g := { method := m, pc := pc + 7, locals := ls, stack := .ref sa :: .ref T.heap.size :: .ref T.heap.size :: rest, locked := none }) rfl hsize rfl rfl (rest := rest) rfl
    (by rw [hb]; exact d7) (by rw [hb]; exact d10) hout hRframes (by simp only [List.map_cons, List.sum_cons, hcat]; omega) hlocks
  obtain ⟨f1, f2⟩ := vx_frame hsame
  rw [hhp] at f1 f2
  have hWs : s.WarmedH U.vm := State.WarmedH.trans hW0 hW
  have hcl : s.vm.findClass cls = some ce.cls := by
    have h9 := hO.cls
    rw [hvm] at h9
    exact h9
  have hall : s.sameButNew ({ U with vm := s.vm } : State) locs mc ms := by
    subst hA
    obtain ⟨e1, e2⟩ := hsame
    rw [State.setFrames_setFrames] at e1
    have h2 : (T.setVm s.vm).sameButNew ({ U with vm := s.vm } : State) [] (0 + 1) (0 + 6) := ⟨e1, e2⟩
    have h3 := X.same.trans h2
    rw [List.append_nil] at h3
    exact h3.mono hc hs
  refine ⟨U, ?_, .threw T.heap.size, hrun, hend, Or.inr ⟨T.heap.size, rfl, cls, ce, locs, hx U hWs.alike f1 (fun q hq => f2 q hq (fun z hz => nomatch hz)), hce, hO.vm, hcl, hWs, hall, hf⟩⟩
  refine st1 _ ?_
  show Steps p.tables e below (T1.setTop { method := m, pc := pc + 3, locals := ls, stack := .ref T.heap.size :: rest, locked := none }) _
  jvm_step X₁.here [X₁.here.top, hexec, d3', Value.category]
  exact X₁.ldcStringW hexec (own := own) (text := text) (index := is) (a := sa) hown' hstr'.1 hstr'.2
    (g := { method := m, pc := pc + 4, locals := ls, stack := .ref T.heap.size :: .ref T.heap.size :: rest, locked := none }) rfl d4' _ hsteps
end Ends
section Bodies
variable {l : Launch}
theorem vx_ofW {y : MethodName} {ws ws' : List Cond} {rm : Room} {Pc : Array Value → State → Prop} {Qc : Array Value → State → Outcome → State → Prop} {XC : String → State → State → Prop} {mc ms : Nat} {free : Addr → Prop} {cc : ByteArray} {maxL : Nat} {ret : Option FieldType}
    (hy : plainName y.cls = true) (hw : ws = Cond.code y cc maxL ret :: ws')
    (body : ∀ p e s m args below meth c s₁, BodyLoose p l y (headSpec ws rm) cc maxL ret e s m args below meth c s₁ → c.maxLocals = maxL → (∀ x ∈ c.exceptionTable.toList, False) → Pc args s →
      W p l e (headSpec ws rm).room s m args below meth c s.heap [] 0 0 (vx_MQ below Qc XC args s mc ms free) (entryFrame m args maxL)) : vx_Met l y ws rm Pc Qc XC mc ms free := by
  refine MetFree.of_bodyS (code := cc) (maxLocals := maxL) (ret := ret) hy ?_ ?_
  · intro args s m h hn
    obtain ⟨meth, c, h1, h2, h3, h4, h5, h6, -, -⟩ := Cond.code_spec hn (atoms_spec (ws := ws) h _ (by rw [hw]; exact List.mem_cons_self))
    exact ⟨meth, c, h1, h2, h3, h4, h5, h6⟩
  · intro p e s m args below meth c s₁ B hml hP _
    have hh0 : s₁.heap = s.heap := by rw [B.state]; rfl
    have ht : ∀ x ∈ c.exceptionTable.toList, False := by
      obtain ⟨meth9, c9, h1, h2, -, -, -, -, h7, -⟩ := Cond.code_spec B.named (atoms_spec (ws := ws) B.pre _ (by rw [hw]; exact List.mem_cons_self))
      cases Option.some.inj (h1.symm.trans B.method)
      cases Option.some.inj (h2.symm.trans (Stand.of_body B).code)
      intro x hx
      rw [Array.isEmpty_iff.mp h7] at hx
      cases hx
    obtain ⟨t, a1, o, b1, b2, b3⟩ := body p e s m args below meth c s₁ B hml ht hP s₁ hh0 (Stand.of_body B)
    exact ⟨t, o, a1, b1, b2, b3⟩
/-- the table of a body with handlers -/
theorem vx_table {p : Program} {x y : MethodName} {S : Spec} {cc bytes : ByteArray} {maxL maxL' : Nat} {ret ret' : Option FieldType} {e : Env} {s s₁ : State} {m : MethodId} {args : Array Value} {below : List Frame} {meth : Method} {c : Code} {hh : List (Nat × Nat × Nat × Nat)}
    (B : BodyLoose p l y S cc maxL ret e s m args below meth c s₁) (h : (Cond.codeWith y bytes maxL' ret' hh).before args s = true) : c.exceptionTable.toList = tableOf hh := by
  obtain ⟨m9, meth9, c9, hn9, h1, h2, -, -, h6, -⟩ := Cond.codeWith_spec h
  cases Option.some.inj (hn9.symm.trans B.named)
  cases Option.some.inj (h1.symm.trans B.method)
  cases Option.some.inj (h2.symm.trans (Stand.of_body B).code)
  rw [← h6, table_eq]
end Bodies
end VXA
/-! ===== END ===== -/
/-! ===== BEGIN a static call of a method with an exception table ===== -/
section VXS
variable {p : Program} {l : Launch} {e : Env} {R : Room} {s : State} {m : MethodId} {args : Array Value} {below : List Frame} {meth : Method} {c : Code} {T : State} {H : Heap} {locs : List Loc} {cells slots : Nat}
abbrev vx_CSW (R : Room) (s : State) (args : Array Value) (own : String) (index : Nat) (y : MethodName) (bytes : ByteArray) (maxL : Nat) (ret : Option FieldType) (hh : List (Nat × Nat × Nat × Nat)) (ws : List Cond) (rm : Room) (mc ms n : Nat) : Prop :=
  (rm.cells = mc ∧ rm.slots = ms ∧ rm.frames + 1 ≤ R.frames ∧ 8 + (maxL + 11) + rm.locals ≤ R.locals ∧ (∀ w ∈ ws, ∀ (a' : Array Value) (U : State), s.WarmedH U.vm → w.before a' U = true) ∧ Cond.codeWith y bytes maxL ret hh ∈ ws) ∧
  (Cond.codeWith y bytes maxL ret hh).before args s = true ∧ (Cond.initialized y.cls).before args s = true ∧ (y.cls ≠ "java/lang/invoke/MethodHandle" ∧ y.cls ≠ "java/lang/invoke/VarHandle") ∧
  (∀ sig, parseMethodDescriptor y.desc = some sig → n = sig.parameters.length) ∧ (Cond.methodLink own index y).before args s = true ∧ (Cond.static y).before args s = true
theorem vx_cwSW {own : String} {index maxL mc ms : Nat} {y : MethodName} {bytes : ByteArray} {ret : Option FieldType} {hh : List (Nat × Nat × Nat × Nat)} {Ts ws ws' : List Cond} {rm : Room} (n : Nat) (ht : ∀ w ∈ Ts, w.before args s = true) (hT : GoodIn Ts (va_wsS own index y ws)) (hw : ws = Cond.codeWith y bytes maxL ret hh :: ws') (hrc : rm.cells = mc) (hrs : rm.slots = ms)
    (hd : y.cls ≠ "java/lang/invoke/MethodHandle" ∧ y.cls ≠ "java/lang/invoke/VarHandle" ∧ (parseMethodDescriptor y.desc).map (fun d => d.parameters.length) = some n) (hR : rm.frames + 1 ≤ R.frames ∧ 8 + (maxL + 11) + rm.locals ≤ R.locals) :
    vx_CSW R s args own index y bytes maxL ret hh ws rm mc ms n := by
  have ok : ∀ w ∈ va_wsS own index y ws, w.before args s = true := fun w h => ht w (hT w h).1
  have hG : GoodIn Ts ws := fun w h => hT w (by unfold va_wsS; exact List.mem_append_right _ h)
  have hc : Cond.codeWith y bytes maxL ret hh ∈ ws := by rw [hw]; exact List.mem_cons_self
  refine ⟨⟨hrc, hrs, hR.1, hR.2, pay_in ht hG, hc⟩, ht _ (hG _ hc).1, ok _ (by simp [va_wsS]), ⟨hd.1, hd.2.1⟩, fun sig h => ?_, ok _ (by simp [va_wsS]), ok _ (by simp [va_wsS])⟩
  have h2 := hd.2.2
  rw [h] at h2
  exact (Option.some.inj h2).symm
theorem vx_callSW (X : Stand p l e R s m args below meth c T locs cells slots) (hexec : p.tables.exec = Jvm.exec) {own : String} {index : Nat} {y : MethodName} {bytes : ByteArray} {maxL : Nat} {ret : Option FieldType} {hh : List (Nat × Nat × Nat × Nat)}
    (hown : s.vm.findClass own = some m.cls) (hlink : (Cond.methodLink own index y).before args s = true) (hstat : (Cond.static y).before args s = true) (hinit : (Cond.initialized y.cls).before args s = true)
    (hcode : (Cond.codeWith y bytes maxL ret hh).before args s = true) (hy : y.cls ≠ "java/lang/invoke/MethodHandle" ∧ y.cls ≠ "java/lang/invoke/VarHandle")
    {W9 : Nat} {Pre : Pt → Array Value → Prop} {Post : Pt → Array Value → Option Value → Pt → Prop} (hK : Back l R p e below s args y 3 W9 Pre Post)
    {g : JFrame} (hg : g.method = m) (hsize : g.locals.size = c.maxLocals) {argsL rest : List Value} (hlen : ∀ sig, parseMethodDescriptor y.desc = some sig → argsL.length = sig.parameters.length)
    (hstack : g.stack = argsL.reverse ++ rest) (hW : 2 * g.monitorRoom + (rest.map fun v => v.category).sum ≤ W9) (hdg : decode c.code g.pc = .ok (.invokestatic index, 3))
    (hpre : ∀ vm₁, s.WarmedH vm₁ → Pre ⟨T.setVm vm₁, locs, cells, slots⟩ argsL.toArray) :
    ∃ (v : Option Value) (vm₁ : Vm) (B : Pt), s.WarmedH vm₁ ∧ Stand p l e R s m args below meth c B.U B.locs B.cells B.slots ∧ Post ⟨T.setVm vm₁, locs, cells, slots⟩ argsL.toArray v B ∧
      ∀ target, Steps p.tables e below (B.U.setTop { g with pc := g.pc + 3, stack := v.toList ++ rest }) target → Steps p.tables e below (T.setTop g) target := by
  obtain ⟨mk, methM, cM, hnamed, hmethM, -, -, -, -, -, -, hsigM⟩ := Cond.codeWith_spec hcode
  have hstatic : methM.isStatic = true := Cond.static_spec hnamed hmethM hstat
  obtain ⟨kP, hkP, -⟩ := className_of_methodNamed hnamed
  have hinitP : kP.init = .initialized := Cond.initialized_spec (findClass_of_methodNamed hnamed) hkP hinit
  obtain ⟨vm₁, X₁, hstep₁⟩ := X.invokestatic hexec hown hlink hnamed hmethM hstatic hkP hinitP hy (g := g) hg (argsL := argsL) (rest := rest) (hlen _ hsigM) hstack hdg
  obtain ⟨v, B, X', hpost, hsteps⟩ := hK m meth c ⟨T.setVm vm₁, locs, cells, slots⟩ { g with stack := rest } (.invokestatic index) mk argsL.toArray X₁ hg hsize hdg hW (X₁.named hnamed) (hpre vm₁ X₁.warmed)
  exact ⟨v, vm₁, B, X₁.warmed, X', hpost, fun target h => hstep₁ _ fun acts => by rw [doInvoke_state]; exact hsteps.trans h⟩
theorem vx_runSW {y : MethodName} {bytes cc : ByteArray} {maxL nL mc ms n index : Nat} {ret : Option FieldType} {hh : List (Nat × Nat × Nat × Nat)} {ws : List Cond} {rm : Room} {Pc : Array Value → State → Prop} {Qc : Array Value → State → Outcome → State → Prop} {free : Addr → Prop} {Ts : List Cond} {own : String} {As rest : List Value} {g : JFrame}
    (S : CallFix p m c cc nL s args Ts own) (hM : Met l y ws rm Pc Qc mc ms free) (cw : vx_CSW R s args own index y bytes maxL ret hh ws rm mc ms n) (hp : PreS s H Pc As)
    (hg : g.method = m) (hn : As.length = n) (hsize : g.locals.size = nL) (hstack : g.stack = As.reverse ++ rest) (hW : 2 * g.monitorRoom + (rest.map fun v => v.category).sum ≤ 8) (hdg : decode cc g.pc = .ok (.invokestatic index, 3)) (hf : cells + mc ≤ R.cells ∧ slots + ms ≤ R.slots) :
    va_Run p l e R s m args below meth c H locs cells slots mc ms g rest (Qc As.toArray) (free) := by
  obtain ⟨⟨hrc, hrs, hfr, hlo, hws, hcw⟩, hcode, hini, hy, hlen, hl, hstt⟩ := cw
  have hK : Back l R p e below s args y 3 8 (PreOf R mc ms Pc) (PostOf Qc mc ms free) := va_backW (hh := hh) (bytes := bytes) (maxL := maxL) (ret := ret) hM hp.1 hrc hrs hfr hlo hws hcw (fun a' U hW => word_at hW (Or.inl (by first | rfl | simp [Cond.onTables, Cond.keeps, Cond.steady])) hini)
  obtain ⟨hx, hb, hml, ho, -⟩ := S
  intro T hT X
  obtain ⟨v, vm₁, ⟨U', l2, c2, s2⟩, hW₁, X', ⟨g', mk, t, L, e1, e2, hq, h1, hL, h2, h3⟩, st⟩ := vx_callSW X hx (hh := hh) (bytes := bytes) (maxL := maxL) (ret := ret) ho hl hstt hini hcode hy hK hg (hsize.trans hml.symm) (argsL := As) (rest := rest) (fun sig h => hn.trans (hlen sig h)) hstack hW (by rw [hb]; exact hdg)
    (fun vm₁ hW₁ => ⟨hf.1, hf.2, hp.2 (T.setVm vm₁) hT hW₁⟩)
  dsimp only [Pt.U, Pt.locs, Pt.cells, Pt.slots] at X' e1 e2 h1 h2 h3 st
  subst h1; subst h2; subst h3
  exact ⟨v, (T.setVm vm₁).calling g' mk As.toArray, t, U', L, hT, X', hL, e1, e2, hq, st⟩
/-- not caught here, past rows that name other classes: it goes on to the caller -/
theorem vx_outP {p : Program} {l : Launch} {e : Env} {R : Room} {s : State} {m : MethodId} {args : Array Value} {below : List Frame} {meth : Method} {c : Code} {H : Heap} {locs : List Loc} {cells slots : Nat} {free : Addr → Prop} {ls : Array Slot} {rest : List Value} {Qc : Array Value → State → Outcome → State → Prop} {XC : String → State → State → Prop}
    {pc : Nat} {own E : String} {ce : Cell} {q : Addr} {mc ms : Nat} (hown : s.vm.findClass own = some m.cls) (hlocks : meth.locks = false)
    (hpass : ∀ z ∈ c.exceptionTable.toList, covers z pc = false ∨ (z.catchType ≠ 0 ∧ ∃ nm : String, (Cond.classLink own z.catchType nm).before args s = true ∧ va_Nc E nm s)) (hcell : H[q]? = some ce) (hv : ce.vm = .none) (hcl : s.vm.findClass E = some ce.cls)
    (hx : ∀ t : State, t.heap = H → s.vm.Alike t.vm → XC E s t) (hf : ∀ z ∈ locs, free z.base) (hc : cells ≤ mc) (hs : slots ≤ ms) :
    vx_W p l e R s m args below meth c H locs cells slots (vx_MQ below Qc XC args s mc ms free) (F0 m pc ls rest) q := by
  intro T hT X
  have hpl : e.platform.magicAccessors = ({} : Platform).magicAccessors := by rw [X.admits.platform]
  obtain ⟨vm', hW', X', st⟩ := X.outThrough hlocks q (g := F0 m pc ls rest) rfl rfl rfl (cell := ce) (by rw [hT]; exact hcell) (by rw [hv]; rfl)
    (by obtain ⟨k9, h9, -⟩ := Vm.findClass_spec hcl; exact ⟨k9, h9⟩) (fun z hz => by
      rcases hpass z hz with h | ⟨hz0, nm, hl1, hn1⟩
      · exact Or.inl h
      · obtain ⟨c6, hc6, hcl6⟩ := Cond.classLink_spec hown hl1 e.platform hpl
        obtain ⟨a8, b8, h1, h2, h3⟩ := hn1
        cases Option.some.inj (h1.symm.trans hcl)
        cases Option.some.inj (h2.symm.trans hc6)
        exact Or.inr ⟨hz0, _, hcl6, h3⟩)
  obtain ⟨g₀, hfr⟩ := X'.frames_eq
  have hcell9 : ((T.setVm vm').setFrames (.throwing q :: below)).heap[q]? = some ce := by
    show T.heap[q]? = some ce
    rw [hT]; exact hcell
  have hend : Ended ((T.setVm vm').setFrames (.throwing q :: below)) below (.threw q) := State.frames_setFrames _ (State.cur_lt_of_frames hfr)
  refine ⟨(T.setVm vm').setFrames (.throwing q :: below), ?_, .threw q, X'.here.running, hend, Or.inr ⟨q, rfl, E, ce, locs, hx _ hT (X'.ends _).1.alike, hcell9, hv, hcl, (X'.ends _).1, (X'.ends _).2.mono hc hs, hf⟩⟩
  rw [X.pushThrowing_eq]
  exact st
/-- a thing of a world lies in the heap -/
theorem vx_lt {D : va_G} {cl : List vw_C} {ws : va_W} {H1 : Heap} (h : va_P D cl ws H1) {k : Nat} {q : Nat × va_E} (hk : ws[k]? = some q) : q.1 < H1.size := (h k q hk).lt
end VXS
/-! ===== END ===== -/
/-! ===== BEGIN methods with a table of their own: called by a name, returning or throwing ===== -/
section VXH
/-! vx_backW, vx_callVX, vx_callSX, vx_callVW, vx_runVW, vx_runVX, vx_runSX, vx_ofWH follow the same proofs as their sisters above (Free/Laws.lean, Shelf42/LK1.lean); vx_outP calls Shelf42/NT130.lean (outThrough). -/
section
variable {l : Launch} {R : Room} {p : Program} {e : Env} {below : List Frame} {s : State} {sargs : Array Value} {y : MethodName} {len W9 : Nat}
theorem vx_backW {ws : List Cond} {rm : Room} {Pc : Array Value → State → Prop} {Qc : Array Value → State → Outcome → State → Prop} {XC : String → State → State → Prop} {mc ms : Nat} {free : Addr → Prop} {bytes : ByteArray} {maxL : Nat} {ret : Option FieldType} {hh : List (Nat × Nat × Nat × Nat)}
    (hM : vx_Met l y ws rm Pc Qc XC mc ms free) (hblind : FrameBlind Pc) (hrc : rm.cells = mc) (hrs : rm.slots = ms)
    (hframes : rm.frames + 1 ≤ R.frames) (hlocals : W9 + (maxL + 11) + rm.locals ≤ R.locals)
    (hws : ∀ w ∈ ws, ∀ a' U, s.WarmedH U.vm → w.before a' U = true) (hcode : Cond.codeWith y bytes maxL ret hh ∈ ws) (hinit : ∀ a' U, s.WarmedH U.vm → (Cond.initialized y.cls).before a' U = true) :
    vx_Back l R p e below s sargs y len W9 (PreOf R mc ms Pc) (PostOf Qc mc ms free) (vx_Post XC mc ms free) := by
  intro m meth c A g ig mk a X hg hsize hdg hW hn hp
  have h1 : (headSpec ws rm).pre.before a A.U = true := atoms_intro fun w hw => hws w hw _ _ X.warmed
  have h2 : (Cond.codeWith y bytes maxL ret hh).before a A.U = true := hws _ hcode _ _ X.warmed
  have h3 : (Cond.initialized y.cls).before a A.U = true := hinit _ _ X.warmed
  have h4 : A.cells + (headSpec ws rm).room.cells ≤ R.cells := by rw [show (headSpec ws rm).room.cells = mc from hrc]; exact hp.1
  have h5 : A.slots + (headSpec ws rm).room.slots ≤ R.slots := by rw [show (headSpec ws rm).room.slots = ms from hrs]; exact hp.2.1
  have hPc : Pc a (A.U.calling g mk a) := hblind _ _ _ _ hp.2.2
  obtain ⟨U, Ls, c0, s0⟩ := A
  dsimp only [Pt.U, Pt.locs, Pt.cells, Pt.slots] at h1 h2 h3 h4 h5 X hn hPc ⊢
  obtain ⟨m9, methY, cY, hn9, hmY, hcY, -, hlY, -⟩ := Cond.codeWith_spec h2
  cases Option.some.inj (hn9.symm.trans hn)
  obtain ⟨kY, hkY, -⟩ := className_of_methodNamed hn
  have hinitY : kY.init = .initialized := Cond.initialized_spec (findClass_of_methodNamed hn) hkY h3
  have h : At U g.method c below := by rw [hg]; exact X.here
  have hlocals9 : W9 + (maxL + 11) + (headSpec ws rm).room.locals ≤ R.locals := hlocals
  have happ : (headSpec ws rm).appliesLoose y e.platform (U.calling g mk a) = true :=
    Spec.appliesLoose_calling (g := g) h hdg hn hkY hinitY
      (X.room_calling (g := g) (R' := (headSpec ws rm).room) hsize hmY hcY hframes (by rw [hlY]; omega) h4 h5) h1
  obtain ⟨mid, hmid⟩ := h.above
  have hfr : (U.setTop g).frames = (.java g :: mid) ++ below := by rw [State.frames_setTop' g h.top, hmid]; rfl
  obtain ⟨o, s₂, hsteps, -, hend, hq⟩ := Steps.callFree hM p X.admits X.cas X.clock (acts := []) hfr happ hPc trivial
  have hq' : vx_Q Qc XC mc ms free a (U.calling g mk a) o s₂ := hq
  rw [State.frames_setTop' g h.top] at hend
  obtain ⟨g₀, hg0⟩ := Option.isSome_iff_exists.mp h.top
  obtain ⟨r, hr⟩ := State.topJava?_eq_some.mp hg0
  have hr' : (({ U with heap := s₂.heap, slotsUsed := s₂.slotsUsed } : State).setVm s₂.vm).frames = .java g₀ :: r := hr
  rcases hq' with ⟨hqc, L, hfe, hL⟩ | ⟨q, rfl, E, ce, L, hx, hce, hcv, hcl, hW₂, hsm, hL⟩
  · obtain ⟨⟨v, rfl⟩, hW₂, e2, q2, q3, q4, q5, q6⟩ := id hfe
    have e3 : s₂ = ({ (U.calling g mk a).setFrames s₂.frames with heap := s₂.heap, slotsUsed := s₂.slotsUsed } : State).setVm s₂.vm := by
      have : s₂ = ({ s₂ with vm := (U.calling g mk a).vm } : State).setVm s₂.vm := rfl
      rw [e2] at this
      exact this
    obtain ⟨c₂, i₂, len₂, hc₂, hd₂, hf₂⟩ := hend
    have hW' : U.WarmedH s₂.vm := hW₂
    have hcc : c₂ = c := by
      have h1 : s₂.code? g.method = U.code? g.method := by
        rw [State.code?_eq, State.code?_eq, hW'.alike.method?]
      exact Option.some.inj (hc₂.symm.trans (h1.trans h.code))
    subst hcc
    have hlen : len₂ = len := by rw [hdg] at hd₂; cases hd₂; rfl
    subst hlen
    have hs₂ : s₂ = (({ U with heap := s₂.heap, slotsUsed := s₂.slotsUsed } : State).setVm s₂.vm).setTop { g with pc := g.pc + len₂, stack := v.toList ++ g.stack } := by
      refine e3.trans ?_
      rw [hf₂, State.calling_eq h.top, State.setFrames_setFrames, State.setTop_of_frames _ hr', hr]
      rfl
    have hsame : U.sameButNew ({ U with heap := s₂.heap, slotsUsed := s₂.slotsUsed } : State) L mc ms := by
      refine ⟨?_, q2, q3, q4, q5, q6⟩
      obtain ⟨t, ht, -⟩ := State.frames_cons hr
      show ({ U with heap := s₂.heap, slotsUsed := s₂.slotsUsed } : State) = { U.setFrames U.frames with heap := s₂.heap, slotsUsed := s₂.slotsUsed }
      rw [State.setFrames_self ht]
    subst hg
    refine Or.inl ⟨v, ⟨(({ U with heap := s₂.heap, slotsUsed := s₂.slotsUsed } : State).setVm s₂.vm), Ls ++ L, c0 + mc, s0 + ms⟩,
      ⟨X.admits, X.cas, X.clock, X.frames, X.room, X.hears, X.method, X.code, (X.here.setHeapUsed s₂.heap s₂.slotsUsed).setVm hW'.alike, X.tail, State.WarmedH.trans X.warmed hW', X.limits, X.bytes, X.same.trans (hsame.setVm s.vm)⟩,
      ⟨g, mk, s₂, L, rfl, rfl, hqc, rfl, hL, rfl, rfl⟩, ?_⟩
    show Steps p.tables e below _ ((({ U with heap := s₂.heap, slotsUsed := s₂.slotsUsed } : State).setVm s₂.vm).setTop { g with pc := g.pc + len₂, stack := v.toList ++ g.stack })
    rw [← hs₂]
    exact hsteps
  · obtain ⟨e2, q2, q3, q4, q5, q6⟩ := id hsm
    have e3 : s₂ = ({ (U.calling g mk a).setFrames s₂.frames with heap := s₂.heap, slotsUsed := s₂.slotsUsed } : State).setVm s₂.vm := by
      have : s₂ = ({ s₂ with vm := (U.calling g mk a).vm } : State).setVm s₂.vm := rfl
      rw [e2] at this
      exact this
    have hf₂ : s₂.frames = .throwing q :: .java g :: U.frames.tail := hend
    have hW' : U.WarmedH s₂.vm := hW₂
    have hs₂ : s₂ = ((({ U with heap := s₂.heap, slotsUsed := s₂.slotsUsed } : State).setVm s₂.vm).setTop g).pushFrame (.throwing q) := by
      refine e3.trans ?_
      rw [hf₂, State.calling_eq h.top, State.setFrames_setFrames, State.pushFrame, State.frames_setTop _ hr', State.setTop_of_frames _ hr', State.setFrames_setFrames, hr]
      rfl
    have hsame : U.sameButNew ({ U with heap := s₂.heap, slotsUsed := s₂.slotsUsed } : State) L mc ms := by
      refine ⟨?_, q2, q3, q4, q5, q6⟩
      obtain ⟨t, ht, -⟩ := State.frames_cons hr
      show ({ U with heap := s₂.heap, slotsUsed := s₂.slotsUsed } : State) = { U.setFrames U.frames with heap := s₂.heap, slotsUsed := s₂.slotsUsed }
      rw [State.setFrames_self ht]
    subst hg
    refine Or.inr ⟨q, ⟨(({ U with heap := s₂.heap, slotsUsed := s₂.slotsUsed } : State).setVm s₂.vm), Ls ++ L, c0 + mc, s0 + ms⟩,
      ⟨X.admits, X.cas, X.clock, X.frames, X.room, X.hears, X.method, X.code, (X.here.setHeapUsed s₂.heap s₂.slotsUsed).setVm hW'.alike, X.tail, State.WarmedH.trans X.warmed hW', X.limits, X.bytes, X.same.trans (hsame.setVm s.vm)⟩,
      ⟨g, mk, s₂, L, E, ce, rfl, rfl, hx, hce, hcv, hcl, rfl, hL, rfl, rfl⟩, ?_⟩
    show Steps p.tables e below _ (((({ U with heap := s₂.heap, slotsUsed := s₂.slotsUsed } : State).setVm s₂.vm).setTop g).pushFrame (.throwing q))
    rw [← hs₂]
    exact hsteps
end
variable {p : Program} {l : Launch} {e : Env} {R : Room} {s : State} {m : MethodId} {args : Array Value} {below : List Frame} {meth : Method} {c : Code} {T : State} {H : Heap} {locs : List Loc} {cells slots : Nat}
theorem vx_callVX (X : Stand p l e R s m args below meth c T locs cells slots) (hexec : p.tables.exec = Jvm.exec) {own C : String} {index : Nat} {y : MethodName} {bytes : ByteArray} {maxL : Nat} {ret : Option FieldType} {hh : List (Nat × Nat × Nat × Nat)}
    (hown : s.vm.findClass own = some m.cls) (hlink : (Cond.methodLink own index y).before args s = true) (hinst : (Cond.instanceMethod y).before args s = true) (hsel : (Cond.selects C y y).before args s = true)
    (hcode : (Cond.codeWith y bytes maxL ret hh).before args s = true) (hy : y.cls ≠ "java/lang/invoke/MethodHandle" ∧ y.cls ≠ "java/lang/invoke/VarHandle")
    {W9 : Nat} {Pre : Pt → Array Value → Prop} {Post : Pt → Array Value → Option Value → Pt → Prop} {PostX : Pt → Array Value → Addr → Pt → Prop} (hK : vx_Back l R p e below s args y 3 W9 Pre Post PostX)
    {b : Addr} {cellB : Cell} (hcell : T.heap[b]? = some cellB) (hobj : cellB.vm.isStatics = false) (hcls : s.vm.findClass C = some cellB.cls)
    {g : JFrame} (hg : g.method = m) (hsize : g.locals.size = c.maxLocals) {argsL rest : List Value} (hlen : ∀ sig, parseMethodDescriptor y.desc = some sig → argsL.length = sig.parameters.length)
    (hstack : g.stack = argsL.reverse ++ .ref b :: rest) (hW : 2 * g.monitorRoom + (rest.map fun v => v.category).sum ≤ W9) (hdg : decode c.code g.pc = .ok (.invokevirtual index, 3))
    (hpre : ∀ vm₁, s.WarmedH vm₁ → Pre ⟨T.setVm vm₁, locs, cells, slots⟩ (Value.ref b :: argsL).toArray) :
    (∃ (v : Option Value) (vm₁ : Vm) (B : Pt), s.WarmedH vm₁ ∧ Stand p l e R s m args below meth c B.U B.locs B.cells B.slots ∧ Post ⟨T.setVm vm₁, locs, cells, slots⟩ (Value.ref b :: argsL).toArray v B ∧
      ∀ target, Steps p.tables e below (B.U.setTop { g with pc := g.pc + 3, stack := v.toList ++ rest }) target → Steps p.tables e below (T.setTop g) target) ∨
    (∃ (q : Addr) (vm₁ : Vm) (B : Pt), s.WarmedH vm₁ ∧ Stand p l e R s m args below meth c B.U B.locs B.cells B.slots ∧ PostX ⟨T.setVm vm₁, locs, cells, slots⟩ (Value.ref b :: argsL).toArray q B ∧
      Steps p.tables e below (T.setTop g) ((B.U.setTop { g with stack := rest }).pushFrame (.throwing q))) := by
  obtain ⟨mk, methM, hnamed, hmethM, hstM, habM⟩ := Cond.instanceMethod_spec hinst
  obtain ⟨m8, methM', cM, hn8, hmethM', -, -, -, -, -, -, hsigM⟩ := Cond.codeWith_spec hcode
  cases Option.some.inj (hn8.symm.trans hnamed)
  cases hmethM.symm.trans hmethM'
  obtain ⟨c2, r2, m2, q1, q2, q3, q4, kP, hkP, hkPi⟩ := Cond.selects_spec hsel
  cases hcls.symm.trans q1
  cases (State.methodFound?_of_named hnamed hy).symm.trans q2
  cases hnamed.symm.trans q3
  have hselP : selectMethod e.platform s.vm cellB.cls mk = .method mk := by rw [Launch.admits_selectMethod X.admits]; exact q4
  obtain ⟨vm₁, X₁, hstep₁⟩ := X.invokevirtual hexec hown hlink hnamed hmethM hstM hkP hkPi hy (a := b) (cell := cellB) hcell
    (fun z h => by rw [h] at hobj; cases hobj) hselP hmethM habM hkP hkPi (g := g) hg (argsL := argsL) (rest := rest) (hlen _ hsigM) hstack hdg
  rcases hK m meth c ⟨T.setVm vm₁, locs, cells, slots⟩ { g with stack := rest } (.invokevirtual index) mk (Value.ref b :: argsL).toArray X₁ hg hsize hdg hW (X₁.named hnamed) (hpre vm₁ X₁.warmed) with ⟨v, B, X', hpost, hsteps⟩ | ⟨q, B, X', hpost, hsteps⟩
  · exact Or.inl ⟨v, vm₁, B, X₁.warmed, X', hpost, fun target h => hstep₁ _ fun acts => by rw [doInvoke_state]; exact hsteps.trans h⟩
  · exact Or.inr ⟨q, vm₁, B, X₁.warmed, X', hpost, hstep₁ _ fun acts => by rw [doInvoke_state]; exact hsteps⟩
theorem vx_callSX (X : Stand p l e R s m args below meth c T locs cells slots) (hexec : p.tables.exec = Jvm.exec) {own : String} {index : Nat} {y : MethodName} {bytes : ByteArray} {maxL : Nat} {ret : Option FieldType} {hh : List (Nat × Nat × Nat × Nat)}
    (hown : s.vm.findClass own = some m.cls) (hlink : (Cond.methodLink own index y).before args s = true) (hstat : (Cond.static y).before args s = true) (hinit : (Cond.initialized y.cls).before args s = true)
    (hcode : (Cond.codeWith y bytes maxL ret hh).before args s = true) (hy : y.cls ≠ "java/lang/invoke/MethodHandle" ∧ y.cls ≠ "java/lang/invoke/VarHandle")
    {W9 : Nat} {Pre : Pt → Array Value → Prop} {Post : Pt → Array Value → Option Value → Pt → Prop} {PostX : Pt → Array Value → Addr → Pt → Prop} (hK : vx_Back l R p e below s args y 3 W9 Pre Post PostX)
    {g : JFrame} (hg : g.method = m) (hsize : g.locals.size = c.maxLocals) {argsL rest : List Value} (hlen : ∀ sig, parseMethodDescriptor y.desc = some sig → argsL.length = sig.parameters.length)
    (hstack : g.stack = argsL.reverse ++ rest) (hW : 2 * g.monitorRoom + (rest.map fun v => v.category).sum ≤ W9) (hdg : decode c.code g.pc = .ok (.invokestatic index, 3))
    (hpre : ∀ vm₁, s.WarmedH vm₁ → Pre ⟨T.setVm vm₁, locs, cells, slots⟩ argsL.toArray) :
    (∃ (v : Option Value) (vm₁ : Vm) (B : Pt), s.WarmedH vm₁ ∧ Stand p l e R s m args below meth c B.U B.locs B.cells B.slots ∧ Post ⟨T.setVm vm₁, locs, cells, slots⟩ argsL.toArray v B ∧
      ∀ target, Steps p.tables e below (B.U.setTop { g with pc := g.pc + 3, stack := v.toList ++ rest }) target → Steps p.tables e below (T.setTop g) target) ∨
    (∃ (q : Addr) (vm₁ : Vm) (B : Pt), s.WarmedH vm₁ ∧ Stand p l e R s m args below meth c B.U B.locs B.cells B.slots ∧ PostX ⟨T.setVm vm₁, locs, cells, slots⟩ argsL.toArray q B ∧
      Steps p.tables e below (T.setTop g) ((B.U.setTop { g with stack := rest }).pushFrame (.throwing q))) := by
  obtain ⟨mk, methM, cM, hnamed, hmethM, -, -, -, -, -, -, hsigM⟩ := Cond.codeWith_spec hcode
  have hstatic : methM.isStatic = true := Cond.static_spec hnamed hmethM hstat
  obtain ⟨kP, hkP, -⟩ := className_of_methodNamed hnamed
  have hinitP : kP.init = .initialized := Cond.initialized_spec (findClass_of_methodNamed hnamed) hkP hinit
  obtain ⟨vm₁, X₁, hstep₁⟩ := X.invokestatic hexec hown hlink hnamed hmethM hstatic hkP hinitP hy (g := g) hg (argsL := argsL) (rest := rest) (hlen _ hsigM) hstack hdg
  rcases hK m meth c ⟨T.setVm vm₁, locs, cells, slots⟩ { g with stack := rest } (.invokestatic index) mk argsL.toArray X₁ hg hsize hdg hW (X₁.named hnamed) (hpre vm₁ X₁.warmed) with ⟨v, B, X', hpost, hsteps⟩ | ⟨q, B, X', hpost, hsteps⟩
  · exact Or.inl ⟨v, vm₁, B, X₁.warmed, X', hpost, fun target h => hstep₁ _ fun acts => by rw [doInvoke_state]; exact hsteps.trans h⟩
  · exact Or.inr ⟨q, vm₁, B, X₁.warmed, X', hpost, hstep₁ _ fun acts => by rw [doInvoke_state]; exact hsteps⟩
theorem vx_callVW (X : Stand p l e R s m args below meth c T locs cells slots) (hexec : p.tables.exec = Jvm.exec) {own C : String} {index : Nat} {y : MethodName} {bytes : ByteArray} {maxL : Nat} {ret : Option FieldType} {hh : List (Nat × Nat × Nat × Nat)}
    (hown : s.vm.findClass own = some m.cls) (hlink : (Cond.methodLink own index y).before args s = true) (hinst : (Cond.instanceMethod y).before args s = true) (hsel : (Cond.selects C y y).before args s = true)
    (hcode : (Cond.codeWith y bytes maxL ret hh).before args s = true) (hy : y.cls ≠ "java/lang/invoke/MethodHandle" ∧ y.cls ≠ "java/lang/invoke/VarHandle")
    {W9 : Nat} {Pre : Pt → Array Value → Prop} {Post : Pt → Array Value → Option Value → Pt → Prop} (hK : Back l R p e below s args y 3 W9 Pre Post)
    {b : Addr} {cellB : Cell} (hcell : T.heap[b]? = some cellB) (hobj : cellB.vm.isStatics = false) (hcls : s.vm.findClass C = some cellB.cls)
    {g : JFrame} (hg : g.method = m) (hsize : g.locals.size = c.maxLocals) {argsL rest : List Value} (hlen : ∀ sig, parseMethodDescriptor y.desc = some sig → argsL.length = sig.parameters.length)
    (hstack : g.stack = argsL.reverse ++ .ref b :: rest) (hW : 2 * g.monitorRoom + (rest.map fun v => v.category).sum ≤ W9) (hdg : decode c.code g.pc = .ok (.invokevirtual index, 3))
    (hpre : ∀ vm₁, s.WarmedH vm₁ → Pre ⟨T.setVm vm₁, locs, cells, slots⟩ (Value.ref b :: argsL).toArray) :
    ∃ (v : Option Value) (vm₁ : Vm) (B : Pt), s.WarmedH vm₁ ∧ Stand p l e R s m args below meth c B.U B.locs B.cells B.slots ∧ Post ⟨T.setVm vm₁, locs, cells, slots⟩ (Value.ref b :: argsL).toArray v B ∧
      ∀ target, Steps p.tables e below (B.U.setTop { g with pc := g.pc + 3, stack := v.toList ++ rest }) target → Steps p.tables e below (T.setTop g) target := by
  obtain ⟨mk, methM, hnamed, hmethM, hstM, habM⟩ := Cond.instanceMethod_spec hinst
  obtain ⟨m8, methM', cM, hn8, hmethM', -, -, -, -, -, -, hsigM⟩ := Cond.codeWith_spec hcode
  cases Option.some.inj (hn8.symm.trans hnamed)
  cases hmethM.symm.trans hmethM'
  obtain ⟨c2, r2, m2, q1, q2, q3, q4, kP, hkP, hkPi⟩ := Cond.selects_spec hsel
  cases hcls.symm.trans q1
  cases (State.methodFound?_of_named hnamed hy).symm.trans q2
  cases hnamed.symm.trans q3
  have hselP : selectMethod e.platform s.vm cellB.cls mk = .method mk := by rw [Launch.admits_selectMethod X.admits]; exact q4
  obtain ⟨vm₁, X₁, hstep₁⟩ := X.invokevirtual hexec hown hlink hnamed hmethM hstM hkP hkPi hy (a := b) (cell := cellB) hcell
    (fun z h => by rw [h] at hobj; cases hobj) hselP hmethM habM hkP hkPi (g := g) hg (argsL := argsL) (rest := rest) (hlen _ hsigM) hstack hdg
  obtain ⟨v, B, X', hpost, hsteps⟩ := hK m meth c ⟨T.setVm vm₁, locs, cells, slots⟩ { g with stack := rest } (.invokevirtual index) mk (Value.ref b :: argsL).toArray X₁ hg hsize hdg hW (X₁.named hnamed) (hpre vm₁ X₁.warmed)
  exact ⟨v, vm₁, B, X₁.warmed, X', hpost, fun target h => hstep₁ _ fun acts => by rw [doInvoke_state]; exact hsteps.trans h⟩
abbrev vx_CVW (R : Room) (s : State) (args : Array Value) (own C : String) (index : Nat) (y : MethodName) (bytes : ByteArray) (maxL : Nat) (ret : Option FieldType) (hh : List (Nat × Nat × Nat × Nat)) (ws : List Cond) (rm : Room) (mc ms n : Nat) : Prop :=
  (rm.cells = mc ∧ rm.slots = ms ∧ rm.frames + 1 ≤ R.frames ∧ 8 + (maxL + 11) + rm.locals ≤ R.locals ∧ (∀ w ∈ ws, ∀ (a' : Array Value) (U : State), s.WarmedH U.vm → w.before a' U = true) ∧ Cond.codeWith y bytes maxL ret hh ∈ ws) ∧
  (Cond.codeWith y bytes maxL ret hh).before args s = true ∧ (Cond.initialized y.cls).before args s = true ∧ (y.cls ≠ "java/lang/invoke/MethodHandle" ∧ y.cls ≠ "java/lang/invoke/VarHandle") ∧
  (∀ sig, parseMethodDescriptor y.desc = some sig → n = sig.parameters.length) ∧ (Cond.methodLink own index y).before args s = true ∧ (Cond.instanceMethod y).before args s = true ∧ (Cond.selects C y y).before args s = true
theorem vx_cwVW {own C : String} {index maxL mc ms : Nat} {y : MethodName} {bytes : ByteArray} {ret : Option FieldType} {hh : List (Nat × Nat × Nat × Nat)} {Ts ws ws' : List Cond} {rm : Room} (n : Nat) (ht : ∀ w ∈ Ts, w.before args s = true) (hT : GoodIn Ts (wsV own index C y ws)) (hw : ws = Cond.codeWith y bytes maxL ret hh :: ws') (hrc : rm.cells = mc) (hrs : rm.slots = ms)
    (hd : y.cls = C ∧ y.cls ≠ "java/lang/invoke/MethodHandle" ∧ y.cls ≠ "java/lang/invoke/VarHandle" ∧ (parseMethodDescriptor y.desc).map (fun d => d.parameters.length) = some n) (hR : rm.frames + 1 ≤ R.frames ∧ 8 + (maxL + 11) + rm.locals ≤ R.locals) :
    vx_CVW R s args own C index y bytes maxL ret hh ws rm mc ms n := by
  obtain ⟨hC, hd⟩ := hd
  subst hC
  have ok : ∀ w ∈ wsV own index y.cls y ws, w.before args s = true := fun w h => ht w (hT w h).1
  have hG : GoodIn Ts ws := fun w h => hT w (by unfold wsV; exact List.mem_append_right _ h)
  have hc : Cond.codeWith y bytes maxL ret hh ∈ ws := by rw [hw]; exact List.mem_cons_self
  refine ⟨⟨hrc, hrs, hR.1, hR.2, pay_in ht hG, hc⟩, ht _ (hG _ hc).1, ok _ (by simp [wsV]), ⟨hd.1, hd.2.1⟩, fun sig h => ?_, ok _ (by simp [wsV]), ok _ (by simp [wsV]), ok _ (by simp [wsV])⟩
  have h2 := hd.2.2
  rw [h] at h2
  exact (Option.some.inj h2).symm
theorem vx_runVW {y : MethodName} {bytes cc : ByteArray} {maxL nL mc ms n index : Nat} {ret : Option FieldType} {hh : List (Nat × Nat × Nat × Nat)} {ws : List Cond} {rm : Room} {Pc : Array Value → State → Prop} {Qc : Array Value → State → Outcome → State → Prop} {free : Addr → Prop} {Ts : List Cond} {own C : String} {b : Addr} {As rest : List Value} {g : JFrame}
    (S : CallFix p m c cc nL s args Ts own) (hM : Met l y ws rm Pc Qc mc ms free) (cw : vx_CVW R s args own C index y bytes maxL ret hh ws rm mc ms n) (hp : PreV s H C b Pc As)
    (hg : g.method = m) (hn : As.length = n) (hsize : g.locals.size = nL) (hstack : g.stack = As.reverse ++ .ref b :: rest) (hW : 2 * g.monitorRoom + (rest.map fun v => v.category).sum ≤ 8) (hdg : decode cc g.pc = .ok (.invokevirtual index, 3)) (hf : cells + mc ≤ R.cells ∧ slots + ms ≤ R.slots) :
    va_Run p l e R s m args below meth c H locs cells slots mc ms g rest (Qc (Value.ref b :: As).toArray) free := by
  obtain ⟨⟨hrc, hrs, hfr, hlo, hws, hcw⟩, hcode, hini, hy, hlen, hl, hin, hse⟩ := cw
  have hK : Back l R p e below s args y 3 8 (PreOf R mc ms Pc) (PostOf Qc mc ms free) := va_backW (hh := hh) (bytes := bytes) (maxL := maxL) (ret := ret) hM hp.1 hrc hrs hfr hlo hws hcw (fun a' U hW => word_at hW (Or.inl (by first | rfl | simp [Cond.onTables, Cond.keeps, Cond.steady])) hini)
  obtain ⟨hx, hb, hml, ho, -⟩ := S
  obtain ⟨-, ⟨cellB, hcB, hoB, hclB⟩, hPc⟩ := hp
  intro T hT X
  obtain ⟨v, vm₁, ⟨U', l2, c2, s2⟩, hW₁, X', ⟨g', mk, t, L, e1, e2, hq, h1, hL, h2, h3⟩, st⟩ := vx_callVW X hx (C := C) (hh := hh) (bytes := bytes) (maxL := maxL) (ret := ret) ho hl hin hse hcode hy hK (by rw [hT]; exact hcB) hoB hclB hg (hsize.trans hml.symm) (argsL := As) (rest := rest) (fun sig h => hn.trans (hlen sig h)) hstack hW (by rw [hb]; exact hdg)
    (fun vm₁ hW₁ => ⟨hf.1, hf.2, hPc (T.setVm vm₁) hT hW₁⟩)
  dsimp only [Pt.U, Pt.locs, Pt.cells, Pt.slots] at X' e1 e2 h1 h2 h3 st
  subst h1; subst h2; subst h3
  exact ⟨v, (T.setVm vm₁).calling g' mk (Value.ref b :: As).toArray, t, U', L, hT, X', hL, e1, e2, hq, st⟩
section
variable {y : MethodName} {bytes cc : ByteArray} {maxL nL mc ms n index : Nat} {ret : Option FieldType} {ws : List Cond} {rm : Room} {Pc : Array Value → State → Prop} {Qc : Array Value → State → Outcome → State → Prop} {XC : String → State → State → Prop} {free : Addr → Prop} {Ts : List Cond} {own C : String} {b : Addr} {As rest : List Value} {g : JFrame}
theorem vx_runVX {hh : List (Nat × Nat × Nat × Nat)} (S : CallFix p m c cc nL s args Ts own) (hM : vx_Met l y ws rm Pc Qc XC mc ms free) (cw : vx_CVW R s args own C index y bytes maxL ret hh ws rm mc ms n) (hp : PreV s H C b Pc As)
    (hg : g.method = m) (hn : As.length = n) (hsize : g.locals.size = nL) (hstack : g.stack = As.reverse ++ .ref b :: rest) (hW : 2 * g.monitorRoom + (rest.map fun v => v.category).sum ≤ 8) (hdg : decode cc g.pc = .ok (.invokevirtual index, 3)) (hf : cells + mc ≤ R.cells ∧ slots + ms ≤ R.slots) :
    vx_Run p l e R s m args below meth c H locs cells slots mc ms g rest (Qc (Value.ref b :: As).toArray) XC free := by
  obtain ⟨⟨hrc, hrs, hfr, hlo, hws, hcw⟩, hcode, hini, hy, hlen, hl, hin, hse⟩ := cw
  have hK : vx_Back l R p e below s args y 3 8 (PreOf R mc ms Pc) (PostOf Qc mc ms free) (vx_Post XC mc ms free) := vx_backW (hh := hh) (bytes := bytes) (maxL := maxL) (ret := ret) hM hp.1 hrc hrs hfr hlo hws hcw (fun a' U hW => word_at hW (Or.inl (by first | rfl | simp [Cond.onTables, Cond.keeps, Cond.steady])) hini)
  obtain ⟨hx, hb, hml, ho, -⟩ := S
  obtain ⟨-, ⟨cellB, hcB, hoB, hclB⟩, hPc⟩ := hp
  intro T hT X
  rcases vx_callVX X hx (C := C) (hh := hh) (bytes := bytes) (maxL := maxL) (ret := ret) ho hl hin hse hcode hy hK (by rw [hT]; exact hcB) hoB hclB hg (hsize.trans hml.symm) (argsL := As) (rest := rest) (fun sig h => hn.trans (hlen sig h)) hstack hW (by rw [hb]; exact hdg)
    (fun vm₁ hW₁ => ⟨hf.1, hf.2, hPc (T.setVm vm₁) hT hW₁⟩) with ⟨v, vm₁, ⟨U', l2, c2, s2⟩, hW₁, X', ⟨g', mk, t, L, e1, e2, hq, h1, hL, h2, h3⟩, st⟩ | ⟨q, vm₁, ⟨U', l2, c2, s2⟩, hW₁, X', ⟨g', mk, t, L, E, ce, e1, e2, hq, hce, hcv, hcl, h1, hL, h2, h3⟩, st⟩
  · dsimp only [Pt.U, Pt.locs, Pt.cells, Pt.slots] at X' e1 e2 h1 h2 h3 st
    subst h1; subst h2; subst h3
    exact Or.inl ⟨v, (T.setVm vm₁).calling g' mk (Value.ref b :: As).toArray, t, U', L, hT, X', hL, e1, e2, hq, st⟩
  · dsimp only [Pt.U, Pt.locs, Pt.cells, Pt.slots] at X' e1 e2 h1 h2 h3 st hcl
    subst h1; subst h2; subst h3
    exact Or.inr ⟨q, (T.setVm vm₁).calling g' mk (Value.ref b :: As).toArray, t, U', L, E, ce, hT, X', hL, e1, e2, hq, hce, hcv, vx_cls hW₁ hcl, st⟩
theorem vx_runSX {hh : List (Nat × Nat × Nat × Nat)} (S : CallFix p m c cc nL s args Ts own) (hM : vx_Met l y ws rm Pc Qc XC mc ms free) (cw : vx_CSW R s args own index y bytes maxL ret hh ws rm mc ms n) (hp : PreS s H Pc As)
    (hg : g.method = m) (hn : As.length = n) (hsize : g.locals.size = nL) (hstack : g.stack = As.reverse ++ rest) (hW : 2 * g.monitorRoom + (rest.map fun v => v.category).sum ≤ 8) (hdg : decode cc g.pc = .ok (.invokestatic index, 3)) (hf : cells + mc ≤ R.cells ∧ slots + ms ≤ R.slots) :
    vx_Run p l e R s m args below meth c H locs cells slots mc ms g rest (Qc As.toArray) XC free := by
  obtain ⟨⟨hrc, hrs, hfr, hlo, hws, hcw⟩, hcode, hini, hy, hlen, hl, hstt⟩ := cw
  have hK : vx_Back l R p e below s args y 3 8 (PreOf R mc ms Pc) (PostOf Qc mc ms free) (vx_Post XC mc ms free) := vx_backW (hh := hh) (bytes := bytes) (maxL := maxL) (ret := ret) hM hp.1 hrc hrs hfr hlo hws hcw (fun a' U hW => word_at hW (Or.inl (by first | rfl | simp [Cond.onTables, Cond.keeps, Cond.steady])) hini)
  obtain ⟨hx, hb, hml, ho, -⟩ := S
  intro T hT X
  rcases vx_callSX X hx (hh := hh) (bytes := bytes) (maxL := maxL) (ret := ret) ho hl hstt hini hcode hy hK hg (hsize.trans hml.symm) (argsL := As) (rest := rest) (fun sig h => hn.trans (hlen sig h)) hstack hW (by rw [hb]; exact hdg)
    (fun vm₁ hW₁ => ⟨hf.1, hf.2, hp.2 (T.setVm vm₁) hT hW₁⟩) with ⟨v, vm₁, ⟨U', l2, c2, s2⟩, hW₁, X', ⟨g', mk, t, L, e1, e2, hq, h1, hL, h2, h3⟩, st⟩ | ⟨q, vm₁, ⟨U', l2, c2, s2⟩, hW₁, X', ⟨g', mk, t, L, E, ce, e1, e2, hq, hce, hcv, hcl, h1, hL, h2, h3⟩, st⟩
  · dsimp only [Pt.U, Pt.locs, Pt.cells, Pt.slots] at X' e1 e2 h1 h2 h3 st
    subst h1; subst h2; subst h3
    exact Or.inl ⟨v, (T.setVm vm₁).calling g' mk As.toArray, t, U', L, hT, X', hL, e1, e2, hq, st⟩
  · dsimp only [Pt.U, Pt.locs, Pt.cells, Pt.slots] at X' e1 e2 h1 h2 h3 st hcl
    subst h1; subst h2; subst h3
    exact Or.inr ⟨q, (T.setVm vm₁).calling g' mk As.toArray, t, U', L, E, ce, hT, X', hL, e1, e2, hq, hce, hcv, vx_cls hW₁ hcl, st⟩
end
end VXH
theorem vx_ofWH {l : Launch} {y : MethodName} {ws ws' : List Cond} {rm : Room} {Pc : Array Value → State → Prop} {Qc : Array Value → State → Outcome → State → Prop} {XC : String → State → State → Prop} {mc ms : Nat} {free : Addr → Prop} {cc : ByteArray} {maxL : Nat} {ret : Option FieldType} {hh : List (Nat × Nat × Nat × Nat)}
    (hy : plainName y.cls = true) (hw : ws = Cond.codeWith y cc maxL ret hh :: ws')
    (body : ∀ p e s m args below meth c s₁, BodyLoose p l y (headSpec ws rm) cc maxL ret e s m args below meth c s₁ → c.maxLocals = maxL → Pc args s →
      W p l e (headSpec ws rm).room s m args below meth c s.heap [] 0 0 (vx_MQ below Qc XC args s mc ms free) (entryFrame m args maxL)) : vx_Met l y ws rm Pc Qc XC mc ms free := by
  refine MetFree.of_bodyS (code := cc) (maxLocals := maxL) (ret := ret) hy ?_ ?_
  · intro args s m h hn
    obtain ⟨m9, meth, c, hn9, h1, h2, h3, h4, -, h5, h6, -⟩ := Cond.codeWith_spec (atoms_spec (ws := ws) h _ (by rw [hw]; exact List.mem_cons_self))
    cases hn.symm.trans hn9
    exact ⟨meth, c, h1, h2, h3, h4, h5, h6⟩
  · intro p e s m args below meth c s₁ B hml hP _
    have hh0 : s₁.heap = s.heap := by rw [B.state]; rfl
    obtain ⟨t, a1, o, b1, b2, b3⟩ := body p e s m args below meth c s₁ B hml hP s₁ hh0 (Stand.of_body B)
    exact ⟨t, o, a1, b1, b2, b3⟩
/-! ===== END ===== -/
end
section
/-! names: classes, fields, codes (printed names, without word lists) -/
def RX0 : String := "PostRoad$History"
def TX0 : u_T := fun k => match k with
  | 0 => ("PostRoad$History", "states", "[LPostRoad$Road;", true)
  | _ => ("PostRoad$History", "count", "I", false)
def tyX0 : Nat → FieldType := fun k => match k with
  | 0 => .array (.object "PostRoad$Road")
  | _ => .int
theorem nmX0 : ∀ a, a < 2 → ∀ b, b < 2 → a ≠ b → (TX0 a).2.1 ≠ (TX0 b).2.1 := by decide +kernel
theorem tyX0_ok : ∀ k, k < 2 → parseFieldDescriptor (TX0 k).2.2.1 = some (tyX0 k) := by decide +kernel
abbrev cX0_init : ByteArray := prog_2_method_1_code
def yX0_init : MethodName := ⟨RX0, "<init>", "()V"⟩
abbrev cX0_save : ByteArray := prog_2_method_2_code
def yX0_save : MethodName := ⟨RX0, "save", "(LPostRoad$Road;)V"⟩
abbrev cX0_dropOldest : ByteArray := prog_2_method_3_code
def yX0_dropOldest : MethodName := ⟨RX0, "dropOldest", "()V"⟩
abbrev cX0_restore : ByteArray := prog_2_method_4_code
def yX0_restore : MethodName := ⟨RX0, "restore", "(LPostRoad$Road;)V"⟩
def RX1 : String := "PostRoad$Inn"
def TX1 : u_T := fun k => match k with
  | 0 => ("PostRoad$Inn", "beds", "I", false)
  | 1 => ("PostRoad$Inn", "fodder", "I", false)
  | _ => ("PostRoad$Inn", "shut", "Z", false)
def tyX1 : Nat → FieldType := fun k => match k with
  | 0 => .int
  | 1 => .int
  | _ => .boolean
theorem nmX1 : ∀ a, a < 3 → ∀ b, b < 3 → a ≠ b → (TX1 a).2.1 ≠ (TX1 b).2.1 := by decide +kernel
theorem tyX1_ok : ∀ k, k < 3 → parseFieldDescriptor (TX1 k).2.2.1 = some (tyX1 k) := by decide +kernel
abbrev cX1_init : ByteArray := prog_3_method_1_code
def yX1_init : MethodName := ⟨RX1, "<init>", "()V"⟩
abbrev cX1_set : ByteArray := prog_3_method_2_code
def yX1_set : MethodName := ⟨RX1, "set", "(IIZ)V"⟩
abbrev cX1_copyFrom : ByteArray := prog_3_method_3_code
def yX1_copyFrom : MethodName := ⟨RX1, "copyFrom", "(LPostRoad$Inn;)V"⟩
def RX2 : String := "PostRoad$Letter"
def TX2 : u_T := fun k => match k with
  | 0 => ("PostRoad$Letter", "from", "I", false)
  | 1 => ("PostRoad$Letter", "to", "I", false)
  | 2 => ("PostRoad$Letter", "express", "Z", false)
  | 3 => ("PostRoad$Letter", "givenAt", "I", false)
  | 4 => ("PostRoad$Letter", "inn", "I", false)
  | 5 => ("PostRoad$Letter", "team", "I", false)
  | 6 => ("PostRoad$Letter", "deliveredAt", "I", false)
  | _ => ("PostRoad$Letter", "starts", "I", false)
def tyX2 : Nat → FieldType := fun k => match k with
  | 0 => .int
  | 1 => .int
  | 2 => .boolean
  | 3 => .int
  | 4 => .int
  | 5 => .int
  | 6 => .int
  | _ => .int
theorem nmX2 : ∀ a, a < 8 → ∀ b, b < 8 → a ≠ b → (TX2 a).2.1 ≠ (TX2 b).2.1 := by decide +kernel
theorem tyX2_ok : ∀ k, k < 8 → parseFieldDescriptor (TX2 k).2.2.1 = some (tyX2 k) := by decide +kernel
abbrev cX2_init : ByteArray := prog_4_method_1_code
def yX2_init : MethodName := ⟨RX2, "<init>", "()V"⟩
abbrev cX2_begin : ByteArray := prog_4_method_2_code
def yX2_begin : MethodName := ⟨RX2, "begin", "(IIZI)V"⟩
abbrev cX2_copyFrom : ByteArray := prog_4_method_3_code
def yX2_copyFrom : MethodName := ⟨RX2, "copyFrom", "(LPostRoad$Letter;)V"⟩
abbrev cX2_isDelivered : ByteArray := prog_4_method_4_code
def yX2_isDelivered : MethodName := ⟨RX2, "isDelivered", "()Z"⟩
abbrev cX2_isOnStage : ByteArray := prog_4_method_5_code
def yX2_isOnStage : MethodName := ⟨RX2, "isOnStage", "()Z"⟩
abbrev cX2_liesAtAnInn : ByteArray := prog_4_method_6_code
def yX2_liesAtAnInn : MethodName := ⟨RX2, "liesAtAnInn", "()Z"⟩
abbrev cX2_about : ByteArray := prog_4_method_7_code
def yX2_about : MethodName := ⟨RX2, "about", "(I)I"⟩
def RX3 : String := "PostRoad$Road"
def TX3 : u_T := fun k => match k with
  | 0 => ("PostRoad$Road", "stages", "[LPostRoad$Stage;", true)
  | 1 => ("PostRoad$Road", "innRows", "[LPostRoad$Inn;", true)
  | 2 => ("PostRoad$Road", "teamRows", "[LPostRoad$Team;", true)
  | 3 => ("PostRoad$Road", "letterRows", "[LPostRoad$Letter;", true)
  | 4 => ("PostRoad$Road", "inns", "I", false)
  | 5 => ("PostRoad$Road", "teams", "I", false)
  | 6 => ("PostRoad$Road", "letters", "I", false)
  | 7 => ("PostRoad$Road", "hour", "I", false)
  | 8 => ("PostRoad$Road", "delivered", "I", false)
  | 9 => ("PostRoad$Road", "deliveredHours", "I", false)
  | 10 => ("PostRoad$Road", "expressDelivered", "I", false)
  | 11 => ("PostRoad$Road", "expressHours", "I", false)
  | _ => ("PostRoad$Road", "fodderEaten", "I", false)
def tyX3 : Nat → FieldType := fun k => match k with
  | 0 => .array (.object "PostRoad$Stage")
  | 1 => .array (.object "PostRoad$Inn")
  | 2 => .array (.object "PostRoad$Team")
  | 3 => .array (.object "PostRoad$Letter")
  | 4 => .int
  | 5 => .int
  | 6 => .int
  | 7 => .int
  | 8 => .int
  | 9 => .int
  | 10 => .int
  | 11 => .int
  | _ => .int
theorem nmX3 : ∀ a, a < 13 → ∀ b, b < 13 → a ≠ b → (TX3 a).2.1 ≠ (TX3 b).2.1 := by decide +kernel
theorem tyX3_ok : ∀ k, k < 13 → parseFieldDescriptor (TX3 k).2.2.1 = some (tyX3 k) := by decide +kernel
abbrev cX3_init : ByteArray := prog_5_method_1_code
def yX3_init : MethodName := ⟨RX3, "<init>", "()V"⟩
abbrev cX3_restart : ByteArray := prog_5_method_2_code
def yX3_restart : MethodName := ⟨RX3, "restart", "()V"⟩
abbrev cX3_copyFrom : ByteArray := prog_5_method_3_code
def yX3_copyFrom : MethodName := ⟨RX3, "copyFrom", "(LPostRoad$Road;)V"⟩
abbrev cX3_placeTeam : ByteArray := prog_5_method_4_code
def yX3_placeTeam : MethodName := ⟨RX3, "placeTeam", "(II)I"⟩
abbrev cX3_placeLetter : ByteArray := prog_5_method_5_code
def yX3_placeLetter : MethodName := ⟨RX3, "placeLetter", "(IIZ)I"⟩
abbrev cX3_takeDelivered : ByteArray := prog_5_method_6_code
def yX3_takeDelivered : MethodName := ⟨RX3, "takeDelivered", "()I"⟩
abbrev cX3_passHour : ByteArray := prog_5_method_7_code
def yX3_passHour : MethodName := ⟨RX3, "passHour", "()V"⟩
abbrev cX3_restTeams : ByteArray := prog_5_method_8_code
def yX3_restTeams : MethodName := ⟨RX3, "restTeams", "()V"⟩
abbrev cX3_restTeam : ByteArray := prog_5_method_9_code
def yX3_restTeam : MethodName := ⟨RX3, "restTeam", "(LPostRoad$Team;)V"⟩
abbrev cX3_moveTeams : ByteArray := prog_5_method_10_code
def yX3_moveTeams : MethodName := ⟨RX3, "moveTeams", "()V"⟩
abbrev cX3_arrive : ByteArray := prog_5_method_11_code
def yX3_arrive : MethodName := ⟨RX3, "arrive", "(LPostRoad$Team;)V"⟩
abbrev cX3_putDown : ByteArray := prog_5_method_12_code
def yX3_putDown : MethodName := ⟨RX3, "putDown", "(LPostRoad$Letter;)V"⟩
abbrev cX3_deliver : ByteArray := prog_5_method_13_code
def yX3_deliver : MethodName := ⟨RX3, "deliver", "(LPostRoad$Letter;)V"⟩
abbrev cX3_sendLetters : ByteArray := prog_5_method_14_code
def yX3_sendLetters : MethodName := ⟨RX3, "sendLetters", "(Z)V"⟩
abbrev cX3_sendLetter : ByteArray := prog_5_method_15_code
def yX3_sendLetter : MethodName := ⟨RX3, "sendLetter", "(I)V"⟩
abbrev cX3_hindrance : ByteArray := prog_5_method_16_code
def yX3_hindrance : MethodName := ⟨RX3, "hindrance", "(I)I"⟩
abbrev cX3_fittestTeamAt : ByteArray := prog_5_method_17_code
def yX3_fittestTeamAt : MethodName := ⟨RX3, "fittestTeamAt", "(I)I"⟩
abbrev cX3_sendTeamsBack : ByteArray := prog_5_method_18_code
def yX3_sendTeamsBack : MethodName := ⟨RX3, "sendTeamsBack", "()V"⟩
abbrev cX3_sendBack : ByteArray := prog_5_method_19_code
def yX3_sendBack : MethodName := ⟨RX3, "sendBack", "(LPostRoad$Team;)V"⟩
abbrev cX3_hoursUntilDelivered : ByteArray := prog_5_method_20_code
def yX3_hoursUntilDelivered : MethodName := ⟨RX3, "hoursUntilDelivered", "(I)I"⟩
abbrev cX3_hasCome : ByteArray := prog_5_method_21_code
def yX3_hasCome : MethodName := ⟨RX3, "hasCome", "(I)Z"⟩
abbrev cX3_allTeamsIdle : ByteArray := prog_5_method_22_code
def yX3_allTeamsIdle : MethodName := ⟨RX3, "allTeamsIdle", "()Z"⟩
abbrev cX3_hoursBetween : ByteArray := prog_5_method_23_code
def yX3_hoursBetween : MethodName := ⟨RX3, "hoursBetween", "(II)I"⟩
abbrev cX3_effortBetween : ByteArray := prog_5_method_24_code
def yX3_effortBetween : MethodName := ⟨RX3, "effortBetween", "(II)I"⟩
abbrev cX3_teamsOn : ByteArray := prog_5_method_25_code
def yX3_teamsOn : MethodName := ⟨RX3, "teamsOn", "(I)I"⟩
abbrev cX3_teamsAt : ByteArray := prog_5_method_26_code
def yX3_teamsAt : MethodName := ⟨RX3, "teamsAt", "(I)I"⟩
abbrev cX3_bedsTaken : ByteArray := prog_5_method_27_code
def yX3_bedsTaken : MethodName := ⟨RX3, "bedsTaken", "(I)I"⟩
abbrev cX3_freeBeds : ByteArray := prog_5_method_28_code
def yX3_freeBeds : MethodName := ⟨RX3, "freeBeds", "(I)I"⟩
abbrev cX3_lettersAt : ByteArray := prog_5_method_29_code
def yX3_lettersAt : MethodName := ⟨RX3, "lettersAt", "(I)I"⟩
abbrev cX3_lettersLying : ByteArray := prog_5_method_30_code
def yX3_lettersLying : MethodName := ⟨RX3, "lettersLying", "()I"⟩
abbrev cX3_lettersOnStages : ByteArray := prog_5_method_31_code
def yX3_lettersOnStages : MethodName := ⟨RX3, "lettersOnStages", "()I"⟩
abbrev cX3_aboutStage : ByteArray := prog_5_method_32_code
def yX3_aboutStage : MethodName := ⟨RX3, "aboutStage", "(II)I"⟩
abbrev cX3_aboutInn : ByteArray := prog_5_method_33_code
def yX3_aboutInn : MethodName := ⟨RX3, "aboutInn", "(II)I"⟩
abbrev cX3_number : ByteArray := prog_5_method_34_code
def yX3_number : MethodName := ⟨RX3, "number", "(I)I"⟩
def RX4 : String := "PostRoad$RoadText"
def TX4 : u_T := fun k => match k with
  | 0 => ("PostRoad$RoadText", "bytes", "[B", true)
  | 1 => ("PostRoad$RoadText", "length", "I", false)
  | _ => ("PostRoad$RoadText", "at", "I", false)
def tyX4 : Nat → FieldType := fun k => match k with
  | 0 => .array .byte
  | 1 => .int
  | _ => .int
theorem nmX4 : ∀ a, a < 3 → ∀ b, b < 3 → a ≠ b → (TX4 a).2.1 ≠ (TX4 b).2.1 := by decide +kernel
theorem tyX4_ok : ∀ k, k < 3 → parseFieldDescriptor (TX4 k).2.2.1 = some (tyX4 k) := by decide +kernel
abbrev cX4_init : ByteArray := prog_6_method_1_code
def yX4_init : MethodName := ⟨RX4, "<init>", "()V"⟩
abbrev cX4_add : ByteArray := prog_6_method_2_code
def yX4_add : MethodName := ⟨RX4, "add", "(B)V"⟩
abbrev cX4_readInto : ByteArray := prog_6_method_3_code
def yX4_readInto : MethodName := ⟨RX4, "readInto", "(LPostRoad$Road;)I"⟩
abbrev cX4_readStage : ByteArray := prog_6_method_4_code
def yX4_readStage : MethodName := ⟨RX4, "readStage", "(LPostRoad$Stage;)Z"⟩
abbrev cX4_signStands : ByteArray := prog_6_method_5_code
def yX4_signStands : MethodName := ⟨RX4, "signStands", "(C)Z"⟩
abbrev cX4_digitStands : ByteArray := prog_6_method_6_code
def yX4_digitStands : MethodName := ⟨RX4, "digitStands", "(I)Z"⟩
abbrev cX4_takeDigit : ByteArray := prog_6_method_7_code
def yX4_takeDigit : MethodName := ⟨RX4, "takeDigit", "()I"⟩
def RX5 : String := "PostRoad$Stage"
def TX5 : u_T := fun k => match k with
  | 0 => ("PostRoad$Stage", "hours", "I", false)
  | 1 => ("PostRoad$Stage", "hill", "I", false)
  | _ => ("PostRoad$Stage", "blocked", "Z", false)
def tyX5 : Nat → FieldType := fun k => match k with
  | 0 => .int
  | 1 => .int
  | _ => .boolean
theorem nmX5 : ∀ a, a < 3 → ∀ b, b < 3 → a ≠ b → (TX5 a).2.1 ≠ (TX5 b).2.1 := by decide +kernel
theorem tyX5_ok : ∀ k, k < 3 → parseFieldDescriptor (TX5 k).2.2.1 = some (tyX5 k) := by decide +kernel
abbrev cX5_init : ByteArray := prog_7_method_1_code
def yX5_init : MethodName := ⟨RX5, "<init>", "()V"⟩
abbrev cX5_set : ByteArray := prog_7_method_2_code
def yX5_set : MethodName := ⟨RX5, "set", "(IIZ)V"⟩
abbrev cX5_copyFrom : ByteArray := prog_7_method_3_code
def yX5_copyFrom : MethodName := ⟨RX5, "copyFrom", "(LPostRoad$Stage;)V"⟩
abbrev cX5_effort : ByteArray := prog_7_method_4_code
def yX5_effort : MethodName := ⟨RX5, "effort", "(Z)I"⟩
def RX6 : String := "PostRoad$Team"
def TX6 : u_T := fun k => match k with
  | 0 => ("PostRoad$Team", "home", "I", false)
  | 1 => ("PostRoad$Team", "tiredness", "I", false)
  | 2 => ("PostRoad$Team", "inn", "I", false)
  | 3 => ("PostRoad$Team", "stage", "I", false)
  | 4 => ("PostRoad$Team", "away", "Z", false)
  | 5 => ("PostRoad$Team", "hoursLeft", "I", false)
  | 6 => ("PostRoad$Team", "letter", "I", false)
  | 7 => ("PostRoad$Team", "walksBack", "Z", false)
  | 8 => ("PostRoad$Team", "stagesRun", "I", false)
  | 9 => ("PostRoad$Team", "effortsRun", "I", false)
  | 10 => ("PostRoad$Team", "stagesWalked", "I", false)
  | _ => ("PostRoad$Team", "fodderEaten", "I", false)
def tyX6 : Nat → FieldType := fun k => match k with
  | 0 => .int
  | 1 => .int
  | 2 => .int
  | 3 => .int
  | 4 => .boolean
  | 5 => .int
  | 6 => .int
  | 7 => .boolean
  | 8 => .int
  | 9 => .int
  | 10 => .int
  | _ => .int
theorem nmX6 : ∀ a, a < 12 → ∀ b, b < 12 → a ≠ b → (TX6 a).2.1 ≠ (TX6 b).2.1 := by decide +kernel
theorem tyX6_ok : ∀ k, k < 12 → parseFieldDescriptor (TX6 k).2.2.1 = some (tyX6 k) := by decide +kernel
abbrev cX6_init : ByteArray := prog_8_method_1_code
def yX6_init : MethodName := ⟨RX6, "<init>", "()V"⟩
abbrev cX6_begin : ByteArray := prog_8_method_2_code
def yX6_begin : MethodName := ⟨RX6, "begin", "(II)V"⟩
abbrev cX6_copyFrom : ByteArray := prog_8_method_3_code
def yX6_copyFrom : MethodName := ⟨RX6, "copyFrom", "(LPostRoad$Team;)V"⟩
abbrev cX6_stands : ByteArray := prog_8_method_4_code
def yX6_stands : MethodName := ⟨RX6, "stands", "()Z"⟩
abbrev cX6_standsAt : ByteArray := prog_8_method_5_code
def yX6_standsAt : MethodName := ⟨RX6, "standsAt", "(I)Z"⟩
abbrev cX6_stand : ByteArray := prog_8_method_6_code
def yX6_stand : MethodName := ⟨RX6, "stand", "(I)V"⟩
abbrev cX6_setOut : ByteArray := prog_8_method_7_code
def yX6_setOut : MethodName := ⟨RX6, "setOut", "(II)V"⟩
abbrev cX6_rest : ByteArray := prog_8_method_8_code
def yX6_rest : MethodName := ⟨RX6, "rest", "(I)V"⟩
abbrev cX6_tire : ByteArray := prog_8_method_9_code
def yX6_tire : MethodName := ⟨RX6, "tire", "(I)V"⟩
abbrev cX6_about : ByteArray := prog_8_method_10_code
def yX6_about : MethodName := ⟨RX6, "about", "(I)I"⟩
def RX7 : String := "PostRoad"
def TX7 : u_T := fun k => match k with
  | 0 => ("PostRoad", "road", "LPostRoad$Road;", true)
  | 1 => ("PostRoad", "trial", "LPostRoad$Road;", true)
  | 2 => ("PostRoad", "history", "LPostRoad$History;", true)
  | _ => ("PostRoad", "text", "LPostRoad$RoadText;", true)
def tyX7 : Nat → FieldType := fun k => match k with
  | 0 => .object "PostRoad$Road"
  | 1 => .object "PostRoad$Road"
  | 2 => .object "PostRoad$History"
  | _ => .object "PostRoad$RoadText"
theorem nmX7 : ∀ a, a < 4 → ∀ b, b < 4 → a ≠ b → (TX7 a).2.1 ≠ (TX7 b).2.1 := by decide +kernel
theorem tyX7_ok : ∀ k, k < 4 → parseFieldDescriptor (TX7 k).2.2.1 = some (tyX7 k) := by decide +kernel
abbrev cX7_init : ByteArray := prog_1_method_1_code
def yX7_init : MethodName := ⟨RX7, "<init>", "()V"⟩
abbrev cX7_setStage : ByteArray := prog_1_method_2_code
def yX7_setStage : MethodName := ⟨RX7, "setStage", "(IIIZ)I"⟩
abbrev cX7_setInn : ByteArray := prog_1_method_3_code
def yX7_setInn : MethodName := ⟨RX7, "setInn", "(IIIZ)I"⟩
abbrev cX7_addTeam : ByteArray := prog_1_method_4_code
def yX7_addTeam : MethodName := ⟨RX7, "addTeam", "(II)I"⟩
abbrev cX7_give : ByteArray := prog_1_method_5_code
def yX7_give : MethodName := ⟨RX7, "give", "(IIZ)I"⟩
abbrev cX7_collect : ByteArray := prog_1_method_6_code
def yX7_collect : MethodName := ⟨RX7, "collect", "()I"⟩
abbrev cX7_pass : ByteArray := prog_1_method_7_code
def yX7_pass : MethodName := ⟨RX7, "pass", "(I)I"⟩
abbrev cX7_stage : ByteArray := prog_1_method_8_code
def yX7_stage : MethodName := ⟨RX7, "stage", "(II)I"⟩
abbrev cX7_inn : ByteArray := prog_1_method_9_code
def yX7_inn : MethodName := ⟨RX7, "inn", "(II)I"⟩
abbrev cX7_team : ByteArray := prog_1_method_10_code
def yX7_team : MethodName := ⟨RX7, "team", "(II)I"⟩
abbrev cX7_letter : ByteArray := prog_1_method_11_code
def yX7_letter : MethodName := ⟨RX7, "letter", "(II)I"⟩
abbrev cX7_value : ByteArray := prog_1_method_12_code
def yX7_value : MethodName := ⟨RX7, "value", "(I)I"⟩
abbrev cX7_why : ByteArray := prog_1_method_13_code
def yX7_why : MethodName := ⟨RX7, "why", "(I)I"⟩
abbrev cX7_hoursTo : ByteArray := prog_1_method_14_code
def yX7_hoursTo : MethodName := ⟨RX7, "hoursTo", "(I)I"⟩
abbrev cX7_hoursToAll : ByteArray := prog_1_method_15_code
def yX7_hoursToAll : MethodName := ⟨RX7, "hoursToAll", "()I"⟩
abbrev cX7_bestInn : ByteArray := prog_1_method_16_code
def yX7_bestInn : MethodName := ⟨RX7, "bestInn", "()I"⟩
abbrev cX7_way : ByteArray := prog_1_method_17_code
def yX7_way : MethodName := ⟨RX7, "way", "(II)I"⟩
abbrev cX7_effortHome : ByteArray := prog_1_method_18_code
def yX7_effortHome : MethodName := ⟨RX7, "effortHome", "(I)I"⟩
abbrev cX7_meanTiredness : ByteArray := prog_1_method_19_code
def yX7_meanTiredness : MethodName := ⟨RX7, "meanTiredness", "()D"⟩
abbrev cX7_append : ByteArray := prog_1_method_20_code
def yX7_append : MethodName := ⟨RX7, "append", "(I)I"⟩
abbrev cX7_clearText : ByteArray := prog_1_method_21_code
def yX7_clearText : MethodName := ⟨RX7, "clearText", "()I"⟩
abbrev cX7_parse : ByteArray := prog_1_method_22_code
def yX7_parse : MethodName := ⟨RX7, "parse", "()I"⟩
abbrev cX7_undo : ByteArray := prog_1_method_23_code
def yX7_undo : MethodName := ⟨RX7, "undo", "()I"⟩
abbrev cX7_digest : ByteArray := prog_1_method_24_code
def yX7_digest : MethodName := ⟨RX7, "digest", "()J"⟩
abbrev cX7_digestOfRoad : ByteArray := prog_1_method_25_code
def yX7_digestOfRoad : MethodName := ⟨RX7, "digestOfRoad", "(J)J"⟩
abbrev cX7_digestOfTeams : ByteArray := prog_1_method_26_code
def yX7_digestOfTeams : MethodName := ⟨RX7, "digestOfTeams", "(J)J"⟩
abbrev cX7_digestOfLetters : ByteArray := prog_1_method_27_code
def yX7_digestOfLetters : MethodName := ⟨RX7, "digestOfLetters", "(J)J"⟩
abbrev cX7_checkNumber : ByteArray := prog_1_method_28_code
def yX7_checkNumber : MethodName := ⟨RX7, "checkNumber", "(II)V"⟩
abbrev cX7_checkRange : ByteArray := prog_1_method_29_code
def yX7_checkRange : MethodName := ⟨RX7, "checkRange", "(III)V"⟩
abbrev cX7_checkRoom : ByteArray := prog_1_method_30_code
def yX7_checkRoom : MethodName := ⟨RX7, "checkRoom", "(II)V"⟩
abbrev cX7_oneIf : ByteArray := prog_1_method_31_code
def yX7_oneIf : MethodName := ⟨RX7, "oneIf", "(Z)I"⟩
abbrev cX7_nextInn : ByteArray := prog_1_method_32_code
def yX7_nextInn : MethodName := ⟨RX7, "nextInn", "(II)I"⟩
abbrev cX7_stageBetween : ByteArray := prog_1_method_33_code
def yX7_stageBetween : MethodName := ⟨RX7, "stageBetween", "(II)I"⟩
def RX8 : String := "PostRoadModel"
def TX8 : u_T := fun k => match k with
  | 0 => ("PostRoadModel", "all", "[I", true)
  | 1 => ("PostRoadModel", "saved", "[I", true)
  | 2 => ("PostRoadModel", "aside", "[I", true)
  | 3 => ("PostRoadModel", "savedMany", "I", false)
  | 4 => ("PostRoadModel", "threw", "I", false)
  | 5 => ("PostRoadModel", "wasAsked", "[Z", true)
  | 6 => ("PostRoadModel", "text", "[I", true)
  | 7 => ("PostRoadModel", "textLong", "I", false)
  | 8 => ("PostRoadModel", "place", "I", false)
  | 9 => ("PostRoadModel", "read", "[I", true)
  | _ => ("PostRoadModel", "stages", "I", false)
def tyX8 : Nat → FieldType := fun k => match k with
  | 0 => .array .int
  | 1 => .array .int
  | 2 => .array .int
  | 3 => .int
  | 4 => .int
  | 5 => .array .boolean
  | 6 => .array .int
  | 7 => .int
  | 8 => .int
  | 9 => .array .int
  | _ => .int
theorem nmX8 : ∀ a, a < 11 → ∀ b, b < 11 → a ≠ b → (TX8 a).2.1 ≠ (TX8 b).2.1 := by decide +kernel
theorem tyX8_ok : ∀ k, k < 11 → parseFieldDescriptor (TX8 k).2.2.1 = some (tyX8 k) := by decide +kernel
abbrev cX8_init : ByteArray := prog_10_method_1_code
def yX8_init : MethodName := ⟨RX8, "<init>", "()V"⟩
abbrev cX8_thrown : ByteArray := prog_10_method_2_code
def yX8_thrown : MethodName := ⟨RX8, "thrown", "()I"⟩
abbrev cX8_in : ByteArray := prog_10_method_3_code
def yX8_in : MethodName := ⟨RX8, "in", "(JJJ)Z"⟩
abbrev cX8_fine : ByteArray := prog_10_method_4_code
def yX8_fine : MethodName := ⟨RX8, "fine", "(I)I"⟩
abbrev cX8_throwing : ByteArray := prog_10_method_5_code
def yX8_throwing : MethodName := ⟨RX8, "throwing", "(I)I"⟩
abbrev cX8_begins : ByteArray := prog_10_method_6_code
def yX8_begins : MethodName := ⟨RX8, "begins", "(I)V"⟩
abbrev cX8_save : ByteArray := prog_10_method_7_code
def yX8_save : MethodName := ⟨RX8, "save", "()V"⟩
abbrev cX8_laysAside : ByteArray := prog_10_method_8_code
def yX8_laysAside : MethodName := ⟨RX8, "laysAside", "()V"⟩
abbrev cX8_takesBack : ByteArray := prog_10_method_9_code
def yX8_takesBack : MethodName := ⟨RX8, "takesBack", "()V"⟩
abbrev cX8_isInn : ByteArray := prog_10_method_10_code
def yX8_isInn : MethodName := ⟨RX8, "isInn", "(I)Z"⟩
abbrev cX8_isStage : ByteArray := prog_10_method_11_code
def yX8_isStage : MethodName := ⟨RX8, "isStage", "(I)Z"⟩
abbrev cX8_isTeam : ByteArray := prog_10_method_12_code
def yX8_isTeam : MethodName := ⟨RX8, "isTeam", "(I)Z"⟩
abbrev cX8_isLetter : ByteArray := prog_10_method_13_code
def yX8_isLetter : MethodName := ⟨RX8, "isLetter", "(I)Z"⟩
abbrev cX8_teamAt : ByteArray := prog_10_method_14_code
def yX8_teamAt : MethodName := ⟨RX8, "teamAt", "(II)I"⟩
abbrev cX8_of : ByteArray := prog_10_method_15_code
def yX8_of : MethodName := ⟨RX8, "of", "(II)I"⟩
abbrev cX8_letterAt : ByteArray := prog_10_method_16_code
def yX8_letterAt : MethodName := ⟨RX8, "letterAt", "(II)I"⟩
abbrev cX8_ofLetter : ByteArray := prog_10_method_17_code
def yX8_ofLetter : MethodName := ⟨RX8, "ofLetter", "(II)I"⟩
abbrev cX8_between : ByteArray := prog_10_method_18_code
def yX8_between : MethodName := ⟨RX8, "between", "(II)I"⟩
abbrev cX8_hoursOf : ByteArray := prog_10_method_19_code
def yX8_hoursOf : MethodName := ⟨RX8, "hoursOf", "(I)I"⟩
abbrev cX8_isBlocked : ByteArray := prog_10_method_20_code
def yX8_isBlocked : MethodName := ⟨RX8, "isBlocked", "(I)Z"⟩
abbrev cX8_isShut : ByteArray := prog_10_method_21_code
def yX8_isShut : MethodName := ⟨RX8, "isShut", "(I)Z"⟩
abbrev cX8_effort : ByteArray := prog_10_method_22_code
def yX8_effort : MethodName := ⟨RX8, "effort", "(II)I"⟩
abbrev cX8_setStage : ByteArray := prog_10_method_23_code
def yX8_setStage : MethodName := ⟨RX8, "setStage", "(IIIZ)I"⟩
abbrev cX8_setInn : ByteArray := prog_10_method_24_code
def yX8_setInn : MethodName := ⟨RX8, "setInn", "(IIIZ)I"⟩
abbrev cX8_adds : ByteArray := prog_10_method_25_code
def yX8_adds : MethodName := ⟨RX8, "adds", "(II)V"⟩
abbrev cX8_addTeam : ByteArray := prog_10_method_26_code
def yX8_addTeam : MethodName := ⟨RX8, "addTeam", "(II)I"⟩
abbrev cX8_give : ByteArray := prog_10_method_27_code
def yX8_give : MethodName := ⟨RX8, "give", "(IIZ)I"⟩
abbrev cX8_isDelivered : ByteArray := prog_10_method_28_code
def yX8_isDelivered : MethodName := ⟨RX8, "isDelivered", "(I)Z"⟩
abbrev cX8_lies : ByteArray := prog_10_method_29_code
def yX8_lies : MethodName := ⟨RX8, "lies", "(I)Z"⟩
abbrev cX8_collect : ByteArray := prog_10_method_30_code
def yX8_collect : MethodName := ⟨RX8, "collect", "()I"⟩
abbrev cX8_teamsOf : ByteArray := prog_10_method_31_code
def yX8_teamsOf : MethodName := ⟨RX8, "teamsOf", "(II)I"⟩
abbrev cX8_freeBeds : ByteArray := prog_10_method_32_code
def yX8_freeBeds : MethodName := ⟨RX8, "freeBeds", "(I)I"⟩
abbrev cX8_lettersAt : ByteArray := prog_10_method_33_code
def yX8_lettersAt : MethodName := ⟨RX8, "lettersAt", "(I)I"⟩
abbrev cX8_rests : ByteArray := prog_10_method_34_code
def yX8_rests : MethodName := ⟨RX8, "rests", "()V"⟩
abbrev cX8_comes : ByteArray := prog_10_method_35_code
def yX8_comes : MethodName := ⟨RX8, "comes", "(II)V"⟩
abbrev cX8_arrives : ByteArray := prog_10_method_36_code
def yX8_arrives : MethodName := ⟨RX8, "arrives", "(I)V"⟩
abbrev cX8_roads : ByteArray := prog_10_method_37_code
def yX8_roads : MethodName := ⟨RX8, "roads", "()V"⟩
abbrev cX8_toward : ByteArray := prog_10_method_38_code
def yX8_toward : MethodName := ⟨RX8, "toward", "(II)I"⟩
abbrev cX8_teamFor : ByteArray := prog_10_method_39_code
def yX8_teamFor : MethodName := ⟨RX8, "teamFor", "(I)I"⟩
abbrev cX8_whyNot : ByteArray := prog_10_method_40_code
def yX8_whyNot : MethodName := ⟨RX8, "whyNot", "(I)I"⟩
abbrev cX8_leaves : ByteArray := prog_10_method_41_code
def yX8_leaves : MethodName := ⟨RX8, "leaves", "(III)V"⟩
abbrev cX8_goesOn : ByteArray := prog_10_method_42_code
def yX8_goesOn : MethodName := ⟨RX8, "goesOn", "(I)V"⟩
abbrev cX8_isAhead : ByteArray := prog_10_method_43_code
def yX8_isAhead : MethodName := ⟨RX8, "isAhead", "(II)Z"⟩
abbrev cX8_goOn : ByteArray := prog_10_method_44_code
def yX8_goOn : MethodName := ⟨RX8, "goOn", "()V"⟩
abbrev cX8_walkBack : ByteArray := prog_10_method_45_code
def yX8_walkBack : MethodName := ⟨RX8, "walkBack", "()V"⟩
abbrev cX8_hour : ByteArray := prog_10_method_46_code
def yX8_hour : MethodName := ⟨RX8, "hour", "()V"⟩
abbrev cX8_pass : ByteArray := prog_10_method_47_code
def yX8_pass : MethodName := ⟨RX8, "pass", "(I)I"⟩
abbrev cX8_teamsOn : ByteArray := prog_10_method_48_code
def yX8_teamsOn : MethodName := ⟨RX8, "teamsOn", "(I)I"⟩
abbrev cX8_stageOf : ByteArray := prog_10_method_49_code
def yX8_stageOf : MethodName := ⟨RX8, "stageOf", "(II)I"⟩
abbrev cX8_stage : ByteArray := prog_10_method_50_code
def yX8_stage : MethodName := ⟨RX8, "stage", "(II)I"⟩
abbrev cX8_innOf : ByteArray := prog_10_method_51_code
def yX8_innOf : MethodName := ⟨RX8, "innOf", "(II)I"⟩
abbrev cX8_inn : ByteArray := prog_10_method_52_code
def yX8_inn : MethodName := ⟨RX8, "inn", "(II)I"⟩
abbrev cX8_team : ByteArray := prog_10_method_53_code
def yX8_team : MethodName := ⟨RX8, "team", "(II)I"⟩
abbrev cX8_letter : ByteArray := prog_10_method_54_code
def yX8_letter : MethodName := ⟨RX8, "letter", "(II)I"⟩
abbrev cX8_lettersBy : ByteArray := prog_10_method_55_code
def yX8_lettersBy : MethodName := ⟨RX8, "lettersBy", "(Z)I"⟩
abbrev cX8_valueOf : ByteArray := prog_10_method_56_code
def yX8_valueOf : MethodName := ⟨RX8, "valueOf", "(I)I"⟩
abbrev cX8_value : ByteArray := prog_10_method_57_code
def yX8_value : MethodName := ⟨RX8, "value", "(I)I"⟩
abbrev cX8_why : ByteArray := prog_10_method_58_code
def yX8_why : MethodName := ⟨RX8, "why", "(I)I"⟩
abbrev cX8_hoursTo : ByteArray := prog_10_method_59_code
def yX8_hoursTo : MethodName := ⟨RX8, "hoursTo", "(I)I"⟩
abbrev cX8_areDelivered : ByteArray := prog_10_method_60_code
def yX8_areDelivered : MethodName := ⟨RX8, "areDelivered", "()Z"⟩
abbrev cX8_toAll : ByteArray := prog_10_method_61_code
def yX8_toAll : MethodName := ⟨RX8, "toAll", "()I"⟩
abbrev cX8_forAll : ByteArray := prog_10_method_62_code
def yX8_forAll : MethodName := ⟨RX8, "forAll", "()I"⟩
abbrev cX8_hoursToAll : ByteArray := prog_10_method_63_code
def yX8_hoursToAll : MethodName := ⟨RX8, "hoursToAll", "()I"⟩
abbrev cX8_bestInn : ByteArray := prog_10_method_64_code
def yX8_bestInn : MethodName := ⟨RX8, "bestInn", "()I"⟩
abbrev cX8_way : ByteArray := prog_10_method_65_code
def yX8_way : MethodName := ⟨RX8, "way", "(II)I"⟩
abbrev cX8_effortHome : ByteArray := prog_10_method_66_code
def yX8_effortHome : MethodName := ⟨RX8, "effortHome", "(I)I"⟩
abbrev cX8_meanTiredness : ByteArray := prog_10_method_67_code
def yX8_meanTiredness : MethodName := ⟨RX8, "meanTiredness", "()D"⟩
abbrev cX8_append : ByteArray := prog_10_method_68_code
def yX8_append : MethodName := ⟨RX8, "append", "(I)I"⟩
abbrev cX8_clearText : ByteArray := prog_10_method_69_code
def yX8_clearText : MethodName := ⟨RX8, "clearText", "()I"⟩
abbrev cX8_here : ByteArray := prog_10_method_70_code
def yX8_here : MethodName := ⟨RX8, "here", "()I"⟩
abbrev cX8_readsStage : ByteArray := prog_10_method_71_code
def yX8_readsStage : MethodName := ⟨RX8, "readsStage", "()Z"⟩
abbrev cX8_readsText : ByteArray := prog_10_method_72_code
def yX8_readsText : MethodName := ⟨RX8, "readsText", "()Z"⟩
abbrev cX8_parse : ByteArray := prog_10_method_73_code
def yX8_parse : MethodName := ⟨RX8, "parse", "()I"⟩
abbrev cX8_undo : ByteArray := prog_10_method_74_code
def yX8_undo : MethodName := ⟨RX8, "undo", "()I"⟩
abbrev cX8_digest : ByteArray := prog_10_method_75_code
def yX8_digest : MethodName := ⟨RX8, "digest", "()J"⟩
def RL : String := "PostRoadLaw"
abbrev cL_setStage : ByteArray := method_3_code
def yL_setStage : MethodName := ⟨RL, "setStage", "(LPostRoad;IIIZ[J)I"⟩
abbrev cL_setInn : ByteArray := method_4_code
def yL_setInn : MethodName := ⟨RL, "setInn", "(LPostRoad;IIIZ[J)I"⟩
abbrev cL_addTeam : ByteArray := method_5_code
def yL_addTeam : MethodName := ⟨RL, "addTeam", "(LPostRoad;II[J)I"⟩
abbrev cL_give : ByteArray := method_6_code
def yL_give : MethodName := ⟨RL, "give", "(LPostRoad;IIZ[J)I"⟩
abbrev cL_pass : ByteArray := method_7_code
def yL_pass : MethodName := ⟨RL, "pass", "(LPostRoad;I[J)I"⟩
abbrev cL_stage : ByteArray := method_8_code
def yL_stage : MethodName := ⟨RL, "stage", "(LPostRoad;II[J)I"⟩
abbrev cL_inn : ByteArray := method_9_code
def yL_inn : MethodName := ⟨RL, "inn", "(LPostRoad;II[J)I"⟩
abbrev cL_team : ByteArray := method_10_code
def yL_team : MethodName := ⟨RL, "team", "(LPostRoad;II[J)I"⟩
abbrev cL_letter : ByteArray := method_11_code
def yL_letter : MethodName := ⟨RL, "letter", "(LPostRoad;II[J)I"⟩
abbrev cL_value : ByteArray := method_12_code
def yL_value : MethodName := ⟨RL, "value", "(LPostRoad;I[J)I"⟩
abbrev cL_why : ByteArray := method_13_code
def yL_why : MethodName := ⟨RL, "why", "(LPostRoad;I[J)I"⟩
abbrev cL_hoursTo : ByteArray := method_14_code
def yL_hoursTo : MethodName := ⟨RL, "hoursTo", "(LPostRoad;I[J)I"⟩
abbrev cL_way : ByteArray := method_15_code
def yL_way : MethodName := ⟨RL, "way", "(LPostRoad;II[J)I"⟩
abbrev cL_effortHome : ByteArray := method_16_code
def yL_effortHome : MethodName := ⟨RL, "effortHome", "(LPostRoad;I[J)I"⟩
abbrev cL_append : ByteArray := method_17_code
def yL_append : MethodName := ⟨RL, "append", "(LPostRoad;I[J)I"⟩
abbrev cL_undo : ByteArray := method_18_code
def yL_undo : MethodName := ⟨RL, "undo", "(LPostRoad;[J)I"⟩
abbrev cL_law : ByteArray := code
def yL_law : MethodName := ⟨RL, "law", "([I)Z"⟩
abbrev vwCl : List vw_C := [(RX0, TX0, 2), (RX1, TX1, 3), (RX2, TX2, 8), (RX3, TX3, 13), (RX4, TX4, 3), (RX5, TX5, 3), (RX6, TX6, 12), (RX7, TX7, 4), (RX8, TX8, 11)]
end
section
/-! the good words of the tables, one list for all methods; each by its place -/
def gWords : List Cond := lw_tbl.filter goodWord
theorem gmT {w : Cond} (i : Nat) (h : tables_1[i]? = some w) (g : goodWord w = true) : w ∈ gWords := List.mem_filter.mpr ⟨List.mem_append_right _ (List.mem_of_getElem? h), g⟩
theorem gmS {w : Cond} (i : Nat) (h : (k2_sels lw_privs)[i]? = some w) (g : goodWord w = true := by rfl) : w ∈ gWords := List.mem_filter.mpr ⟨List.mem_append_left _ (List.mem_of_getElem? h), g⟩
theorem gwGood : ∀ w ∈ gWords, (w.onTables && w.keeps) = true ∨ ∃ ty, w = .arrayClass ty := fun _ h => good_of_word (List.mem_filter.mp h).2
theorem gwIn {ws : List Cond} (h : ∀ w ∈ ws, w ∈ gWords) : GoodIn gWords ws := fun w hw => ⟨h w hw, gwGood w (h w hw)⟩
theorem wN_L : Cond.initialized RL ∈ gWords := gmT 0 (by decide +kernel) rfl
theorem wN_X7 : Cond.initialized RX7 ∈ gWords := gmT 1 (by decide +kernel) rfl
theorem wN_X3 : Cond.initialized RX3 ∈ gWords := gmT 2 (by decide +kernel) rfl
theorem wN_X5 : Cond.initialized RX5 ∈ gWords := gmT 3 (by decide +kernel) rfl
theorem wN_X1 : Cond.initialized RX1 ∈ gWords := gmT 4 (by decide +kernel) rfl
theorem wN_X6 : Cond.initialized RX6 ∈ gWords := gmT 5 (by decide +kernel) rfl
theorem wN_X2 : Cond.initialized RX2 ∈ gWords := gmT 6 (by decide +kernel) rfl
theorem wN_X0 : Cond.initialized RX0 ∈ gWords := gmT 7 (by decide +kernel) rfl
theorem wN_X4 : Cond.initialized RX4 ∈ gWords := gmT 8 (by decide +kernel) rfl
theorem wN_X8 : Cond.initialized RX8 ∈ gWords := gmT 9 (by decide +kernel) rfl
theorem wN_java_lang_Throwable : Cond.initialized "java/lang/Throwable" ∈ gWords := gmT 10 (by decide +kernel) rfl
theorem wN_java_lang_Exception : Cond.initialized "java/lang/Exception" ∈ gWords := gmT 11 (by decide +kernel) rfl
theorem wN_java_lang_RuntimeException : Cond.initialized "java/lang/RuntimeException" ∈ gWords := gmT 12 (by decide +kernel) rfl
theorem wN_java_lang_IndexOutOfBoundsException : Cond.initialized "java/lang/IndexOutOfBoundsException" ∈ gWords := gmT 13 (by decide +kernel) rfl
theorem wN_java_lang_IllegalArgumentException : Cond.initialized "java/lang/IllegalArgumentException" ∈ gWords := gmT 14 (by decide +kernel) rfl
theorem wN_java_lang_IllegalStateException : Cond.initialized "java/lang/IllegalStateException" ∈ gWords := gmT 15 (by decide +kernel) rfl
theorem wN_java_lang_Math : Cond.initialized "java/lang/Math" ∈ gWords := gmT 16 (by decide +kernel) rfl
theorem wK_L_8 : Cond.classLink RL 8 RX7 ∈ gWords := gmT 17 (by decide +kernel) rfl
theorem wB_X7 : Cond.instantiable RX7 4 ∈ gWords := gmT 18 (by decide +kernel) rfl
theorem wM_L_68 : Cond.methodLink RL 68 yX7_init ∈ gWords := gmT 19 (by decide +kernel) rfl
theorem wI_X7_init : Cond.instanceMethod yX7_init ∈ gWords := gmT 20 (by decide +kernel) rfl
theorem wC_X7_init : Cond.code yX7_init cX7_init 1 none ∈ gWords := gmT 21 (by decide +kernel) rfl
theorem wM_X7_3 : Cond.methodLink RX7 3 ⟨"java/lang/Object", "<init>", "()V"⟩ ∈ gWords := gmT 22 (by decide +kernel) rfl
theorem wI__java_lang_Object_init_V_ : Cond.instanceMethod ⟨"java/lang/Object", "<init>", "()V"⟩ ∈ gWords := gmT 23 (by decide +kernel) rfl
theorem wK_X7_9 : Cond.classLink RX7 9 RX3 ∈ gWords := gmT 25 (by decide +kernel) rfl
theorem wB_X3 : Cond.instantiable RX3 13 ∈ gWords := gmT 26 (by decide +kernel) rfl
theorem wM_X7_11 : Cond.methodLink RX7 11 yX3_init ∈ gWords := gmT 27 (by decide +kernel) rfl
theorem wI_X3_init : Cond.instanceMethod yX3_init ∈ gWords := gmT 28 (by decide +kernel) rfl
theorem wC_X3_init : Cond.code yX3_init cX3_init 2 none ∈ gWords := gmT 29 (by decide +kernel) rfl
theorem wM_X3_3 : Cond.methodLink RX3 3 ⟨"java/lang/Object", "<init>", "()V"⟩ ∈ gWords := gmT 30 (by decide +kernel) rfl
theorem wK_X3_9 : Cond.classLink RX3 9 RX5 ∈ gWords := gmT 31 (by decide +kernel) rfl
theorem wK_X3_17 : Cond.classLink RX3 17 RX1 ∈ gWords := gmT 33 (by decide +kernel) rfl
theorem wK_X3_23 : Cond.classLink RX3 23 RX6 ∈ gWords := gmT 35 (by decide +kernel) rfl
theorem wK_X3_29 : Cond.classLink RX3 29 RX2 ∈ gWords := gmT 37 (by decide +kernel) rfl
theorem wB_X5 : Cond.instantiable RX5 3 ∈ gWords := gmT 39 (by decide +kernel) rfl
theorem wI_X5_init : Cond.instanceMethod yX5_init ∈ gWords := gmT 41 (by decide +kernel) rfl
theorem wC_X5_init : Cond.code yX5_init cX5_init 1 none ∈ gWords := gmT 42 (by decide +kernel) rfl
theorem wM_X5_1 : Cond.methodLink RX5 1 ⟨"java/lang/Object", "<init>", "()V"⟩ ∈ gWords := gmT 43 (by decide +kernel) rfl
theorem wF_X5_7 : Cond.fieldLink RX5 7 "PostRoad$Stage" "hours" "I" ∈ gWords := gmT 44 (by decide +kernel) rfl
theorem wF_X7_53 : Cond.fieldLink RX7 53 "PostRoad$Stage" "hours" "I" ∈ gWords := gmT 45 (by decide +kernel) rfl
theorem wF_X3_206 : Cond.fieldLink RX3 206 "PostRoad$Stage" "hours" "I" ∈ gWords := gmT 46 (by decide +kernel) rfl
theorem wF_X5_13 : Cond.fieldLink RX5 13 "PostRoad$Stage" "hill" "I" ∈ gWords := gmT 47 (by decide +kernel) rfl
theorem wF_X3_270 : Cond.fieldLink RX3 270 "PostRoad$Stage" "hill" "I" ∈ gWords := gmT 48 (by decide +kernel) rfl
theorem wF_X5_16 : Cond.fieldLink RX5 16 "PostRoad$Stage" "blocked" "Z" ∈ gWords := gmT 49 (by decide +kernel) rfl
theorem wF_X3_215 : Cond.fieldLink RX3 215 "PostRoad$Stage" "blocked" "Z" ∈ gWords := gmT 50 (by decide +kernel) rfl
theorem wB_X1 : Cond.instantiable RX1 3 ∈ gWords := gmT 58 (by decide +kernel) rfl
theorem wI_X1_init : Cond.instanceMethod yX1_init ∈ gWords := gmT 60 (by decide +kernel) rfl
theorem wC_X1_init : Cond.code yX1_init cX1_init 1 none ∈ gWords := gmT 61 (by decide +kernel) rfl
theorem wM_X1_1 : Cond.methodLink RX1 1 ⟨"java/lang/Object", "<init>", "()V"⟩ ∈ gWords := gmT 62 (by decide +kernel) rfl
theorem wF_X1_7 : Cond.fieldLink RX1 7 "PostRoad$Inn" "beds" "I" ∈ gWords := gmT 63 (by decide +kernel) rfl
theorem wF_X3_261 : Cond.fieldLink RX3 261 "PostRoad$Inn" "beds" "I" ∈ gWords := gmT 64 (by decide +kernel) rfl
theorem wF_X1_13 : Cond.fieldLink RX1 13 "PostRoad$Inn" "fodder" "I" ∈ gWords := gmT 65 (by decide +kernel) rfl
theorem wF_X7_66 : Cond.fieldLink RX7 66 "PostRoad$Inn" "fodder" "I" ∈ gWords := gmT 66 (by decide +kernel) rfl
theorem wF_X3_133 : Cond.fieldLink RX3 133 "PostRoad$Inn" "fodder" "I" ∈ gWords := gmT 67 (by decide +kernel) rfl
theorem wF_X1_16 : Cond.fieldLink RX1 16 "PostRoad$Inn" "shut" "Z" ∈ gWords := gmT 68 (by decide +kernel) rfl
theorem wF_X3_218 : Cond.fieldLink RX3 218 "PostRoad$Inn" "shut" "Z" ∈ gWords := gmT 69 (by decide +kernel) rfl
theorem wB_X6 : Cond.instantiable RX6 12 ∈ gWords := gmT 77 (by decide +kernel) rfl
theorem wI_X6_init : Cond.instanceMethod yX6_init ∈ gWords := gmT 79 (by decide +kernel) rfl
theorem wC_X6_init : Cond.code yX6_init cX6_init 1 none ∈ gWords := gmT 80 (by decide +kernel) rfl
theorem wM_X6_3 : Cond.methodLink RX6 3 ⟨"java/lang/Object", "<init>", "()V"⟩ ∈ gWords := gmT 81 (by decide +kernel) rfl
theorem wF_X6_9 : Cond.fieldLink RX6 9 "PostRoad$Team" "home" "I" ∈ gWords := gmT 82 (by decide +kernel) rfl
theorem wF_X3_228 : Cond.fieldLink RX3 228 "PostRoad$Team" "home" "I" ∈ gWords := gmT 83 (by decide +kernel) rfl
theorem wF_X7_163 : Cond.fieldLink RX7 163 "PostRoad$Team" "home" "I" ∈ gWords := gmT 84 (by decide +kernel) rfl
theorem wF_X6_15 : Cond.fieldLink RX6 15 "PostRoad$Team" "tiredness" "I" ∈ gWords := gmT 85 (by decide +kernel) rfl
theorem wF_X3_130 : Cond.fieldLink RX3 130 "PostRoad$Team" "tiredness" "I" ∈ gWords := gmT 86 (by decide +kernel) rfl
theorem wF_X7_169 : Cond.fieldLink RX7 169 "PostRoad$Team" "tiredness" "I" ∈ gWords := gmT 87 (by decide +kernel) rfl
theorem wF_X6_38 : Cond.fieldLink RX6 38 "PostRoad$Team" "inn" "I" ∈ gWords := gmT 88 (by decide +kernel) rfl
theorem wF_X3_127 : Cond.fieldLink RX3 127 "PostRoad$Team" "inn" "I" ∈ gWords := gmT 89 (by decide +kernel) rfl
theorem wF_X7_160 : Cond.fieldLink RX7 160 "PostRoad$Team" "inn" "I" ∈ gWords := gmT 90 (by decide +kernel) rfl
theorem wF_X6_41 : Cond.fieldLink RX6 41 "PostRoad$Team" "stage" "I" ∈ gWords := gmT 91 (by decide +kernel) rfl
theorem wF_X3_154 : Cond.fieldLink RX3 154 "PostRoad$Team" "stage" "I" ∈ gWords := gmT 92 (by decide +kernel) rfl
theorem wF_X6_22 : Cond.fieldLink RX6 22 "PostRoad$Team" "away" "Z" ∈ gWords := gmT 93 (by decide +kernel) rfl
theorem wF_X3_157 : Cond.fieldLink RX3 157 "PostRoad$Team" "away" "Z" ∈ gWords := gmT 94 (by decide +kernel) rfl
theorem wF_X6_44 : Cond.fieldLink RX6 44 "PostRoad$Team" "hoursLeft" "I" ∈ gWords := gmT 95 (by decide +kernel) rfl
theorem wF_X3_141 : Cond.fieldLink RX3 141 "PostRoad$Team" "hoursLeft" "I" ∈ gWords := gmT 96 (by decide +kernel) rfl
theorem wF_X6_47 : Cond.fieldLink RX6 47 "PostRoad$Team" "letter" "I" ∈ gWords := gmT 97 (by decide +kernel) rfl
theorem wF_X3_105 : Cond.fieldLink RX3 105 "PostRoad$Team" "letter" "I" ∈ gWords := gmT 98 (by decide +kernel) rfl
theorem wF_X6_50 : Cond.fieldLink RX6 50 "PostRoad$Team" "walksBack" "Z" ∈ gWords := gmT 99 (by decide +kernel) rfl
theorem wF_X3_147 : Cond.fieldLink RX3 147 "PostRoad$Team" "walksBack" "Z" ∈ gWords := gmT 100 (by decide +kernel) rfl
theorem wF_X6_26 : Cond.fieldLink RX6 26 "PostRoad$Team" "stagesRun" "I" ∈ gWords := gmT 101 (by decide +kernel) rfl
theorem wF_X6_29 : Cond.fieldLink RX6 29 "PostRoad$Team" "effortsRun" "I" ∈ gWords := gmT 102 (by decide +kernel) rfl
theorem wF_X6_32 : Cond.fieldLink RX6 32 "PostRoad$Team" "stagesWalked" "I" ∈ gWords := gmT 103 (by decide +kernel) rfl
theorem wF_X3_151 : Cond.fieldLink RX3 151 "PostRoad$Team" "stagesWalked" "I" ∈ gWords := gmT 104 (by decide +kernel) rfl
theorem wF_X6_35 : Cond.fieldLink RX6 35 "PostRoad$Team" "fodderEaten" "I" ∈ gWords := gmT 105 (by decide +kernel) rfl
theorem wF_X3_136 : Cond.fieldLink RX3 136 "PostRoad$Team" "fodderEaten" "I" ∈ gWords := gmT 106 (by decide +kernel) rfl
theorem wB_X2 : Cond.instantiable RX2 8 ∈ gWords := gmT 132 (by decide +kernel) rfl
theorem wI_X2_init : Cond.instanceMethod yX2_init ∈ gWords := gmT 134 (by decide +kernel) rfl
theorem wC_X2_init : Cond.code yX2_init cX2_init 1 none ∈ gWords := gmT 135 (by decide +kernel) rfl
theorem wM_X2_3 : Cond.methodLink RX2 3 ⟨"java/lang/Object", "<init>", "()V"⟩ ∈ gWords := gmT 136 (by decide +kernel) rfl
theorem wF_X2_9 : Cond.fieldLink RX2 9 "PostRoad$Letter" "from" "I" ∈ gWords := gmT 137 (by decide +kernel) rfl
theorem wF_X2_15 : Cond.fieldLink RX2 15 "PostRoad$Letter" "to" "I" ∈ gWords := gmT 138 (by decide +kernel) rfl
theorem wF_X3_174 : Cond.fieldLink RX3 174 "PostRoad$Letter" "to" "I" ∈ gWords := gmT 139 (by decide +kernel) rfl
theorem wF_X2_18 : Cond.fieldLink RX2 18 "PostRoad$Letter" "express" "Z" ∈ gWords := gmT 140 (by decide +kernel) rfl
theorem wF_X3_186 : Cond.fieldLink RX3 186 "PostRoad$Letter" "express" "Z" ∈ gWords := gmT 141 (by decide +kernel) rfl
theorem wF_X2_22 : Cond.fieldLink RX2 22 "PostRoad$Letter" "givenAt" "I" ∈ gWords := gmT 142 (by decide +kernel) rfl
theorem wF_X3_183 : Cond.fieldLink RX3 183 "PostRoad$Letter" "givenAt" "I" ∈ gWords := gmT 143 (by decide +kernel) rfl
theorem wF_X2_25 : Cond.fieldLink RX2 25 "PostRoad$Letter" "inn" "I" ∈ gWords := gmT 144 (by decide +kernel) rfl
theorem wF_X3_173 : Cond.fieldLink RX3 173 "PostRoad$Letter" "inn" "I" ∈ gWords := gmT 145 (by decide +kernel) rfl
theorem wF_X2_28 : Cond.fieldLink RX2 28 "PostRoad$Letter" "team" "I" ∈ gWords := gmT 146 (by decide +kernel) rfl
theorem wF_X3_102 : Cond.fieldLink RX3 102 "PostRoad$Letter" "team" "I" ∈ gWords := gmT 147 (by decide +kernel) rfl
theorem wF_X2_31 : Cond.fieldLink RX2 31 "PostRoad$Letter" "deliveredAt" "I" ∈ gWords := gmT 148 (by decide +kernel) rfl
theorem wF_X3_180 : Cond.fieldLink RX3 180 "PostRoad$Letter" "deliveredAt" "I" ∈ gWords := gmT 149 (by decide +kernel) rfl
theorem wF_X2_34 : Cond.fieldLink RX2 34 "PostRoad$Letter" "starts" "I" ∈ gWords := gmT 150 (by decide +kernel) rfl
theorem wF_X3_212 : Cond.fieldLink RX3 212 "PostRoad$Letter" "starts" "I" ∈ gWords := gmT 151 (by decide +kernel) rfl
theorem wM_X3_39 : Cond.methodLink RX3 39 yX3_restart ∈ gWords := gmT 169 (by decide +kernel) rfl
theorem wI_X3_restart : Cond.instanceMethod yX3_restart ∈ gWords := gmT 170 (by decide +kernel) rfl
theorem wS_X3_restart : Cond.selects RX3 yX3_restart yX3_restart ∈ gWords := gmT 171 (by decide +kernel) rfl
theorem wC_X3_restart : Cond.code yX3_restart cX3_restart 2 none ∈ gWords := gmT 172 (by decide +kernel) rfl
theorem wM_X3_42 : Cond.methodLink RX3 42 yX5_set ∈ gWords := gmT 173 (by decide +kernel) rfl
theorem wI_X5_set : Cond.instanceMethod yX5_set ∈ gWords := gmT 174 (by decide +kernel) rfl
theorem wS_X5_set : Cond.selects RX5 yX5_set yX5_set ∈ gWords := gmT 175 (by decide +kernel) rfl
theorem wC_X5_set : Cond.code yX5_set cX5_set 4 none ∈ gWords := gmT 176 (by decide +kernel) rfl
theorem wM_X3_46 : Cond.methodLink RX3 46 yX1_set ∈ gWords := gmT 177 (by decide +kernel) rfl
theorem wI_X1_set : Cond.instanceMethod yX1_set ∈ gWords := gmT 178 (by decide +kernel) rfl
theorem wS_X1_set : Cond.selects RX1 yX1_set yX1_set ∈ gWords := gmT 179 (by decide +kernel) rfl
theorem wC_X1_set : Cond.code yX1_set cX1_set 4 none ∈ gWords := gmT 180 (by decide +kernel) rfl
theorem wF_X3_11 : Cond.fieldLink RX3 11 "PostRoad$Road" "stages" "[LPostRoad$Stage;" ∈ gWords := gmT 181 (by decide +kernel) rfl
theorem wF_X7_49 : Cond.fieldLink RX7 49 "PostRoad$Road" "stages" "[LPostRoad$Stage;" ∈ gWords := gmT 182 (by decide +kernel) rfl
theorem wF_X4_22 : Cond.fieldLink RX4 22 "PostRoad$Road" "stages" "[LPostRoad$Stage;" ∈ gWords := gmT 183 (by decide +kernel) rfl
theorem wF_X3_19 : Cond.fieldLink RX3 19 "PostRoad$Road" "innRows" "[LPostRoad$Inn;" ∈ gWords := gmT 184 (by decide +kernel) rfl
theorem wF_X7_62 : Cond.fieldLink RX7 62 "PostRoad$Road" "innRows" "[LPostRoad$Inn;" ∈ gWords := gmT 185 (by decide +kernel) rfl
theorem wF_X3_25 : Cond.fieldLink RX3 25 "PostRoad$Road" "teamRows" "[LPostRoad$Team;" ∈ gWords := gmT 186 (by decide +kernel) rfl
theorem wF_X7_120 : Cond.fieldLink RX7 120 "PostRoad$Road" "teamRows" "[LPostRoad$Team;" ∈ gWords := gmT 187 (by decide +kernel) rfl
theorem wF_X3_31 : Cond.fieldLink RX3 31 "PostRoad$Road" "letterRows" "[LPostRoad$Letter;" ∈ gWords := gmT 188 (by decide +kernel) rfl
theorem wF_X7_130 : Cond.fieldLink RX7 130 "PostRoad$Road" "letterRows" "[LPostRoad$Letter;" ∈ gWords := gmT 189 (by decide +kernel) rfl
theorem wF_X7_33 : Cond.fieldLink RX7 33 "PostRoad$Road" "inns" "I" ∈ gWords := gmT 190 (by decide +kernel) rfl
theorem wF_X3_47 : Cond.fieldLink RX3 47 "PostRoad$Road" "inns" "I" ∈ gWords := gmT 191 (by decide +kernel) rfl
theorem wF_X4_32 : Cond.fieldLink RX4 32 "PostRoad$Road" "inns" "I" ∈ gWords := gmT 192 (by decide +kernel) rfl
theorem wF_X3_51 : Cond.fieldLink RX3 51 "PostRoad$Road" "teams" "I" ∈ gWords := gmT 193 (by decide +kernel) rfl
theorem wF_X7_72 : Cond.fieldLink RX7 72 "PostRoad$Road" "teams" "I" ∈ gWords := gmT 194 (by decide +kernel) rfl
theorem wF_X3_54 : Cond.fieldLink RX3 54 "PostRoad$Road" "letters" "I" ∈ gWords := gmT 195 (by decide +kernel) rfl
theorem wF_X7_89 : Cond.fieldLink RX7 89 "PostRoad$Road" "letters" "I" ∈ gWords := gmT 196 (by decide +kernel) rfl
theorem wF_X3_57 : Cond.fieldLink RX3 57 "PostRoad$Road" "hour" "I" ∈ gWords := gmT 197 (by decide +kernel) rfl
theorem wF_X7_100 : Cond.fieldLink RX7 100 "PostRoad$Road" "hour" "I" ∈ gWords := gmT 198 (by decide +kernel) rfl
theorem wF_X3_60 : Cond.fieldLink RX3 60 "PostRoad$Road" "delivered" "I" ∈ gWords := gmT 199 (by decide +kernel) rfl
theorem wF_X7_108 : Cond.fieldLink RX7 108 "PostRoad$Road" "delivered" "I" ∈ gWords := gmT 200 (by decide +kernel) rfl
theorem wF_X3_63 : Cond.fieldLink RX3 63 "PostRoad$Road" "deliveredHours" "I" ∈ gWords := gmT 201 (by decide +kernel) rfl
theorem wF_X3_66 : Cond.fieldLink RX3 66 "PostRoad$Road" "expressDelivered" "I" ∈ gWords := gmT 202 (by decide +kernel) rfl
theorem wF_X3_69 : Cond.fieldLink RX3 69 "PostRoad$Road" "expressHours" "I" ∈ gWords := gmT 203 (by decide +kernel) rfl
theorem wF_X3_72 : Cond.fieldLink RX3 72 "PostRoad$Road" "fodderEaten" "I" ∈ gWords := gmT 204 (by decide +kernel) rfl
theorem wK_X7_19 : Cond.classLink RX7 19 RX0 ∈ gWords := gmT 232 (by decide +kernel) rfl
theorem wB_X0 : Cond.instantiable RX0 2 ∈ gWords := gmT 233 (by decide +kernel) rfl
theorem wM_X7_21 : Cond.methodLink RX7 21 yX0_init ∈ gWords := gmT 234 (by decide +kernel) rfl
theorem wI_X0_init : Cond.instanceMethod yX0_init ∈ gWords := gmT 235 (by decide +kernel) rfl
theorem wC_X0_init : Cond.code yX0_init cX0_init 2 none ∈ gWords := gmT 236 (by decide +kernel) rfl
theorem wM_X0_3 : Cond.methodLink RX0 3 ⟨"java/lang/Object", "<init>", "()V"⟩ ∈ gWords := gmT 237 (by decide +kernel) rfl
theorem wK_X0_9 : Cond.classLink RX0 9 RX3 ∈ gWords := gmT 238 (by decide +kernel) rfl
theorem wM_X0_17 : Cond.methodLink RX0 17 yX3_init ∈ gWords := gmT 240 (by decide +kernel) rfl
theorem wF_X0_11 : Cond.fieldLink RX0 11 "PostRoad$History" "states" "[LPostRoad$Road;" ∈ gWords := gmT 241 (by decide +kernel) rfl
theorem wF_X0_18 : Cond.fieldLink RX0 18 "PostRoad$History" "count" "I" ∈ gWords := gmT 242 (by decide +kernel) rfl
theorem wF_X7_186 : Cond.fieldLink RX7 186 "PostRoad$History" "count" "I" ∈ gWords := gmT 243 (by decide +kernel) rfl
theorem wK_X7_26 : Cond.classLink RX7 26 RX4 ∈ gWords := gmT 249 (by decide +kernel) rfl
theorem wB_X4 : Cond.instantiable RX4 3 ∈ gWords := gmT 250 (by decide +kernel) rfl
theorem wI_X4_init : Cond.instanceMethod yX4_init ∈ gWords := gmT 252 (by decide +kernel) rfl
theorem wC_X4_init : Cond.code yX4_init cX4_init 1 none ∈ gWords := gmT 253 (by decide +kernel) rfl
theorem wM_X4_3 : Cond.methodLink RX4 3 ⟨"java/lang/Object", "<init>", "()V"⟩ ∈ gWords := gmT 254 (by decide +kernel) rfl
theorem wF_X4_9 : Cond.fieldLink RX4 9 "PostRoad$RoadText" "bytes" "[B" ∈ gWords := gmT 255 (by decide +kernel) rfl
theorem wF_X4_15 : Cond.fieldLink RX4 15 "PostRoad$RoadText" "length" "I" ∈ gWords := gmT 256 (by decide +kernel) rfl
theorem wF_X7_172 : Cond.fieldLink RX7 172 "PostRoad$RoadText" "length" "I" ∈ gWords := gmT 257 (by decide +kernel) rfl
theorem wF_X4_19 : Cond.fieldLink RX4 19 "PostRoad$RoadText" "at" "I" ∈ gWords := gmT 258 (by decide +kernel) rfl
theorem wF_X7_12 : Cond.fieldLink RX7 12 "PostRoad" "road" "LPostRoad$Road;" ∈ gWords := gmT 267 (by decide +kernel) rfl
theorem wF_X7_16 : Cond.fieldLink RX7 16 "PostRoad" "trial" "LPostRoad$Road;" ∈ gWords := gmT 268 (by decide +kernel) rfl
theorem wF_X7_22 : Cond.fieldLink RX7 22 "PostRoad" "history" "LPostRoad$History;" ∈ gWords := gmT 269 (by decide +kernel) rfl
theorem wF_X7_29 : Cond.fieldLink RX7 29 "PostRoad" "text" "LPostRoad$RoadText;" ∈ gWords := gmT 270 (by decide +kernel) rfl
theorem wM_L_92 : Cond.methodLink RL 92 yX7_collect ∈ gWords := gmT 280 (by decide +kernel) rfl
theorem wI_X7_collect : Cond.instanceMethod yX7_collect ∈ gWords := gmT 281 (by decide +kernel) rfl
theorem wS_X7_collect : Cond.selects RX7 yX7_collect yX7_collect ∈ gWords := gmT 282 (by decide +kernel) rfl
theorem wC_X7_collect : Cond.code yX7_collect cX7_collect 1 (some .int) ∈ gWords := gmT 283 (by decide +kernel) rfl
theorem wM_X7_45 : Cond.methodLink RX7 45 yX0_save ∈ gWords := gmT 284 (by decide +kernel) rfl
theorem wI_X0_save : Cond.instanceMethod yX0_save ∈ gWords := gmT 285 (by decide +kernel) rfl
theorem wS_X0_save : Cond.selects RX0 yX0_save yX0_save ∈ gWords := gmT 286 (by decide +kernel) rfl
theorem wC_X0_save : Cond.code yX0_save cX0_save 2 none ∈ gWords := gmT 287 (by decide +kernel) rfl
theorem wM_X0_22 : Cond.methodLink RX0 22 yX0_dropOldest ∈ gWords := gmT 288 (by decide +kernel) rfl
theorem wI_X0_dropOldest : Cond.instanceMethod yX0_dropOldest ∈ gWords := gmT 289 (by decide +kernel) rfl
theorem wS_X0_dropOldest : Cond.selects RX0 yX0_dropOldest yX0_dropOldest ∈ gWords := gmT 290 (by decide +kernel) rfl
theorem wC_X0_dropOldest : Cond.code yX0_dropOldest cX0_dropOldest 3 none ∈ gWords := gmT 291 (by decide +kernel) rfl
theorem wM_X0_25 : Cond.methodLink RX0 25 yX3_copyFrom ∈ gWords := gmT 292 (by decide +kernel) rfl
theorem wI_X3_copyFrom : Cond.instanceMethod yX3_copyFrom ∈ gWords := gmT 293 (by decide +kernel) rfl
theorem wS_X3_copyFrom : Cond.selects RX3 yX3_copyFrom yX3_copyFrom ∈ gWords := gmT 294 (by decide +kernel) rfl
theorem wC_X3_copyFrom : Cond.code yX3_copyFrom cX3_copyFrom 3 none ∈ gWords := gmT 295 (by decide +kernel) rfl
theorem wM_X3_75 : Cond.methodLink RX3 75 yX5_copyFrom ∈ gWords := gmT 296 (by decide +kernel) rfl
theorem wI_X5_copyFrom : Cond.instanceMethod yX5_copyFrom ∈ gWords := gmT 297 (by decide +kernel) rfl
theorem wS_X5_copyFrom : Cond.selects RX5 yX5_copyFrom yX5_copyFrom ∈ gWords := gmT 298 (by decide +kernel) rfl
theorem wC_X5_copyFrom : Cond.code yX5_copyFrom cX5_copyFrom 2 none ∈ gWords := gmT 299 (by decide +kernel) rfl
theorem wM_X5_20 : Cond.methodLink RX5 20 yX5_set ∈ gWords := gmT 300 (by decide +kernel) rfl
theorem wM_X3_79 : Cond.methodLink RX3 79 yX1_copyFrom ∈ gWords := gmT 301 (by decide +kernel) rfl
theorem wI_X1_copyFrom : Cond.instanceMethod yX1_copyFrom ∈ gWords := gmT 302 (by decide +kernel) rfl
theorem wS_X1_copyFrom : Cond.selects RX1 yX1_copyFrom yX1_copyFrom ∈ gWords := gmT 303 (by decide +kernel) rfl
theorem wC_X1_copyFrom : Cond.code yX1_copyFrom cX1_copyFrom 2 none ∈ gWords := gmT 304 (by decide +kernel) rfl
theorem wM_X1_20 : Cond.methodLink RX1 20 yX1_set ∈ gWords := gmT 305 (by decide +kernel) rfl
theorem wM_X3_82 : Cond.methodLink RX3 82 yX6_copyFrom ∈ gWords := gmT 306 (by decide +kernel) rfl
theorem wI_X6_copyFrom : Cond.instanceMethod yX6_copyFrom ∈ gWords := gmT 307 (by decide +kernel) rfl
theorem wS_X6_copyFrom : Cond.selects RX6 yX6_copyFrom yX6_copyFrom ∈ gWords := gmT 308 (by decide +kernel) rfl
theorem wC_X6_copyFrom : Cond.code yX6_copyFrom cX6_copyFrom 2 none ∈ gWords := gmT 309 (by decide +kernel) rfl
theorem wM_X3_85 : Cond.methodLink RX3 85 yX2_copyFrom ∈ gWords := gmT 310 (by decide +kernel) rfl
theorem wI_X2_copyFrom : Cond.instanceMethod yX2_copyFrom ∈ gWords := gmT 311 (by decide +kernel) rfl
theorem wS_X2_copyFrom : Cond.selects RX2 yX2_copyFrom yX2_copyFrom ∈ gWords := gmT 312 (by decide +kernel) rfl
theorem wC_X2_copyFrom : Cond.code yX2_copyFrom cX2_copyFrom 2 none ∈ gWords := gmT 313 (by decide +kernel) rfl
theorem wM_X7_96 : Cond.methodLink RX7 96 yX3_takeDelivered ∈ gWords := gmT 314 (by decide +kernel) rfl
theorem wI_X3_takeDelivered : Cond.instanceMethod yX3_takeDelivered ∈ gWords := gmT 315 (by decide +kernel) rfl
theorem wS_X3_takeDelivered : Cond.selects RX3 yX3_takeDelivered yX3_takeDelivered ∈ gWords := gmT 316 (by decide +kernel) rfl
theorem wC_X3_takeDelivered : Cond.code yX3_takeDelivered cX3_takeDelivered 4 (some .int) ∈ gWords := gmT 317 (by decide +kernel) rfl
theorem wM_X3_95 : Cond.methodLink RX3 95 yX2_isDelivered ∈ gWords := gmT 318 (by decide +kernel) rfl
theorem wI_X2_isDelivered : Cond.instanceMethod yX2_isDelivered ∈ gWords := gmT 319 (by decide +kernel) rfl
theorem wS_X2_isDelivered : Cond.selects RX2 yX2_isDelivered yX2_isDelivered ∈ gWords := gmT 320 (by decide +kernel) rfl
theorem wC_X2_isDelivered : Cond.code yX2_isDelivered cX2_isDelivered 1 (some .boolean) ∈ gWords := gmT 321 (by decide +kernel) rfl
theorem wM_X3_99 : Cond.methodLink RX3 99 yX2_isOnStage ∈ gWords := gmT 322 (by decide +kernel) rfl
theorem wI_X2_isOnStage : Cond.instanceMethod yX2_isOnStage ∈ gWords := gmT 323 (by decide +kernel) rfl
theorem wS_X2_isOnStage : Cond.selects RX2 yX2_isOnStage yX2_isOnStage ∈ gWords := gmT 324 (by decide +kernel) rfl
theorem wC_X2_isOnStage : Cond.code yX2_isOnStage cX2_isOnStage 1 (some .boolean) ∈ gWords := gmT 325 (by decide +kernel) rfl
theorem wM_L_121 : Cond.methodLink RL 121 yX7_hoursToAll ∈ gWords := gmT 326 (by decide +kernel) rfl
theorem wI_X7_hoursToAll : Cond.instanceMethod yX7_hoursToAll ∈ gWords := gmT 327 (by decide +kernel) rfl
theorem wS_X7_hoursToAll : Cond.selects RX7 yX7_hoursToAll yX7_hoursToAll ∈ gWords := gmT 328 (by decide +kernel) rfl
theorem wC_X7_hoursToAll : Cond.code yX7_hoursToAll cX7_hoursToAll 1 (some .int) ∈ gWords := gmT 329 (by decide +kernel) rfl
theorem wM_X7_143 : Cond.methodLink RX7 143 yX3_copyFrom ∈ gWords := gmT 330 (by decide +kernel) rfl
theorem wM_X7_146 : Cond.methodLink RX7 146 yX3_hoursUntilDelivered ∈ gWords := gmT 331 (by decide +kernel) rfl
theorem wI_X3_hoursUntilDelivered : Cond.instanceMethod yX3_hoursUntilDelivered ∈ gWords := gmT 332 (by decide +kernel) rfl
theorem wS_X3_hoursUntilDelivered : Cond.selects RX3 yX3_hoursUntilDelivered yX3_hoursUntilDelivered ∈ gWords := gmT 333 (by decide +kernel) rfl
theorem wC_X3_hoursUntilDelivered : Cond.code yX3_hoursUntilDelivered cX3_hoursUntilDelivered 5 (some .int) ∈ gWords := gmT 334 (by decide +kernel) rfl
theorem wM_X3_237 : Cond.methodLink RX3 237 yX3_hasCome ∈ gWords := gmT 335 (by decide +kernel) rfl
theorem wI_X3_hasCome : Cond.instanceMethod yX3_hasCome ∈ gWords := gmT 336 (by decide +kernel) rfl
theorem wS_X3_hasCome : Cond.selects RX3 yX3_hasCome yX3_hasCome ∈ gWords := gmT 337 (by decide +kernel) rfl
theorem wC_X3_hasCome : Cond.code yX3_hasCome cX3_hasCome 2 (some .boolean) ∈ gWords := gmT 338 (by decide +kernel) rfl
theorem wM_X3_246 : Cond.methodLink RX3 246 yX3_lettersLying ∈ gWords := gmT 339 (by decide +kernel) rfl
theorem wI_X3_lettersLying : Cond.instanceMethod yX3_lettersLying ∈ gWords := gmT 340 (by decide +kernel) rfl
theorem wS_X3_lettersLying : Cond.selects RX3 yX3_lettersLying yX3_lettersLying ∈ gWords := gmT 341 (by decide +kernel) rfl
theorem wC_X3_lettersLying : Cond.code yX3_lettersLying cX3_lettersLying 3 (some .int) ∈ gWords := gmT 342 (by decide +kernel) rfl
theorem wM_X3_267 : Cond.methodLink RX3 267 yX2_liesAtAnInn ∈ gWords := gmT 343 (by decide +kernel) rfl
theorem wI_X2_liesAtAnInn : Cond.instanceMethod yX2_liesAtAnInn ∈ gWords := gmT 344 (by decide +kernel) rfl
theorem wS_X2_liesAtAnInn : Cond.selects RX2 yX2_liesAtAnInn yX2_liesAtAnInn ∈ gWords := gmT 345 (by decide +kernel) rfl
theorem wC_X2_liesAtAnInn : Cond.code yX2_liesAtAnInn cX2_liesAtAnInn 1 (some .boolean) ∈ gWords := gmT 346 (by decide +kernel) rfl
theorem wM_X2_37 : Cond.methodLink RX2 37 yX2_isDelivered ∈ gWords := gmT 347 (by decide +kernel) rfl
theorem wM_X2_41 : Cond.methodLink RX2 41 yX2_isOnStage ∈ gWords := gmT 348 (by decide +kernel) rfl
theorem wM_X3_250 : Cond.methodLink RX3 250 yX3_lettersOnStages ∈ gWords := gmT 349 (by decide +kernel) rfl
theorem wI_X3_lettersOnStages : Cond.instanceMethod yX3_lettersOnStages ∈ gWords := gmT 350 (by decide +kernel) rfl
theorem wS_X3_lettersOnStages : Cond.selects RX3 yX3_lettersOnStages yX3_lettersOnStages ∈ gWords := gmT 351 (by decide +kernel) rfl
theorem wC_X3_lettersOnStages : Cond.code yX3_lettersOnStages cX3_lettersOnStages 3 (some .int) ∈ gWords := gmT 352 (by decide +kernel) rfl
theorem wM_X3_240 : Cond.methodLink RX3 240 yX3_allTeamsIdle ∈ gWords := gmT 353 (by decide +kernel) rfl
theorem wI_X3_allTeamsIdle : Cond.instanceMethod yX3_allTeamsIdle ∈ gWords := gmT 354 (by decide +kernel) rfl
theorem wS_X3_allTeamsIdle : Cond.selects RX3 yX3_allTeamsIdle yX3_allTeamsIdle ∈ gWords := gmT 355 (by decide +kernel) rfl
theorem wC_X3_allTeamsIdle : Cond.code yX3_allTeamsIdle cX3_allTeamsIdle 2 (some .boolean) ∈ gWords := gmT 356 (by decide +kernel) rfl
theorem wM_X3_121 : Cond.methodLink RX3 121 yX6_stands ∈ gWords := gmT 357 (by decide +kernel) rfl
theorem wI_X6_stands : Cond.instanceMethod yX6_stands ∈ gWords := gmT 358 (by decide +kernel) rfl
theorem wS_X6_stands : Cond.selects RX6 yX6_stands yX6_stands ∈ gWords := gmT 359 (by decide +kernel) rfl
theorem wC_X6_stands : Cond.code yX6_stands cX6_stands 1 (some .boolean) ∈ gWords := gmT 360 (by decide +kernel) rfl
theorem wM_X3_243 : Cond.methodLink RX3 243 yX3_passHour ∈ gWords := gmT 361 (by decide +kernel) rfl
theorem wI_X3_passHour : Cond.instanceMethod yX3_passHour ∈ gWords := gmT 362 (by decide +kernel) rfl
theorem wS_X3_passHour : Cond.selects RX3 yX3_passHour yX3_passHour ∈ gWords := gmT 363 (by decide +kernel) rfl
theorem wC_X3_passHour : Cond.code yX3_passHour cX3_passHour 1 none ∈ gWords := gmT 364 (by decide +kernel) rfl
theorem wM_X3_108 : Cond.methodLink RX3 108 yX3_restTeams ∈ gWords := gmT 365 (by decide +kernel) rfl
theorem wI_X3_restTeams : Cond.instanceMethod yX3_restTeams ∈ gWords := gmT 366 (by decide +kernel) rfl
theorem wS_X3_restTeams : Cond.selects RX3 yX3_restTeams yX3_restTeams ∈ gWords := gmT 367 (by decide +kernel) rfl
theorem wC_X3_restTeams : Cond.code yX3_restTeams cX3_restTeams 2 none ∈ gWords := gmT 368 (by decide +kernel) rfl
theorem wM_X3_124 : Cond.methodLink RX3 124 yX3_restTeam ∈ gWords := gmT 369 (by decide +kernel) rfl
theorem wI_X3_restTeam : Cond.instanceMethod yX3_restTeam ∈ gWords := gmT 370 (by decide +kernel) rfl
theorem wS_X3_restTeam : Cond.selects RX3 yX3_restTeam yX3_restTeam ∈ gWords := gmT 371 (by decide +kernel) rfl
theorem wC_X3_restTeam : Cond.code yX3_restTeam cX3_restTeam 3 none ∈ gWords := gmT 372 (by decide +kernel) rfl
theorem wM_X3_137 : Cond.methodLink RX3 137 yX6_rest ∈ gWords := gmT 373 (by decide +kernel) rfl
theorem wI_X6_rest : Cond.instanceMethod yX6_rest ∈ gWords := gmT 374 (by decide +kernel) rfl
theorem wS_X6_rest : Cond.selects RX6 yX6_rest yX6_rest ∈ gWords := gmT 375 (by decide +kernel) rfl
theorem wC_X6_rest : Cond.code yX6_rest cX6_rest 2 none ∈ gWords := gmT 376 (by decide +kernel) rfl
theorem wM_X6_57 : Cond.methodLink RX6 57 ⟨"java/lang/Math", "max", "(II)I"⟩ ∈ gWords := gmT 377 (by decide +kernel) rfl
theorem wT__java_lang_Math_max_II_I_ : Cond.static ⟨"java/lang/Math", "max", "(II)I"⟩ ∈ gWords := gmT 378 (by decide +kernel) rfl
theorem wM_X3_111 : Cond.methodLink RX3 111 yX3_moveTeams ∈ gWords := gmT 380 (by decide +kernel) rfl
theorem wI_X3_moveTeams : Cond.instanceMethod yX3_moveTeams ∈ gWords := gmT 381 (by decide +kernel) rfl
theorem wS_X3_moveTeams : Cond.selects RX3 yX3_moveTeams yX3_moveTeams ∈ gWords := gmT 382 (by decide +kernel) rfl
theorem wC_X3_moveTeams : Cond.code yX3_moveTeams cX3_moveTeams 3 none ∈ gWords := gmT 383 (by decide +kernel) rfl
theorem wM_X3_144 : Cond.methodLink RX3 144 yX3_arrive ∈ gWords := gmT 384 (by decide +kernel) rfl
theorem wI_X3_arrive : Cond.instanceMethod yX3_arrive ∈ gWords := gmT 385 (by decide +kernel) rfl
theorem wS_X3_arrive : Cond.selects RX3 yX3_arrive yX3_arrive ∈ gWords := gmT 386 (by decide +kernel) rfl
theorem wC_X3_arrive : Cond.code yX3_arrive cX3_arrive 2 none ∈ gWords := gmT 387 (by decide +kernel) rfl
theorem wM_X3_160 : Cond.methodLink RX3 160 yX5_effort ∈ gWords := gmT 388 (by decide +kernel) rfl
theorem wI_X5_effort : Cond.instanceMethod yX5_effort ∈ gWords := gmT 389 (by decide +kernel) rfl
theorem wS_X5_effort : Cond.selects RX5 yX5_effort yX5_effort ∈ gWords := gmT 390 (by decide +kernel) rfl
theorem wC_X5_effort : Cond.code yX5_effort cX5_effort 3 (some .int) ∈ gWords := gmT 391 (by decide +kernel) rfl
theorem wM_X5_24 : Cond.methodLink RX5 24 ⟨"java/lang/Math", "max", "(II)I"⟩ ∈ gWords := gmT 392 (by decide +kernel) rfl
theorem wM_X3_164 : Cond.methodLink RX3 164 yX6_tire ∈ gWords := gmT 393 (by decide +kernel) rfl
theorem wI_X6_tire : Cond.instanceMethod yX6_tire ∈ gWords := gmT 394 (by decide +kernel) rfl
theorem wS_X6_tire : Cond.selects RX6 yX6_tire yX6_tire ∈ gWords := gmT 395 (by decide +kernel) rfl
theorem wC_X6_tire : Cond.code yX6_tire cX6_tire 2 none ∈ gWords := gmT 396 (by decide +kernel) rfl
theorem wM_X6_62 : Cond.methodLink RX6 62 ⟨"java/lang/Math", "min", "(II)I"⟩ ∈ gWords := gmT 397 (by decide +kernel) rfl
theorem wT__java_lang_Math_min_II_I_ : Cond.static ⟨"java/lang/Math", "min", "(II)I"⟩ ∈ gWords := gmT 398 (by decide +kernel) rfl
theorem wM_X3_167 : Cond.methodLink RX3 167 yX3_putDown ∈ gWords := gmT 400 (by decide +kernel) rfl
theorem wI_X3_putDown : Cond.instanceMethod yX3_putDown ∈ gWords := gmT 401 (by decide +kernel) rfl
theorem wS_X3_putDown : Cond.selects RX3 yX3_putDown yX3_putDown ∈ gWords := gmT 402 (by decide +kernel) rfl
theorem wC_X3_putDown : Cond.code yX3_putDown cX3_putDown 2 none ∈ gWords := gmT 403 (by decide +kernel) rfl
theorem wM_X3_177 : Cond.methodLink RX3 177 yX3_deliver ∈ gWords := gmT 404 (by decide +kernel) rfl
theorem wI_X3_deliver : Cond.instanceMethod yX3_deliver ∈ gWords := gmT 405 (by decide +kernel) rfl
theorem wS_X3_deliver : Cond.selects RX3 yX3_deliver yX3_deliver ∈ gWords := gmT 406 (by decide +kernel) rfl
theorem wC_X3_deliver : Cond.code yX3_deliver cX3_deliver 3 none ∈ gWords := gmT 407 (by decide +kernel) rfl
theorem wM_X3_170 : Cond.methodLink RX3 170 yX6_stand ∈ gWords := gmT 408 (by decide +kernel) rfl
theorem wI_X6_stand : Cond.instanceMethod yX6_stand ∈ gWords := gmT 409 (by decide +kernel) rfl
theorem wS_X6_stand : Cond.selects RX6 yX6_stand yX6_stand ∈ gWords := gmT 410 (by decide +kernel) rfl
theorem wC_X6_stand : Cond.code yX6_stand cX6_stand 2 none ∈ gWords := gmT 411 (by decide +kernel) rfl
theorem wM_X3_114 : Cond.methodLink RX3 114 yX3_sendLetters ∈ gWords := gmT 412 (by decide +kernel) rfl
theorem wI_X3_sendLetters : Cond.instanceMethod yX3_sendLetters ∈ gWords := gmT 413 (by decide +kernel) rfl
theorem wS_X3_sendLetters : Cond.selects RX3 yX3_sendLetters yX3_sendLetters ∈ gWords := gmT 414 (by decide +kernel) rfl
theorem wC_X3_sendLetters : Cond.code yX3_sendLetters cX3_sendLetters 3 none ∈ gWords := gmT 415 (by decide +kernel) rfl
theorem wM_X3_189 : Cond.methodLink RX3 189 yX3_hindrance ∈ gWords := gmT 416 (by decide +kernel) rfl
theorem wI_X3_hindrance : Cond.instanceMethod yX3_hindrance ∈ gWords := gmT 417 (by decide +kernel) rfl
theorem wS_X3_hindrance : Cond.selects RX3 yX3_hindrance yX3_hindrance ∈ gWords := gmT 418 (by decide +kernel) rfl
theorem wC_X3_hindrance : Cond.code yX3_hindrance cX3_hindrance 7 (some .int) ∈ gWords := gmT 419 (by decide +kernel) rfl
theorem wT_X7_nextInn : Cond.static yX7_nextInn ∈ gWords := gmT 421 (by decide +kernel) rfl
theorem wC_X7_nextInn : Cond.code yX7_nextInn cX7_nextInn 2 (some .int) ∈ gWords := gmT 422 (by decide +kernel) rfl
theorem wT_X7_stageBetween : Cond.static yX7_stageBetween ∈ gWords := gmT 424 (by decide +kernel) rfl
theorem wC_X7_stageBetween : Cond.code yX7_stageBetween cX7_stageBetween 2 (some .int) ∈ gWords := gmT 425 (by decide +kernel) rfl
theorem wM_X3_221 : Cond.methodLink RX3 221 yX3_freeBeds ∈ gWords := gmT 426 (by decide +kernel) rfl
theorem wI_X3_freeBeds : Cond.instanceMethod yX3_freeBeds ∈ gWords := gmT 427 (by decide +kernel) rfl
theorem wS_X3_freeBeds : Cond.selects RX3 yX3_freeBeds yX3_freeBeds ∈ gWords := gmT 428 (by decide +kernel) rfl
theorem wC_X3_freeBeds : Cond.code yX3_freeBeds cX3_freeBeds 2 (some .int) ∈ gWords := gmT 429 (by decide +kernel) rfl
theorem wM_X3_264 : Cond.methodLink RX3 264 yX3_bedsTaken ∈ gWords := gmT 430 (by decide +kernel) rfl
theorem wI_X3_bedsTaken : Cond.instanceMethod yX3_bedsTaken ∈ gWords := gmT 431 (by decide +kernel) rfl
theorem wS_X3_bedsTaken : Cond.selects RX3 yX3_bedsTaken yX3_bedsTaken ∈ gWords := gmT 432 (by decide +kernel) rfl
theorem wC_X3_bedsTaken : Cond.code yX3_bedsTaken cX3_bedsTaken 4 (some .int) ∈ gWords := gmT 433 (by decide +kernel) rfl
theorem wM_X3_253 : Cond.methodLink RX3 253 ⟨"java/lang/Math", "max", "(II)I"⟩ ∈ gWords := gmT 434 (by decide +kernel) rfl
theorem wM_X3_200 : Cond.methodLink RX3 200 yX3_fittestTeamAt ∈ gWords := gmT 435 (by decide +kernel) rfl
theorem wI_X3_fittestTeamAt : Cond.instanceMethod yX3_fittestTeamAt ∈ gWords := gmT 436 (by decide +kernel) rfl
theorem wS_X3_fittestTeamAt : Cond.selects RX3 yX3_fittestTeamAt yX3_fittestTeamAt ∈ gWords := gmT 437 (by decide +kernel) rfl
theorem wC_X3_fittestTeamAt : Cond.code yX3_fittestTeamAt cX3_fittestTeamAt 5 (some .int) ∈ gWords := gmT 438 (by decide +kernel) rfl
theorem wM_X3_224 : Cond.methodLink RX3 224 yX6_standsAt ∈ gWords := gmT 439 (by decide +kernel) rfl
theorem wI_X6_standsAt : Cond.instanceMethod yX6_standsAt ∈ gWords := gmT 440 (by decide +kernel) rfl
theorem wS_X6_standsAt : Cond.selects RX6 yX6_standsAt yX6_standsAt ∈ gWords := gmT 441 (by decide +kernel) rfl
theorem wC_X6_standsAt : Cond.code yX6_standsAt cX6_standsAt 2 (some .boolean) ∈ gWords := gmT 442 (by decide +kernel) rfl
theorem wM_X3_193 : Cond.methodLink RX3 193 yX3_sendLetter ∈ gWords := gmT 443 (by decide +kernel) rfl
theorem wI_X3_sendLetter : Cond.instanceMethod yX3_sendLetter ∈ gWords := gmT 444 (by decide +kernel) rfl
theorem wS_X3_sendLetter : Cond.selects RX3 yX3_sendLetter yX3_sendLetter ∈ gWords := gmT 445 (by decide +kernel) rfl
theorem wC_X3_sendLetter : Cond.code yX3_sendLetter cX3_sendLetter 6 none ∈ gWords := gmT 446 (by decide +kernel) rfl
theorem wM_X3_209 : Cond.methodLink RX3 209 yX6_setOut ∈ gWords := gmT 447 (by decide +kernel) rfl
theorem wI_X6_setOut : Cond.instanceMethod yX6_setOut ∈ gWords := gmT 448 (by decide +kernel) rfl
theorem wS_X6_setOut : Cond.selects RX6 yX6_setOut yX6_setOut ∈ gWords := gmT 449 (by decide +kernel) rfl
theorem wC_X6_setOut : Cond.code yX6_setOut cX6_setOut 3 none ∈ gWords := gmT 450 (by decide +kernel) rfl
theorem wM_X3_118 : Cond.methodLink RX3 118 yX3_sendTeamsBack ∈ gWords := gmT 452 (by decide +kernel) rfl
theorem wI_X3_sendTeamsBack : Cond.instanceMethod yX3_sendTeamsBack ∈ gWords := gmT 453 (by decide +kernel) rfl
theorem wS_X3_sendTeamsBack : Cond.selects RX3 yX3_sendTeamsBack yX3_sendTeamsBack ∈ gWords := gmT 454 (by decide +kernel) rfl
theorem wC_X3_sendTeamsBack : Cond.code yX3_sendTeamsBack cX3_sendTeamsBack 3 none ∈ gWords := gmT 455 (by decide +kernel) rfl
theorem wM_X3_231 : Cond.methodLink RX3 231 yX3_lettersAt ∈ gWords := gmT 456 (by decide +kernel) rfl
theorem wI_X3_lettersAt : Cond.instanceMethod yX3_lettersAt ∈ gWords := gmT 457 (by decide +kernel) rfl
theorem wS_X3_lettersAt : Cond.selects RX3 yX3_lettersAt yX3_lettersAt ∈ gWords := gmT 458 (by decide +kernel) rfl
theorem wC_X3_lettersAt : Cond.code yX3_lettersAt cX3_lettersAt 4 (some .int) ∈ gWords := gmT 459 (by decide +kernel) rfl
theorem wM_X3_234 : Cond.methodLink RX3 234 yX3_sendBack ∈ gWords := gmT 460 (by decide +kernel) rfl
theorem wI_X3_sendBack : Cond.instanceMethod yX3_sendBack ∈ gWords := gmT 461 (by decide +kernel) rfl
theorem wS_X3_sendBack : Cond.selects RX3 yX3_sendBack yX3_sendBack ∈ gWords := gmT 462 (by decide +kernel) rfl
theorem wC_X3_sendBack : Cond.code yX3_sendBack cX3_sendBack 4 none ∈ gWords := gmT 463 (by decide +kernel) rfl
theorem wM_L_125 : Cond.methodLink RL 125 yX7_bestInn ∈ gWords := gmT 464 (by decide +kernel) rfl
theorem wI_X7_bestInn : Cond.instanceMethod yX7_bestInn ∈ gWords := gmT 465 (by decide +kernel) rfl
theorem wS_X7_bestInn : Cond.selects RX7 yX7_bestInn yX7_bestInn ∈ gWords := gmT 466 (by decide +kernel) rfl
theorem wC_X7_bestInn : Cond.code yX7_bestInn cX7_bestInn 5 (some .int) ∈ gWords := gmT 467 (by decide +kernel) rfl
theorem wM_X7_78 : Cond.methodLink RX7 78 yX3_placeTeam ∈ gWords := gmT 468 (by decide +kernel) rfl
theorem wI_X3_placeTeam : Cond.instanceMethod yX3_placeTeam ∈ gWords := gmT 469 (by decide +kernel) rfl
theorem wS_X3_placeTeam : Cond.selects RX3 yX3_placeTeam yX3_placeTeam ∈ gWords := gmT 470 (by decide +kernel) rfl
theorem wC_X3_placeTeam : Cond.code yX3_placeTeam cX3_placeTeam 3 (some .int) ∈ gWords := gmT 471 (by decide +kernel) rfl
theorem wM_X3_88 : Cond.methodLink RX3 88 yX6_begin ∈ gWords := gmT 472 (by decide +kernel) rfl
theorem wI_X6_begin : Cond.instanceMethod yX6_begin ∈ gWords := gmT 473 (by decide +kernel) rfl
theorem wS_X6_begin : Cond.selects RX6 yX6_begin yX6_begin ∈ gWords := gmT 474 (by decide +kernel) rfl
theorem wC_X6_begin : Cond.code yX6_begin cX6_begin 3 none ∈ gWords := gmT 475 (by decide +kernel) rfl
theorem wM_X6_18 : Cond.methodLink RX6 18 yX6_stand ∈ gWords := gmT 476 (by decide +kernel) rfl
theorem wM_L_135 : Cond.methodLink RL 135 yX7_meanTiredness ∈ gWords := gmT 477 (by decide +kernel) rfl
theorem wI_X7_meanTiredness : Cond.instanceMethod yX7_meanTiredness ∈ gWords := gmT 478 (by decide +kernel) rfl
theorem wS_X7_meanTiredness : Cond.selects RX7 yX7_meanTiredness yX7_meanTiredness ∈ gWords := gmT 479 (by decide +kernel) rfl
theorem wC_X7_meanTiredness : Cond.code yX7_meanTiredness cX7_meanTiredness 3 (some .double) ∈ gWords := gmT 480 (by decide +kernel) rfl
theorem wM_L_143 : Cond.methodLink RL 143 yX7_clearText ∈ gWords := gmT 481 (by decide +kernel) rfl
theorem wI_X7_clearText : Cond.instanceMethod yX7_clearText ∈ gWords := gmT 482 (by decide +kernel) rfl
theorem wS_X7_clearText : Cond.selects RX7 yX7_clearText yX7_clearText ∈ gWords := gmT 483 (by decide +kernel) rfl
theorem wC_X7_clearText : Cond.code yX7_clearText cX7_clearText 2 (some .int) ∈ gWords := gmT 484 (by decide +kernel) rfl
theorem wM_L_147 : Cond.methodLink RL 147 yX7_parse ∈ gWords := gmT 485 (by decide +kernel) rfl
theorem wI_X7_parse : Cond.instanceMethod yX7_parse ∈ gWords := gmT 486 (by decide +kernel) rfl
theorem wS_X7_parse : Cond.selects RX7 yX7_parse yX7_parse ∈ gWords := gmT 487 (by decide +kernel) rfl
theorem wC_X7_parse : Cond.code yX7_parse cX7_parse 2 (some .int) ∈ gWords := gmT 488 (by decide +kernel) rfl
theorem wM_X7_179 : Cond.methodLink RX7 179 yX3_restart ∈ gWords := gmT 489 (by decide +kernel) rfl
theorem wM_X7_182 : Cond.methodLink RX7 182 yX4_readInto ∈ gWords := gmT 490 (by decide +kernel) rfl
theorem wI_X4_readInto : Cond.instanceMethod yX4_readInto ∈ gWords := gmT 491 (by decide +kernel) rfl
theorem wS_X4_readInto : Cond.selects RX4 yX4_readInto yX4_readInto ∈ gWords := gmT 492 (by decide +kernel) rfl
theorem wC_X4_readInto : Cond.code yX4_readInto cX4_readInto 3 (some .int) ∈ gWords := gmT 493 (by decide +kernel) rfl
theorem wM_X4_28 : Cond.methodLink RX4 28 yX4_readStage ∈ gWords := gmT 494 (by decide +kernel) rfl
theorem wI_X4_readStage : Cond.instanceMethod yX4_readStage ∈ gWords := gmT 495 (by decide +kernel) rfl
theorem wS_X4_readStage : Cond.selects RX4 yX4_readStage yX4_readStage ∈ gWords := gmT 496 (by decide +kernel) rfl
theorem wC_X4_readStage : Cond.code yX4_readStage cX4_readStage 5 (some .boolean) ∈ gWords := gmT 497 (by decide +kernel) rfl
theorem wM_X4_35 : Cond.methodLink RX4 35 yX4_digitStands ∈ gWords := gmT 498 (by decide +kernel) rfl
theorem wI_X4_digitStands : Cond.instanceMethod yX4_digitStands ∈ gWords := gmT 499 (by decide +kernel) rfl
theorem wS_X4_digitStands : Cond.selects RX4 yX4_digitStands yX4_digitStands ∈ gWords := gmT 500 (by decide +kernel) rfl
theorem wC_X4_digitStands : Cond.code yX4_digitStands cX4_digitStands 2 (some .boolean) ∈ gWords := gmT 501 (by decide +kernel) rfl
theorem wM_X4_39 : Cond.methodLink RX4 39 yX4_takeDigit ∈ gWords := gmT 502 (by decide +kernel) rfl
theorem wI_X4_takeDigit : Cond.instanceMethod yX4_takeDigit ∈ gWords := gmT 503 (by decide +kernel) rfl
theorem wS_X4_takeDigit : Cond.selects RX4 yX4_takeDigit yX4_takeDigit ∈ gWords := gmT 504 (by decide +kernel) rfl
theorem wC_X4_takeDigit : Cond.code yX4_takeDigit cX4_takeDigit 1 (some .int) ∈ gWords := gmT 505 (by decide +kernel) rfl
theorem wM_X4_43 : Cond.methodLink RX4 43 yX4_signStands ∈ gWords := gmT 506 (by decide +kernel) rfl
theorem wI_X4_signStands : Cond.instanceMethod yX4_signStands ∈ gWords := gmT 507 (by decide +kernel) rfl
theorem wS_X4_signStands : Cond.selects RX4 yX4_signStands yX4_signStands ∈ gWords := gmT 508 (by decide +kernel) rfl
theorem wC_X4_signStands : Cond.code yX4_signStands cX4_signStands 2 (some .boolean) ∈ gWords := gmT 509 (by decide +kernel) rfl
theorem wM_X4_47 : Cond.methodLink RX4 47 yX5_set ∈ gWords := gmT 510 (by decide +kernel) rfl
theorem wM_L_155 : Cond.methodLink RL 155 yX7_digest ∈ gWords := gmT 511 (by decide +kernel) rfl
theorem wI_X7_digest : Cond.instanceMethod yX7_digest ∈ gWords := gmT 512 (by decide +kernel) rfl
theorem wS_X7_digest : Cond.selects RX7 yX7_digest yX7_digest ∈ gWords := gmT 513 (by decide +kernel) rfl
theorem wC_X7_digest : Cond.code yX7_digest cX7_digest 4 (some .long) ∈ gWords := gmT 514 (by decide +kernel) rfl
theorem wL_X7_194 : Cond.constantLong RX7 194 (3491) ∈ gWords := gmT 515 (by decide +kernel) rfl
theorem wL_X7_196 : Cond.constantLong RX7 196 (31) ∈ gWords := gmT 516 (by decide +kernel) rfl
theorem wM_X7_137 : Cond.methodLink RX7 137 yX3_number ∈ gWords := gmT 517 (by decide +kernel) rfl
theorem wI_X3_number : Cond.instanceMethod yX3_number ∈ gWords := gmT 518 (by decide +kernel) rfl
theorem wS_X3_number : Cond.selects RX3 yX3_number yX3_number ∈ gWords := gmT 519 (by decide +kernel) rfl
theorem wC_X3_number : Cond.code yX3_number cX3_number 2 (some .int) ∈ gWords := gmT 520 (by decide +kernel) rfl
theorem wM_X7_198 : Cond.methodLink RX7 198 yX7_digestOfRoad ∈ gWords := gmT 521 (by decide +kernel) rfl
theorem wI_X7_digestOfRoad : Cond.instanceMethod yX7_digestOfRoad ∈ gWords := gmT 523 (by decide +kernel) rfl
theorem wC_X7_digestOfRoad : Cond.code yX7_digestOfRoad cX7_digestOfRoad 7 (some .long) ∈ gWords := gmT 524 (by decide +kernel) rfl
theorem wM_X7_114 : Cond.methodLink RX7 114 yX3_aboutStage ∈ gWords := gmT 525 (by decide +kernel) rfl
theorem wI_X3_aboutStage : Cond.instanceMethod yX3_aboutStage ∈ gWords := gmT 526 (by decide +kernel) rfl
theorem wS_X3_aboutStage : Cond.selects RX3 yX3_aboutStage yX3_aboutStage ∈ gWords := gmT 527 (by decide +kernel) rfl
theorem wC_X3_aboutStage : Cond.code yX3_aboutStage cX3_aboutStage 4 (some .int) ∈ gWords := gmT 528 (by decide +kernel) rfl
theorem wT_X7_oneIf : Cond.static yX7_oneIf ∈ gWords := gmT 530 (by decide +kernel) rfl
theorem wC_X7_oneIf : Cond.code yX7_oneIf cX7_oneIf 1 (some .int) ∈ gWords := gmT 531 (by decide +kernel) rfl
theorem wM_X3_276 : Cond.methodLink RX3 276 yX3_teamsOn ∈ gWords := gmT 532 (by decide +kernel) rfl
theorem wI_X3_teamsOn : Cond.instanceMethod yX3_teamsOn ∈ gWords := gmT 533 (by decide +kernel) rfl
theorem wS_X3_teamsOn : Cond.selects RX3 yX3_teamsOn yX3_teamsOn ∈ gWords := gmT 534 (by decide +kernel) rfl
theorem wC_X3_teamsOn : Cond.code yX3_teamsOn cX3_teamsOn 4 (some .int) ∈ gWords := gmT 535 (by decide +kernel) rfl
theorem wM_X7_117 : Cond.methodLink RX7 117 yX3_aboutInn ∈ gWords := gmT 536 (by decide +kernel) rfl
theorem wI_X3_aboutInn : Cond.instanceMethod yX3_aboutInn ∈ gWords := gmT 537 (by decide +kernel) rfl
theorem wS_X3_aboutInn : Cond.selects RX3 yX3_aboutInn yX3_aboutInn ∈ gWords := gmT 538 (by decide +kernel) rfl
theorem wC_X3_aboutInn : Cond.code yX3_aboutInn cX3_aboutInn 4 (some .int) ∈ gWords := gmT 539 (by decide +kernel) rfl
theorem wM_X3_279 : Cond.methodLink RX3 279 yX3_teamsAt ∈ gWords := gmT 540 (by decide +kernel) rfl
theorem wI_X3_teamsAt : Cond.instanceMethod yX3_teamsAt ∈ gWords := gmT 541 (by decide +kernel) rfl
theorem wS_X3_teamsAt : Cond.selects RX3 yX3_teamsAt yX3_teamsAt ∈ gWords := gmT 542 (by decide +kernel) rfl
theorem wC_X3_teamsAt : Cond.code yX3_teamsAt cX3_teamsAt 4 (some .int) ∈ gWords := gmT 543 (by decide +kernel) rfl
theorem wM_X7_202 : Cond.methodLink RX7 202 yX7_digestOfTeams ∈ gWords := gmT 544 (by decide +kernel) rfl
theorem wI_X7_digestOfTeams : Cond.instanceMethod yX7_digestOfTeams ∈ gWords := gmT 546 (by decide +kernel) rfl
theorem wC_X7_digestOfTeams : Cond.code yX7_digestOfTeams cX7_digestOfTeams 7 (some .long) ∈ gWords := gmT 547 (by decide +kernel) rfl
theorem wM_X7_124 : Cond.methodLink RX7 124 yX6_about ∈ gWords := gmT 548 (by decide +kernel) rfl
theorem wI_X6_about : Cond.instanceMethod yX6_about ∈ gWords := gmT 549 (by decide +kernel) rfl
theorem wS_X6_about : Cond.selects RX6 yX6_about yX6_about ∈ gWords := gmT 550 (by decide +kernel) rfl
theorem wC_X6_about : Cond.code yX6_about cX6_about 2 (some .int) ∈ gWords := gmT 551 (by decide +kernel) rfl
theorem wM_X7_205 : Cond.methodLink RX7 205 yX7_digestOfLetters ∈ gWords := gmT 553 (by decide +kernel) rfl
theorem wI_X7_digestOfLetters : Cond.instanceMethod yX7_digestOfLetters ∈ gWords := gmT 555 (by decide +kernel) rfl
theorem wC_X7_digestOfLetters : Cond.code yX7_digestOfLetters cX7_digestOfLetters 7 (some .long) ∈ gWords := gmT 556 (by decide +kernel) rfl
theorem wM_X7_134 : Cond.methodLink RX7 134 yX2_about ∈ gWords := gmT 557 (by decide +kernel) rfl
theorem wI_X2_about : Cond.instanceMethod yX2_about ∈ gWords := gmT 558 (by decide +kernel) rfl
theorem wS_X2_about : Cond.selects RX2 yX2_about yX2_about ∈ gWords := gmT 559 (by decide +kernel) rfl
theorem wC_X2_about : Cond.code yX2_about cX2_about 2 (some .int) ∈ gWords := gmT 560 (by decide +kernel) rfl
theorem wM_X7_140 : Cond.methodLink RX7 140 yX3_hindrance ∈ gWords := gmT 562 (by decide +kernel) rfl
theorem wM_L_72 : Cond.methodLink RL 72 yL_setStage ∈ gWords := gmT 563 (by decide +kernel) rfl
theorem wT_L_setStage : Cond.static yL_setStage ∈ gWords := gmT 564 (by decide +kernel) rfl
theorem wC_L_setStage : Cond.codeWith yL_setStage cL_setStage 7 (some .int) [(0, 14, 17, 13), (0, 14, 21, 15)] ∈ gWords := gmT 565 (by decide +kernel) rfl
theorem wK_L_13 : Cond.classLink RL 13 "java/lang/IndexOutOfBoundsException" ∈ gWords := gmT 566 (by decide +kernel) rfl
theorem wK_L_15 : Cond.classLink RL 15 "java/lang/IllegalArgumentException" ∈ gWords := gmT 567 (by decide +kernel) rfl
theorem wM_L_7 : Cond.methodLink RL 7 yX7_setStage ∈ gWords := gmT 568 (by decide +kernel) rfl
theorem wI_X7_setStage : Cond.instanceMethod yX7_setStage ∈ gWords := gmT 569 (by decide +kernel) rfl
theorem wS_X7_setStage : Cond.selects RX7 yX7_setStage yX7_setStage ∈ gWords := gmT 570 (by decide +kernel) rfl
theorem wC_X7_setStage : Cond.code yX7_setStage cX7_setStage 7 (some .int) ∈ gWords := gmT 571 (by decide +kernel) rfl
theorem wM_X7_37 : Cond.methodLink RX7 37 yX7_checkNumber ∈ gWords := gmT 572 (by decide +kernel) rfl
theorem wT_X7_checkNumber : Cond.static yX7_checkNumber ∈ gWords := gmT 573 (by decide +kernel) rfl
theorem wC_X7_checkNumber : Cond.code yX7_checkNumber cX7_checkNumber 2 none ∈ gWords := gmT 574 (by decide +kernel) rfl
theorem wK_X7_208 : Cond.classLink RX7 208 "java/lang/IndexOutOfBoundsException" ∈ gWords := gmT 575 (by decide +kernel) rfl
theorem wB_java_lang_IndexOutOfBoundsException : Cond.instantiable "java/lang/IndexOutOfBoundsException" 6 ∈ gWords := gmT 576 (by decide +kernel) rfl
theorem wI__java_lang_Throwable_init_V_ : Cond.instanceMethod ⟨"java/lang/Throwable", "<init>", "()V"⟩ ∈ gWords := gmT 598 (by decide +kernel) rfl
theorem wM_java_lang_Throwable_1 : Cond.methodLink "java/lang/Throwable" 1 ⟨"java/lang/Object", "<init>", "()V"⟩ ∈ gWords := gmT 600 (by decide +kernel) rfl
theorem wM_java_lang_Throwable_27 : Cond.methodLink "java/lang/Throwable" 27 ⟨"java/lang/Throwable", "fillInStackTrace", "()Ljava/lang/Throwable;"⟩ ∈ gWords := gmT 605 (by decide +kernel) rfl
theorem wI__java_lang_Throwable_fillInStackTrace_Ljava_lang_Throwable_ : Cond.instanceMethod ⟨"java/lang/Throwable", "fillInStackTrace", "()Ljava/lang/Throwable;"⟩ ∈ gWords := gmT 606 (by decide +kernel) rfl
theorem wM_java_lang_Throwable_202 : Cond.methodLink "java/lang/Throwable" 202 ⟨"java/lang/Throwable", "fillInStackTrace", "(I)Ljava/lang/Throwable;"⟩ ∈ gWords := gmT 611 (by decide +kernel) rfl
theorem wI__java_lang_Throwable_fillInStackTrace_I_Ljava_lang_Throwable_ : Cond.instanceMethod ⟨"java/lang/Throwable", "fillInStackTrace", "(I)Ljava/lang/Throwable;"⟩ ∈ gWords := gmT 613 (by decide +kernel) rfl
theorem wB_java_lang_Throwable : Cond.instantiable "java/lang/Throwable" 6 ∈ gWords := gmT 614 (by decide +kernel) rfl
theorem wM_X7_212 : Cond.methodLink RX7 212 ⟨"java/lang/IndexOutOfBoundsException", "<init>", "(Ljava/lang/String;)V"⟩ ∈ gWords := gmT 617 (by decide +kernel) rfl
theorem wI__java_lang_IndexOutOfBoundsException_init_Ljava_lang_String_V_ : Cond.instanceMethod ⟨"java/lang/IndexOutOfBoundsException", "<init>", "(Ljava/lang/String;)V"⟩ ∈ gWords := gmT 618 (by decide +kernel) rfl
theorem wM_java_lang_IndexOutOfBoundsException_7 : Cond.methodLink "java/lang/IndexOutOfBoundsException" 7 ⟨"java/lang/RuntimeException", "<init>", "(Ljava/lang/String;)V"⟩ ∈ gWords := gmT 620 (by decide +kernel) rfl
theorem wI__java_lang_RuntimeException_init_Ljava_lang_String_V_ : Cond.instanceMethod ⟨"java/lang/RuntimeException", "<init>", "(Ljava/lang/String;)V"⟩ ∈ gWords := gmT 621 (by decide +kernel) rfl
theorem wM_java_lang_RuntimeException_7 : Cond.methodLink "java/lang/RuntimeException" 7 ⟨"java/lang/Exception", "<init>", "(Ljava/lang/String;)V"⟩ ∈ gWords := gmT 623 (by decide +kernel) rfl
theorem wI__java_lang_Exception_init_Ljava_lang_String_V_ : Cond.instanceMethod ⟨"java/lang/Exception", "<init>", "(Ljava/lang/String;)V"⟩ ∈ gWords := gmT 624 (by decide +kernel) rfl
theorem wM_java_lang_Exception_7 : Cond.methodLink "java/lang/Exception" 7 ⟨"java/lang/Throwable", "<init>", "(Ljava/lang/String;)V"⟩ ∈ gWords := gmT 626 (by decide +kernel) rfl
theorem wI__java_lang_Throwable_init_Ljava_lang_String_V_ : Cond.instanceMethod ⟨"java/lang/Throwable", "<init>", "(Ljava/lang/String;)V"⟩ ∈ gWords := gmT 627 (by decide +kernel) rfl
theorem wM_X7_41 : Cond.methodLink RX7 41 yX7_checkRange ∈ gWords := gmT 642 (by decide +kernel) rfl
theorem wT_X7_checkRange : Cond.static yX7_checkRange ∈ gWords := gmT 643 (by decide +kernel) rfl
theorem wC_X7_checkRange : Cond.code yX7_checkRange cX7_checkRange 3 none ∈ gWords := gmT 644 (by decide +kernel) rfl
theorem wK_X7_82 : Cond.classLink RX7 82 "java/lang/IllegalArgumentException" ∈ gWords := gmT 645 (by decide +kernel) rfl
theorem wB_java_lang_IllegalArgumentException : Cond.instantiable "java/lang/IllegalArgumentException" 6 ∈ gWords := gmT 646 (by decide +kernel) rfl
theorem wM_X7_86 : Cond.methodLink RX7 86 ⟨"java/lang/IllegalArgumentException", "<init>", "(Ljava/lang/String;)V"⟩ ∈ gWords := gmT 655 (by decide +kernel) rfl
theorem wI__java_lang_IllegalArgumentException_init_Ljava_lang_String_V_ : Cond.instanceMethod ⟨"java/lang/IllegalArgumentException", "<init>", "(Ljava/lang/String;)V"⟩ ∈ gWords := gmT 656 (by decide +kernel) rfl
theorem wM_java_lang_IllegalArgumentException_7 : Cond.methodLink "java/lang/IllegalArgumentException" 7 ⟨"java/lang/RuntimeException", "<init>", "(Ljava/lang/String;)V"⟩ ∈ gWords := gmT 658 (by decide +kernel) rfl
theorem wM_X7_58 : Cond.methodLink RX7 58 yX5_set ∈ gWords := gmT 661 (by decide +kernel) rfl
theorem wM_L_81 : Cond.methodLink RL 81 yL_setInn ∈ gWords := gmT 662 (by decide +kernel) rfl
theorem wT_L_setInn : Cond.static yL_setInn ∈ gWords := gmT 663 (by decide +kernel) rfl
theorem wC_L_setInn : Cond.codeWith yL_setInn cL_setInn 7 (some .int) [(0, 14, 17, 13), (0, 14, 21, 15)] ∈ gWords := gmT 664 (by decide +kernel) rfl
theorem wM_L_17 : Cond.methodLink RL 17 yX7_setInn ∈ gWords := gmT 665 (by decide +kernel) rfl
theorem wI_X7_setInn : Cond.instanceMethod yX7_setInn ∈ gWords := gmT 666 (by decide +kernel) rfl
theorem wS_X7_setInn : Cond.selects RX7 yX7_setInn yX7_setInn ∈ gWords := gmT 667 (by decide +kernel) rfl
theorem wC_X7_setInn : Cond.code yX7_setInn cX7_setInn 7 (some .int) ∈ gWords := gmT 668 (by decide +kernel) rfl
theorem wM_X7_71 : Cond.methodLink RX7 71 yX1_set ∈ gWords := gmT 669 (by decide +kernel) rfl
theorem wM_L_84 : Cond.methodLink RL 84 yL_addTeam ∈ gWords := gmT 670 (by decide +kernel) rfl
theorem wT_L_addTeam : Cond.static yL_addTeam ∈ gWords := gmT 671 (by decide +kernel) rfl
theorem wC_L_addTeam : Cond.codeWith yL_addTeam cL_addTeam 5 (some .int) [(0, 10, 13, 13), (0, 10, 17, 15), (0, 10, 21, 24)] ∈ gWords := gmT 672 (by decide +kernel) rfl
theorem wK_L_24 : Cond.classLink RL 24 "java/lang/IllegalStateException" ∈ gWords := gmT 673 (by decide +kernel) rfl
theorem wM_L_20 : Cond.methodLink RL 20 yX7_addTeam ∈ gWords := gmT 674 (by decide +kernel) rfl
theorem wI_X7_addTeam : Cond.instanceMethod yX7_addTeam ∈ gWords := gmT 675 (by decide +kernel) rfl
theorem wS_X7_addTeam : Cond.selects RX7 yX7_addTeam yX7_addTeam ∈ gWords := gmT 676 (by decide +kernel) rfl
theorem wC_X7_addTeam : Cond.code yX7_addTeam cX7_addTeam 3 (some .int) ∈ gWords := gmT 677 (by decide +kernel) rfl
theorem wM_X7_75 : Cond.methodLink RX7 75 yX7_checkRoom ∈ gWords := gmT 678 (by decide +kernel) rfl
theorem wT_X7_checkRoom : Cond.static yX7_checkRoom ∈ gWords := gmT 679 (by decide +kernel) rfl
theorem wC_X7_checkRoom : Cond.code yX7_checkRoom cX7_checkRoom 2 none ∈ gWords := gmT 680 (by decide +kernel) rfl
theorem wK_X7_103 : Cond.classLink RX7 103 "java/lang/IllegalStateException" ∈ gWords := gmT 681 (by decide +kernel) rfl
theorem wB_java_lang_IllegalStateException : Cond.instantiable "java/lang/IllegalStateException" 6 ∈ gWords := gmT 682 (by decide +kernel) rfl
theorem wM_X7_107 : Cond.methodLink RX7 107 ⟨"java/lang/IllegalStateException", "<init>", "(Ljava/lang/String;)V"⟩ ∈ gWords := gmT 691 (by decide +kernel) rfl
theorem wI__java_lang_IllegalStateException_init_Ljava_lang_String_V_ : Cond.instanceMethod ⟨"java/lang/IllegalStateException", "<init>", "(Ljava/lang/String;)V"⟩ ∈ gWords := gmT 692 (by decide +kernel) rfl
theorem wM_java_lang_IllegalStateException_7 : Cond.methodLink "java/lang/IllegalStateException" 7 ⟨"java/lang/RuntimeException", "<init>", "(Ljava/lang/String;)V"⟩ ∈ gWords := gmT 694 (by decide +kernel) rfl
theorem wM_L_88 : Cond.methodLink RL 88 yL_give ∈ gWords := gmT 697 (by decide +kernel) rfl
theorem wT_L_give : Cond.static yL_give ∈ gWords := gmT 698 (by decide +kernel) rfl
theorem wC_L_give : Cond.codeWith yL_give cL_give 6 (some .int) [(0, 12, 15, 13), (0, 12, 19, 15), (0, 12, 23, 24)] ∈ gWords := gmT 699 (by decide +kernel) rfl
theorem wM_L_26 : Cond.methodLink RL 26 yX7_give ∈ gWords := gmT 700 (by decide +kernel) rfl
theorem wI_X7_give : Cond.instanceMethod yX7_give ∈ gWords := gmT 701 (by decide +kernel) rfl
theorem wS_X7_give : Cond.selects RX7 yX7_give yX7_give ∈ gWords := gmT 702 (by decide +kernel) rfl
theorem wC_X7_give : Cond.code yX7_give cX7_give 4 (some .int) ∈ gWords := gmT 703 (by decide +kernel) rfl
theorem wM_X7_92 : Cond.methodLink RX7 92 yX3_placeLetter ∈ gWords := gmT 705 (by decide +kernel) rfl
theorem wI_X3_placeLetter : Cond.instanceMethod yX3_placeLetter ∈ gWords := gmT 706 (by decide +kernel) rfl
theorem wS_X3_placeLetter : Cond.selects RX3 yX3_placeLetter yX3_placeLetter ∈ gWords := gmT 707 (by decide +kernel) rfl
theorem wC_X3_placeLetter : Cond.code yX3_placeLetter cX3_placeLetter 4 (some .int) ∈ gWords := gmT 708 (by decide +kernel) rfl
theorem wM_X3_92 : Cond.methodLink RX3 92 yX2_begin ∈ gWords := gmT 709 (by decide +kernel) rfl
theorem wI_X2_begin : Cond.instanceMethod yX2_begin ∈ gWords := gmT 710 (by decide +kernel) rfl
theorem wS_X2_begin : Cond.selects RX2 yX2_begin yX2_begin ∈ gWords := gmT 711 (by decide +kernel) rfl
theorem wC_X2_begin : Cond.code yX2_begin cX2_begin 5 none ∈ gWords := gmT 712 (by decide +kernel) rfl
theorem wM_L_96 : Cond.methodLink RL 96 yL_pass ∈ gWords := gmT 713 (by decide +kernel) rfl
theorem wT_L_pass : Cond.static yL_pass ∈ gWords := gmT 714 (by decide +kernel) rfl
theorem wC_L_pass : Cond.codeWith yL_pass cL_pass 4 (some .int) [(0, 9, 12, 15), (0, 9, 15, 24)] ∈ gWords := gmT 715 (by decide +kernel) rfl
theorem wM_L_30 : Cond.methodLink RL 30 yX7_pass ∈ gWords := gmT 716 (by decide +kernel) rfl
theorem wI_X7_pass : Cond.instanceMethod yX7_pass ∈ gWords := gmT 717 (by decide +kernel) rfl
theorem wS_X7_pass : Cond.selects RX7 yX7_pass yX7_pass ∈ gWords := gmT 718 (by decide +kernel) rfl
theorem wC_X7_pass : Cond.code yX7_pass cX7_pass 4 (some .int) ∈ gWords := gmT 719 (by decide +kernel) rfl
theorem wM_X7_111 : Cond.methodLink RX7 111 yX3_passHour ∈ gWords := gmT 721 (by decide +kernel) rfl
theorem wM_L_100 : Cond.methodLink RL 100 yL_stage ∈ gWords := gmT 722 (by decide +kernel) rfl
theorem wT_L_stage : Cond.static yL_stage ∈ gWords := gmT 723 (by decide +kernel) rfl
theorem wC_L_stage : Cond.codeWith yL_stage cL_stage 5 (some .int) [(0, 10, 13, 13), (0, 10, 17, 15)] ∈ gWords := gmT 724 (by decide +kernel) rfl
theorem wM_L_34 : Cond.methodLink RL 34 yX7_stage ∈ gWords := gmT 725 (by decide +kernel) rfl
theorem wI_X7_stage : Cond.instanceMethod yX7_stage ∈ gWords := gmT 726 (by decide +kernel) rfl
theorem wS_X7_stage : Cond.selects RX7 yX7_stage yX7_stage ∈ gWords := gmT 727 (by decide +kernel) rfl
theorem wC_X7_stage : Cond.code yX7_stage cX7_stage 3 (some .int) ∈ gWords := gmT 728 (by decide +kernel) rfl
theorem wM_L_103 : Cond.methodLink RL 103 yL_inn ∈ gWords := gmT 729 (by decide +kernel) rfl
theorem wT_L_inn : Cond.static yL_inn ∈ gWords := gmT 730 (by decide +kernel) rfl
theorem wC_L_inn : Cond.codeWith yL_inn cL_inn 5 (some .int) [(0, 10, 13, 13), (0, 10, 17, 15)] ∈ gWords := gmT 731 (by decide +kernel) rfl
theorem wM_L_37 : Cond.methodLink RL 37 yX7_inn ∈ gWords := gmT 732 (by decide +kernel) rfl
theorem wI_X7_inn : Cond.instanceMethod yX7_inn ∈ gWords := gmT 733 (by decide +kernel) rfl
theorem wS_X7_inn : Cond.selects RX7 yX7_inn yX7_inn ∈ gWords := gmT 734 (by decide +kernel) rfl
theorem wC_X7_inn : Cond.code yX7_inn cX7_inn 3 (some .int) ∈ gWords := gmT 735 (by decide +kernel) rfl
theorem wM_L_106 : Cond.methodLink RL 106 yL_team ∈ gWords := gmT 736 (by decide +kernel) rfl
theorem wT_L_team : Cond.static yL_team ∈ gWords := gmT 737 (by decide +kernel) rfl
theorem wC_L_team : Cond.codeWith yL_team cL_team 5 (some .int) [(0, 10, 13, 13), (0, 10, 17, 15)] ∈ gWords := gmT 738 (by decide +kernel) rfl
theorem wM_L_40 : Cond.methodLink RL 40 yX7_team ∈ gWords := gmT 739 (by decide +kernel) rfl
theorem wI_X7_team : Cond.instanceMethod yX7_team ∈ gWords := gmT 740 (by decide +kernel) rfl
theorem wS_X7_team : Cond.selects RX7 yX7_team yX7_team ∈ gWords := gmT 741 (by decide +kernel) rfl
theorem wC_X7_team : Cond.code yX7_team cX7_team 3 (some .int) ∈ gWords := gmT 742 (by decide +kernel) rfl
theorem wM_L_109 : Cond.methodLink RL 109 yL_letter ∈ gWords := gmT 743 (by decide +kernel) rfl
theorem wT_L_letter : Cond.static yL_letter ∈ gWords := gmT 744 (by decide +kernel) rfl
theorem wC_L_letter : Cond.codeWith yL_letter cL_letter 5 (some .int) [(0, 10, 13, 13), (0, 10, 17, 15)] ∈ gWords := gmT 745 (by decide +kernel) rfl
theorem wM_L_43 : Cond.methodLink RL 43 yX7_letter ∈ gWords := gmT 746 (by decide +kernel) rfl
theorem wI_X7_letter : Cond.instanceMethod yX7_letter ∈ gWords := gmT 747 (by decide +kernel) rfl
theorem wS_X7_letter : Cond.selects RX7 yX7_letter yX7_letter ∈ gWords := gmT 748 (by decide +kernel) rfl
theorem wC_X7_letter : Cond.code yX7_letter cX7_letter 3 (some .int) ∈ gWords := gmT 749 (by decide +kernel) rfl
theorem wM_L_112 : Cond.methodLink RL 112 yL_value ∈ gWords := gmT 750 (by decide +kernel) rfl
theorem wT_L_value : Cond.static yL_value ∈ gWords := gmT 751 (by decide +kernel) rfl
theorem wC_L_value : Cond.codeWith yL_value cL_value 4 (some .int) [(0, 9, 12, 15)] ∈ gWords := gmT 752 (by decide +kernel) rfl
theorem wM_L_46 : Cond.methodLink RL 46 yX7_value ∈ gWords := gmT 753 (by decide +kernel) rfl
theorem wI_X7_value : Cond.instanceMethod yX7_value ∈ gWords := gmT 754 (by decide +kernel) rfl
theorem wS_X7_value : Cond.selects RX7 yX7_value yX7_value ∈ gWords := gmT 755 (by decide +kernel) rfl
theorem wC_X7_value : Cond.code yX7_value cX7_value 2 (some .int) ∈ gWords := gmT 756 (by decide +kernel) rfl
theorem wM_L_115 : Cond.methodLink RL 115 yL_why ∈ gWords := gmT 757 (by decide +kernel) rfl
theorem wT_L_why : Cond.static yL_why ∈ gWords := gmT 758 (by decide +kernel) rfl
theorem wC_L_why : Cond.codeWith yL_why cL_why 4 (some .int) [(0, 9, 12, 13)] ∈ gWords := gmT 759 (by decide +kernel) rfl
theorem wM_L_49 : Cond.methodLink RL 49 yX7_why ∈ gWords := gmT 760 (by decide +kernel) rfl
theorem wI_X7_why : Cond.instanceMethod yX7_why ∈ gWords := gmT 761 (by decide +kernel) rfl
theorem wS_X7_why : Cond.selects RX7 yX7_why yX7_why ∈ gWords := gmT 762 (by decide +kernel) rfl
theorem wC_X7_why : Cond.code yX7_why cX7_why 2 (some .int) ∈ gWords := gmT 763 (by decide +kernel) rfl
theorem wM_L_118 : Cond.methodLink RL 118 yL_hoursTo ∈ gWords := gmT 764 (by decide +kernel) rfl
theorem wT_L_hoursTo : Cond.static yL_hoursTo ∈ gWords := gmT 765 (by decide +kernel) rfl
theorem wC_L_hoursTo : Cond.codeWith yL_hoursTo cL_hoursTo 4 (some .int) [(0, 9, 12, 13)] ∈ gWords := gmT 766 (by decide +kernel) rfl
theorem wM_L_52 : Cond.methodLink RL 52 yX7_hoursTo ∈ gWords := gmT 767 (by decide +kernel) rfl
theorem wI_X7_hoursTo : Cond.instanceMethod yX7_hoursTo ∈ gWords := gmT 768 (by decide +kernel) rfl
theorem wS_X7_hoursTo : Cond.selects RX7 yX7_hoursTo yX7_hoursTo ∈ gWords := gmT 769 (by decide +kernel) rfl
theorem wC_X7_hoursTo : Cond.code yX7_hoursTo cX7_hoursTo 2 (some .int) ∈ gWords := gmT 770 (by decide +kernel) rfl
theorem wM_L_129 : Cond.methodLink RL 129 yL_way ∈ gWords := gmT 771 (by decide +kernel) rfl
theorem wT_L_way : Cond.static yL_way ∈ gWords := gmT 772 (by decide +kernel) rfl
theorem wC_L_way : Cond.codeWith yL_way cL_way 5 (some .int) [(0, 10, 13, 13)] ∈ gWords := gmT 773 (by decide +kernel) rfl
theorem wM_L_55 : Cond.methodLink RL 55 yX7_way ∈ gWords := gmT 774 (by decide +kernel) rfl
theorem wI_X7_way : Cond.instanceMethod yX7_way ∈ gWords := gmT 775 (by decide +kernel) rfl
theorem wS_X7_way : Cond.selects RX7 yX7_way yX7_way ∈ gWords := gmT 776 (by decide +kernel) rfl
theorem wC_X7_way : Cond.code yX7_way cX7_way 3 (some .int) ∈ gWords := gmT 777 (by decide +kernel) rfl
theorem wM_X7_149 : Cond.methodLink RX7 149 ⟨"java/lang/Math", "min", "(II)I"⟩ ∈ gWords := gmT 778 (by decide +kernel) rfl
theorem wM_X7_154 : Cond.methodLink RX7 154 ⟨"java/lang/Math", "max", "(II)I"⟩ ∈ gWords := gmT 779 (by decide +kernel) rfl
theorem wM_X7_157 : Cond.methodLink RX7 157 yX3_hoursBetween ∈ gWords := gmT 780 (by decide +kernel) rfl
theorem wI_X3_hoursBetween : Cond.instanceMethod yX3_hoursBetween ∈ gWords := gmT 781 (by decide +kernel) rfl
theorem wS_X3_hoursBetween : Cond.selects RX3 yX3_hoursBetween yX3_hoursBetween ∈ gWords := gmT 782 (by decide +kernel) rfl
theorem wC_X3_hoursBetween : Cond.code yX3_hoursBetween cX3_hoursBetween 5 (some .int) ∈ gWords := gmT 783 (by decide +kernel) rfl
theorem wM_L_132 : Cond.methodLink RL 132 yL_effortHome ∈ gWords := gmT 784 (by decide +kernel) rfl
theorem wT_L_effortHome : Cond.static yL_effortHome ∈ gWords := gmT 785 (by decide +kernel) rfl
theorem wC_L_effortHome : Cond.codeWith yL_effortHome cL_effortHome 4 (some .int) [(0, 9, 12, 13)] ∈ gWords := gmT 786 (by decide +kernel) rfl
theorem wM_L_58 : Cond.methodLink RL 58 yX7_effortHome ∈ gWords := gmT 787 (by decide +kernel) rfl
theorem wI_X7_effortHome : Cond.instanceMethod yX7_effortHome ∈ gWords := gmT 788 (by decide +kernel) rfl
theorem wS_X7_effortHome : Cond.selects RX7 yX7_effortHome yX7_effortHome ∈ gWords := gmT 789 (by decide +kernel) rfl
theorem wC_X7_effortHome : Cond.code yX7_effortHome cX7_effortHome 3 (some .int) ∈ gWords := gmT 790 (by decide +kernel) rfl
theorem wM_X7_166 : Cond.methodLink RX7 166 yX3_effortBetween ∈ gWords := gmT 791 (by decide +kernel) rfl
theorem wI_X3_effortBetween : Cond.instanceMethod yX3_effortBetween ∈ gWords := gmT 792 (by decide +kernel) rfl
theorem wS_X3_effortBetween : Cond.selects RX3 yX3_effortBetween yX3_effortBetween ∈ gWords := gmT 793 (by decide +kernel) rfl
theorem wC_X3_effortBetween : Cond.code yX3_effortBetween cX3_effortBetween 6 (some .int) ∈ gWords := gmT 794 (by decide +kernel) rfl
theorem wM_X3_258 : Cond.methodLink RX3 258 ⟨"java/lang/Math", "min", "(II)I"⟩ ∈ gWords := gmT 795 (by decide +kernel) rfl
theorem wM_L_140 : Cond.methodLink RL 140 yL_append ∈ gWords := gmT 796 (by decide +kernel) rfl
theorem wT_L_append : Cond.static yL_append ∈ gWords := gmT 797 (by decide +kernel) rfl
theorem wC_L_append : Cond.codeWith yL_append cL_append 4 (some .int) [(0, 9, 12, 15), (0, 9, 15, 24)] ∈ gWords := gmT 798 (by decide +kernel) rfl
theorem wM_L_61 : Cond.methodLink RL 61 yX7_append ∈ gWords := gmT 799 (by decide +kernel) rfl
theorem wI_X7_append : Cond.instanceMethod yX7_append ∈ gWords := gmT 800 (by decide +kernel) rfl
theorem wS_X7_append : Cond.selects RX7 yX7_append yX7_append ∈ gWords := gmT 801 (by decide +kernel) rfl
theorem wC_X7_append : Cond.code yX7_append cX7_append 2 (some .int) ∈ gWords := gmT 802 (by decide +kernel) rfl
theorem wM_X7_175 : Cond.methodLink RX7 175 yX4_add ∈ gWords := gmT 803 (by decide +kernel) rfl
theorem wI_X4_add : Cond.instanceMethod yX4_add ∈ gWords := gmT 804 (by decide +kernel) rfl
theorem wS_X4_add : Cond.selects RX4 yX4_add yX4_add ∈ gWords := gmT 805 (by decide +kernel) rfl
theorem wC_X4_add : Cond.code yX4_add cX4_add 2 none ∈ gWords := gmT 806 (by decide +kernel) rfl
theorem wM_L_151 : Cond.methodLink RL 151 yL_undo ∈ gWords := gmT 807 (by decide +kernel) rfl
theorem wT_L_undo : Cond.static yL_undo ∈ gWords := gmT 808 (by decide +kernel) rfl
theorem wC_L_undo : Cond.codeWith yL_undo cL_undo 3 (some .int) [(0, 8, 11, 24)] ∈ gWords := gmT 809 (by decide +kernel) rfl
theorem wM_L_64 : Cond.methodLink RL 64 yX7_undo ∈ gWords := gmT 810 (by decide +kernel) rfl
theorem wI_X7_undo : Cond.instanceMethod yX7_undo ∈ gWords := gmT 811 (by decide +kernel) rfl
theorem wS_X7_undo : Cond.selects RX7 yX7_undo yX7_undo ∈ gWords := gmT 812 (by decide +kernel) rfl
theorem wC_X7_undo : Cond.code yX7_undo cX7_undo 1 (some .int) ∈ gWords := gmT 813 (by decide +kernel) rfl
theorem wM_X7_191 : Cond.methodLink RX7 191 yX0_restore ∈ gWords := gmT 815 (by decide +kernel) rfl
theorem wI_X0_restore : Cond.instanceMethod yX0_restore ∈ gWords := gmT 816 (by decide +kernel) rfl
theorem wS_X0_restore : Cond.selects RX0 yX0_restore yX0_restore ∈ gWords := gmT 817 (by decide +kernel) rfl
theorem wC_X0_restore : Cond.code yX0_restore cX0_restore 2 none ∈ gWords := gmT 818 (by decide +kernel) rfl
theorem wK_L_69 : Cond.classLink RL 69 RX8 ∈ gWords := gmT 819 (by decide +kernel) rfl
theorem wB_X8 : Cond.instantiable RX8 11 ∈ gWords := gmT 820 (by decide +kernel) rfl
theorem wM_L_71 : Cond.methodLink RL 71 yX8_init ∈ gWords := gmT 821 (by decide +kernel) rfl
theorem wI_X8_init : Cond.instanceMethod yX8_init ∈ gWords := gmT 822 (by decide +kernel) rfl
theorem wC_X8_init : Cond.code yX8_init cX8_init 1 none ∈ gWords := gmT 823 (by decide +kernel) rfl
theorem wM_X8_1 : Cond.methodLink RX8 1 ⟨"java/lang/Object", "<init>", "()V"⟩ ∈ gWords := gmT 824 (by decide +kernel) rfl
theorem wM_X8_29 : Cond.methodLink RX8 29 yX8_begins ∈ gWords := gmT 825 (by decide +kernel) rfl
theorem wI_X8_begins : Cond.instanceMethod yX8_begins ∈ gWords := gmT 827 (by decide +kernel) rfl
theorem wC_X8_begins : Cond.code yX8_begins cX8_begins 3 none ∈ gWords := gmT 828 (by decide +kernel) rfl
theorem wF_X8_7 : Cond.fieldLink RX8 7 "PostRoadModel" "all" "[I" ∈ gWords := gmT 829 (by decide +kernel) rfl
theorem wF_X8_13 : Cond.fieldLink RX8 13 "PostRoadModel" "saved" "[I" ∈ gWords := gmT 830 (by decide +kernel) rfl
theorem wF_X8_16 : Cond.fieldLink RX8 16 "PostRoadModel" "aside" "[I" ∈ gWords := gmT 831 (by decide +kernel) rfl
theorem wF_X8_37 : Cond.fieldLink RX8 37 "PostRoadModel" "savedMany" "I" ∈ gWords := gmT 832 (by decide +kernel) rfl
theorem wF_X8_33 : Cond.fieldLink RX8 33 "PostRoadModel" "threw" "I" ∈ gWords := gmT 833 (by decide +kernel) rfl
theorem wF_X8_19 : Cond.fieldLink RX8 19 "PostRoadModel" "wasAsked" "[Z" ∈ gWords := gmT 834 (by decide +kernel) rfl
theorem wF_X8_23 : Cond.fieldLink RX8 23 "PostRoadModel" "text" "[I" ∈ gWords := gmT 835 (by decide +kernel) rfl
theorem wF_X8_210 : Cond.fieldLink RX8 210 "PostRoadModel" "textLong" "I" ∈ gWords := gmT 836 (by decide +kernel) rfl
theorem wF_X8_213 : Cond.fieldLink RX8 213 "PostRoadModel" "place" "I" ∈ gWords := gmT 837 (by decide +kernel) rfl
theorem wF_X8_26 : Cond.fieldLink RX8 26 "PostRoadModel" "read" "[I" ∈ gWords := gmT 838 (by decide +kernel) rfl
theorem wF_X8_216 : Cond.fieldLink RX8 216 "PostRoadModel" "stages" "I" ∈ gWords := gmT 839 (by decide +kernel) rfl
theorem wM_L_78 : Cond.methodLink RL 78 yX8_thrown ∈ gWords := gmT 865 (by decide +kernel) rfl
theorem wI_X8_thrown : Cond.instanceMethod yX8_thrown ∈ gWords := gmT 866 (by decide +kernel) rfl
theorem wS_X8_thrown : Cond.selects RX8 yX8_thrown yX8_thrown ∈ gWords := gmT 867 (by decide +kernel) rfl
theorem wC_X8_thrown : Cond.code yX8_thrown cX8_thrown 1 (some .int) ∈ gWords := gmT 868 (by decide +kernel) rfl
theorem wM_L_77 : Cond.methodLink RL 77 yX8_setStage ∈ gWords := gmT 869 (by decide +kernel) rfl
theorem wI_X8_setStage : Cond.instanceMethod yX8_setStage ∈ gWords := gmT 870 (by decide +kernel) rfl
theorem wS_X8_setStage : Cond.selects RX8 yX8_setStage yX8_setStage ∈ gWords := gmT 871 (by decide +kernel) rfl
theorem wC_X8_setStage : Cond.code yX8_setStage cX8_setStage 6 (some .int) ∈ gWords := gmT 872 (by decide +kernel) rfl
theorem wM_X8_60 : Cond.methodLink RX8 60 yX8_isStage ∈ gWords := gmT 873 (by decide +kernel) rfl
theorem wI_X8_isStage : Cond.instanceMethod yX8_isStage ∈ gWords := gmT 875 (by decide +kernel) rfl
theorem wC_X8_isStage : Cond.code yX8_isStage cX8_isStage 2 (some .boolean) ∈ gWords := gmT 876 (by decide +kernel) rfl
theorem wL_X8_44 : Cond.constantLong RX8 44 (2) ∈ gWords := gmT 877 (by decide +kernel) rfl
theorem wM_X8_40 : Cond.methodLink RX8 40 yX8_in ∈ gWords := gmT 878 (by decide +kernel) rfl
theorem wT_X8_in : Cond.static yX8_in ∈ gWords := gmT 879 (by decide +kernel) rfl
theorem wC_X8_in : Cond.code yX8_in cX8_in 6 (some .boolean) ∈ gWords := gmT 880 (by decide +kernel) rfl
theorem wM_X8_64 : Cond.methodLink RX8 64 yX8_throwing ∈ gWords := gmT 881 (by decide +kernel) rfl
theorem wI_X8_throwing : Cond.instanceMethod yX8_throwing ∈ gWords := gmT 883 (by decide +kernel) rfl
theorem wC_X8_throwing : Cond.code yX8_throwing cX8_throwing 2 (some .int) ∈ gWords := gmT 884 (by decide +kernel) rfl
theorem wL_X8_67 : Cond.constantLong RX8 67 (9) ∈ gWords := gmT 885 (by decide +kernel) rfl
theorem wL_X8_69 : Cond.constantLong RX8 69 (-5) ∈ gWords := gmT 886 (by decide +kernel) rfl
theorem wL_X8_71 : Cond.constantLong RX8 71 (5) ∈ gWords := gmT 887 (by decide +kernel) rfl
theorem wM_X8_73 : Cond.methodLink RX8 73 yX8_save ∈ gWords := gmT 888 (by decide +kernel) rfl
theorem wI_X8_save : Cond.instanceMethod yX8_save ∈ gWords := gmT 890 (by decide +kernel) rfl
theorem wC_X8_save : Cond.code yX8_save cX8_save 2 none ∈ gWords := gmT 891 (by decide +kernel) rfl
theorem wM_X8_56 : Cond.methodLink RX8 56 yX8_hoursOf ∈ gWords := gmT 892 (by decide +kernel) rfl
theorem wI_X8_hoursOf : Cond.instanceMethod yX8_hoursOf ∈ gWords := gmT 894 (by decide +kernel) rfl
theorem wC_X8_hoursOf : Cond.code yX8_hoursOf cX8_hoursOf 2 (some .int) ∈ gWords := gmT 895 (by decide +kernel) rfl
theorem wM_X8_76 : Cond.methodLink RX8 76 yX8_fine ∈ gWords := gmT 896 (by decide +kernel) rfl
theorem wI_X8_fine : Cond.instanceMethod yX8_fine ∈ gWords := gmT 898 (by decide +kernel) rfl
theorem wC_X8_fine : Cond.code yX8_fine cX8_fine 2 (some .int) ∈ gWords := gmT 899 (by decide +kernel) rfl
theorem wM_L_83 : Cond.methodLink RL 83 yX8_setInn ∈ gWords := gmT 900 (by decide +kernel) rfl
theorem wI_X8_setInn : Cond.instanceMethod yX8_setInn ∈ gWords := gmT 901 (by decide +kernel) rfl
theorem wS_X8_setInn : Cond.selects RX8 yX8_setInn yX8_setInn ∈ gWords := gmT 902 (by decide +kernel) rfl
theorem wC_X8_setInn : Cond.code yX8_setInn cX8_setInn 6 (some .int) ∈ gWords := gmT 903 (by decide +kernel) rfl
theorem wM_X8_79 : Cond.methodLink RX8 79 yX8_isInn ∈ gWords := gmT 904 (by decide +kernel) rfl
theorem wI_X8_isInn : Cond.instanceMethod yX8_isInn ∈ gWords := gmT 906 (by decide +kernel) rfl
theorem wC_X8_isInn : Cond.code yX8_isInn cX8_isInn 2 (some .boolean) ∈ gWords := gmT 907 (by decide +kernel) rfl
theorem wL_X8_82 : Cond.constantLong RX8 82 (6) ∈ gWords := gmT 908 (by decide +kernel) rfl
theorem wL_X8_84 : Cond.constantLong RX8 84 (999) ∈ gWords := gmT 909 (by decide +kernel) rfl
theorem wM_L_87 : Cond.methodLink RL 87 yX8_addTeam ∈ gWords := gmT 910 (by decide +kernel) rfl
theorem wI_X8_addTeam : Cond.instanceMethod yX8_addTeam ∈ gWords := gmT 911 (by decide +kernel) rfl
theorem wS_X8_addTeam : Cond.selects RX8 yX8_addTeam yX8_addTeam ∈ gWords := gmT 912 (by decide +kernel) rfl
theorem wC_X8_addTeam : Cond.code yX8_addTeam cX8_addTeam 3 (some .int) ∈ gWords := gmT 913 (by decide +kernel) rfl
theorem wL_X8_86 : Cond.constantLong RX8 86 (100) ∈ gWords := gmT 914 (by decide +kernel) rfl
theorem wM_X8_88 : Cond.methodLink RX8 88 yX8_adds ∈ gWords := gmT 915 (by decide +kernel) rfl
theorem wI_X8_adds : Cond.instanceMethod yX8_adds ∈ gWords := gmT 917 (by decide +kernel) rfl
theorem wC_X8_adds : Cond.code yX8_adds cX8_adds 5 none ∈ gWords := gmT 918 (by decide +kernel) rfl
theorem wM_X8_46 : Cond.methodLink RX8 46 yX8_teamAt ∈ gWords := gmT 919 (by decide +kernel) rfl
theorem wT_X8_teamAt : Cond.static yX8_teamAt ∈ gWords := gmT 920 (by decide +kernel) rfl
theorem wC_X8_teamAt : Cond.code yX8_teamAt cX8_teamAt 2 (some .int) ∈ gWords := gmT 921 (by decide +kernel) rfl
theorem wM_L_91 : Cond.methodLink RL 91 yX8_give ∈ gWords := gmT 922 (by decide +kernel) rfl
theorem wI_X8_give : Cond.instanceMethod yX8_give ∈ gWords := gmT 923 (by decide +kernel) rfl
theorem wS_X8_give : Cond.selects RX8 yX8_give yX8_give ∈ gWords := gmT 924 (by decide +kernel) rfl
theorem wC_X8_give : Cond.code yX8_give cX8_give 5 (some .int) ∈ gWords := gmT 925 (by decide +kernel) rfl
theorem wM_X8_50 : Cond.methodLink RX8 50 yX8_letterAt ∈ gWords := gmT 926 (by decide +kernel) rfl
theorem wT_X8_letterAt : Cond.static yX8_letterAt ∈ gWords := gmT 927 (by decide +kernel) rfl
theorem wC_X8_letterAt : Cond.code yX8_letterAt cX8_letterAt 2 (some .int) ∈ gWords := gmT 928 (by decide +kernel) rfl
theorem wM_L_95 : Cond.methodLink RL 95 yX8_collect ∈ gWords := gmT 929 (by decide +kernel) rfl
theorem wI_X8_collect : Cond.instanceMethod yX8_collect ∈ gWords := gmT 930 (by decide +kernel) rfl
theorem wS_X8_collect : Cond.selects RX8 yX8_collect yX8_collect ∈ gWords := gmT 931 (by decide +kernel) rfl
theorem wC_X8_collect : Cond.code yX8_collect cX8_collect 6 (some .int) ∈ gWords := gmT 932 (by decide +kernel) rfl
theorem wM_X8_95 : Cond.methodLink RX8 95 yX8_isDelivered ∈ gWords := gmT 933 (by decide +kernel) rfl
theorem wI_X8_isDelivered : Cond.instanceMethod yX8_isDelivered ∈ gWords := gmT 935 (by decide +kernel) rfl
theorem wC_X8_isDelivered : Cond.code yX8_isDelivered cX8_isDelivered 2 (some .boolean) ∈ gWords := gmT 936 (by decide +kernel) rfl
theorem wM_X8_92 : Cond.methodLink RX8 92 yX8_ofLetter ∈ gWords := gmT 937 (by decide +kernel) rfl
theorem wI_X8_ofLetter : Cond.instanceMethod yX8_ofLetter ∈ gWords := gmT 939 (by decide +kernel) rfl
theorem wC_X8_ofLetter : Cond.code yX8_ofLetter cX8_ofLetter 3 (some .int) ∈ gWords := gmT 940 (by decide +kernel) rfl
theorem wM_L_99 : Cond.methodLink RL 99 yX8_pass ∈ gWords := gmT 941 (by decide +kernel) rfl
theorem wI_X8_pass : Cond.instanceMethod yX8_pass ∈ gWords := gmT 942 (by decide +kernel) rfl
theorem wS_X8_pass : Cond.selects RX8 yX8_pass yX8_pass ∈ gWords := gmT 943 (by decide +kernel) rfl
theorem wC_X8_pass : Cond.code yX8_pass cX8_pass 4 (some .int) ∈ gWords := gmT 944 (by decide +kernel) rfl
theorem wL_X8_160 : Cond.constantLong RX8 160 (200) ∈ gWords := gmT 945 (by decide +kernel) rfl
theorem wM_X8_162 : Cond.methodLink RX8 162 yX8_hour ∈ gWords := gmT 946 (by decide +kernel) rfl
theorem wI_X8_hour : Cond.instanceMethod yX8_hour ∈ gWords := gmT 948 (by decide +kernel) rfl
theorem wC_X8_hour : Cond.code yX8_hour cX8_hour 1 none ∈ gWords := gmT 949 (by decide +kernel) rfl
theorem wM_X8_148 : Cond.methodLink RX8 148 yX8_rests ∈ gWords := gmT 950 (by decide +kernel) rfl
theorem wI_X8_rests : Cond.instanceMethod yX8_rests ∈ gWords := gmT 952 (by decide +kernel) rfl
theorem wC_X8_rests : Cond.code yX8_rests cX8_rests 5 none ∈ gWords := gmT 953 (by decide +kernel) rfl
theorem wM_X8_98 : Cond.methodLink RX8 98 yX8_of ∈ gWords := gmT 954 (by decide +kernel) rfl
theorem wI_X8_of : Cond.instanceMethod yX8_of ∈ gWords := gmT 956 (by decide +kernel) rfl
theorem wC_X8_of : Cond.code yX8_of cX8_of 3 (some .int) ∈ gWords := gmT 957 (by decide +kernel) rfl
theorem wM_X8_151 : Cond.methodLink RX8 151 yX8_roads ∈ gWords := gmT 958 (by decide +kernel) rfl
theorem wI_X8_roads : Cond.instanceMethod yX8_roads ∈ gWords := gmT 960 (by decide +kernel) rfl
theorem wC_X8_roads : Cond.code yX8_roads cX8_roads 2 none ∈ gWords := gmT 961 (by decide +kernel) rfl
theorem wM_X8_113 : Cond.methodLink RX8 113 yX8_arrives ∈ gWords := gmT 962 (by decide +kernel) rfl
theorem wI_X8_arrives : Cond.instanceMethod yX8_arrives ∈ gWords := gmT 964 (by decide +kernel) rfl
theorem wC_X8_arrives : Cond.code yX8_arrives cX8_arrives 5 none ∈ gWords := gmT 965 (by decide +kernel) rfl
theorem wM_X8_107 : Cond.methodLink RX8 107 yX8_effort ∈ gWords := gmT 966 (by decide +kernel) rfl
theorem wI_X8_effort : Cond.instanceMethod yX8_effort ∈ gWords := gmT 968 (by decide +kernel) rfl
theorem wC_X8_effort : Cond.code yX8_effort cX8_effort 6 (some .int) ∈ gWords := gmT 969 (by decide +kernel) rfl
theorem wM_X8_53 : Cond.methodLink RX8 53 yX8_between ∈ gWords := gmT 970 (by decide +kernel) rfl
theorem wT_X8_between : Cond.static yX8_between ∈ gWords := gmT 971 (by decide +kernel) rfl
theorem wC_X8_between : Cond.code yX8_between cX8_between 2 (some .int) ∈ gWords := gmT 972 (by decide +kernel) rfl
theorem wM_X8_110 : Cond.methodLink RX8 110 yX8_comes ∈ gWords := gmT 973 (by decide +kernel) rfl
theorem wI_X8_comes : Cond.instanceMethod yX8_comes ∈ gWords := gmT 975 (by decide +kernel) rfl
theorem wC_X8_comes : Cond.code yX8_comes cX8_comes 4 none ∈ gWords := gmT 976 (by decide +kernel) rfl
theorem wM_X8_154 : Cond.methodLink RX8 154 yX8_goOn ∈ gWords := gmT 977 (by decide +kernel) rfl
theorem wI_X8_goOn : Cond.instanceMethod yX8_goOn ∈ gWords := gmT 979 (by decide +kernel) rfl
theorem wC_X8_goOn : Cond.code yX8_goOn cX8_goOn 3 none ∈ gWords := gmT 980 (by decide +kernel) rfl
theorem wM_X8_104 : Cond.methodLink RX8 104 yX8_lies ∈ gWords := gmT 981 (by decide +kernel) rfl
theorem wI_X8_lies : Cond.instanceMethod yX8_lies ∈ gWords := gmT 983 (by decide +kernel) rfl
theorem wC_X8_lies : Cond.code yX8_lies cX8_lies 2 (some .boolean) ∈ gWords := gmT 984 (by decide +kernel) rfl
theorem wM_X8_138 : Cond.methodLink RX8 138 yX8_isAhead ∈ gWords := gmT 985 (by decide +kernel) rfl
theorem wI_X8_isAhead : Cond.instanceMethod yX8_isAhead ∈ gWords := gmT 987 (by decide +kernel) rfl
theorem wC_X8_isAhead : Cond.code yX8_isAhead cX8_isAhead 4 (some .boolean) ∈ gWords := gmT 988 (by decide +kernel) rfl
theorem wM_X8_142 : Cond.methodLink RX8 142 yX8_goesOn ∈ gWords := gmT 989 (by decide +kernel) rfl
theorem wI_X8_goesOn : Cond.instanceMethod yX8_goesOn ∈ gWords := gmT 991 (by decide +kernel) rfl
theorem wC_X8_goesOn : Cond.code yX8_goesOn cX8_goesOn 5 none ∈ gWords := gmT 992 (by decide +kernel) rfl
theorem wM_X8_131 : Cond.methodLink RX8 131 yX8_whyNot ∈ gWords := gmT 993 (by decide +kernel) rfl
theorem wI_X8_whyNot : Cond.instanceMethod yX8_whyNot ∈ gWords := gmT 995 (by decide +kernel) rfl
theorem wC_X8_whyNot : Cond.code yX8_whyNot cX8_whyNot 4 (some .int) ∈ gWords := gmT 996 (by decide +kernel) rfl
theorem wM_X8_116 : Cond.methodLink RX8 116 yX8_toward ∈ gWords := gmT 997 (by decide +kernel) rfl
theorem wT_X8_toward : Cond.static yX8_toward ∈ gWords := gmT 998 (by decide +kernel) rfl
theorem wC_X8_toward : Cond.code yX8_toward cX8_toward 2 (some .int) ∈ gWords := gmT 999 (by decide +kernel) rfl
theorem wM_X8_119 : Cond.methodLink RX8 119 yX8_isBlocked ∈ gWords := gmT 1000 (by decide +kernel) rfl
theorem wI_X8_isBlocked : Cond.instanceMethod yX8_isBlocked ∈ gWords := gmT 1002 (by decide +kernel) rfl
theorem wC_X8_isBlocked : Cond.code yX8_isBlocked cX8_isBlocked 2 (some .boolean) ∈ gWords := gmT 1003 (by decide +kernel) rfl
theorem wM_X8_122 : Cond.methodLink RX8 122 yX8_isShut ∈ gWords := gmT 1004 (by decide +kernel) rfl
theorem wI_X8_isShut : Cond.instanceMethod yX8_isShut ∈ gWords := gmT 1006 (by decide +kernel) rfl
theorem wC_X8_isShut : Cond.code yX8_isShut cX8_isShut 2 (some .boolean) ∈ gWords := gmT 1007 (by decide +kernel) rfl
theorem wM_X8_125 : Cond.methodLink RX8 125 yX8_freeBeds ∈ gWords := gmT 1008 (by decide +kernel) rfl
theorem wI_X8_freeBeds : Cond.instanceMethod yX8_freeBeds ∈ gWords := gmT 1010 (by decide +kernel) rfl
theorem wC_X8_freeBeds : Cond.code yX8_freeBeds cX8_freeBeds 3 (some .int) ∈ gWords := gmT 1011 (by decide +kernel) rfl
theorem wM_X8_101 : Cond.methodLink RX8 101 yX8_teamsOf ∈ gWords := gmT 1012 (by decide +kernel) rfl
theorem wI_X8_teamsOf : Cond.instanceMethod yX8_teamsOf ∈ gWords := gmT 1014 (by decide +kernel) rfl
theorem wC_X8_teamsOf : Cond.code yX8_teamsOf cX8_teamsOf 6 (some .int) ∈ gWords := gmT 1015 (by decide +kernel) rfl
theorem wM_X8_128 : Cond.methodLink RX8 128 yX8_teamFor ∈ gWords := gmT 1016 (by decide +kernel) rfl
theorem wI_X8_teamFor : Cond.instanceMethod yX8_teamFor ∈ gWords := gmT 1018 (by decide +kernel) rfl
theorem wC_X8_teamFor : Cond.code yX8_teamFor cX8_teamFor 7 (some .int) ∈ gWords := gmT 1019 (by decide +kernel) rfl
theorem wM_X8_134 : Cond.methodLink RX8 134 yX8_leaves ∈ gWords := gmT 1020 (by decide +kernel) rfl
theorem wI_X8_leaves : Cond.instanceMethod yX8_leaves ∈ gWords := gmT 1022 (by decide +kernel) rfl
theorem wC_X8_leaves : Cond.code yX8_leaves cX8_leaves 4 none ∈ gWords := gmT 1023 (by decide +kernel) rfl
theorem wM_X8_157 : Cond.methodLink RX8 157 yX8_walkBack ∈ gWords := gmT 1024 (by decide +kernel) rfl
theorem wI_X8_walkBack : Cond.instanceMethod yX8_walkBack ∈ gWords := gmT 1026 (by decide +kernel) rfl
theorem wC_X8_walkBack : Cond.code yX8_walkBack cX8_walkBack 5 none ∈ gWords := gmT 1027 (by decide +kernel) rfl
theorem wM_X8_145 : Cond.methodLink RX8 145 yX8_lettersAt ∈ gWords := gmT 1028 (by decide +kernel) rfl
theorem wI_X8_lettersAt : Cond.instanceMethod yX8_lettersAt ∈ gWords := gmT 1030 (by decide +kernel) rfl
theorem wC_X8_lettersAt : Cond.code yX8_lettersAt cX8_lettersAt 4 (some .int) ∈ gWords := gmT 1031 (by decide +kernel) rfl
theorem wM_L_102 : Cond.methodLink RL 102 yX8_stage ∈ gWords := gmT 1032 (by decide +kernel) rfl
theorem wI_X8_stage : Cond.instanceMethod yX8_stage ∈ gWords := gmT 1033 (by decide +kernel) rfl
theorem wS_X8_stage : Cond.selects RX8 yX8_stage yX8_stage ∈ gWords := gmT 1034 (by decide +kernel) rfl
theorem wC_X8_stage : Cond.code yX8_stage cX8_stage 3 (some .int) ∈ gWords := gmT 1035 (by decide +kernel) rfl
theorem wM_X8_168 : Cond.methodLink RX8 168 yX8_stageOf ∈ gWords := gmT 1036 (by decide +kernel) rfl
theorem wI_X8_stageOf : Cond.instanceMethod yX8_stageOf ∈ gWords := gmT 1038 (by decide +kernel) rfl
theorem wC_X8_stageOf : Cond.code yX8_stageOf cX8_stageOf 3 (some .int) ∈ gWords := gmT 1039 (by decide +kernel) rfl
theorem wM_X8_165 : Cond.methodLink RX8 165 yX8_teamsOn ∈ gWords := gmT 1040 (by decide +kernel) rfl
theorem wI_X8_teamsOn : Cond.instanceMethod yX8_teamsOn ∈ gWords := gmT 1042 (by decide +kernel) rfl
theorem wC_X8_teamsOn : Cond.code yX8_teamsOn cX8_teamsOn 4 (some .int) ∈ gWords := gmT 1043 (by decide +kernel) rfl
theorem wM_L_105 : Cond.methodLink RL 105 yX8_inn ∈ gWords := gmT 1044 (by decide +kernel) rfl
theorem wI_X8_inn : Cond.instanceMethod yX8_inn ∈ gWords := gmT 1045 (by decide +kernel) rfl
theorem wS_X8_inn : Cond.selects RX8 yX8_inn yX8_inn ∈ gWords := gmT 1046 (by decide +kernel) rfl
theorem wC_X8_inn : Cond.code yX8_inn cX8_inn 3 (some .int) ∈ gWords := gmT 1047 (by decide +kernel) rfl
theorem wM_X8_171 : Cond.methodLink RX8 171 yX8_innOf ∈ gWords := gmT 1048 (by decide +kernel) rfl
theorem wI_X8_innOf : Cond.instanceMethod yX8_innOf ∈ gWords := gmT 1050 (by decide +kernel) rfl
theorem wC_X8_innOf : Cond.code yX8_innOf cX8_innOf 3 (some .int) ∈ gWords := gmT 1051 (by decide +kernel) rfl
theorem wM_L_108 : Cond.methodLink RL 108 yX8_team ∈ gWords := gmT 1052 (by decide +kernel) rfl
theorem wI_X8_team : Cond.instanceMethod yX8_team ∈ gWords := gmT 1053 (by decide +kernel) rfl
theorem wS_X8_team : Cond.selects RX8 yX8_team yX8_team ∈ gWords := gmT 1054 (by decide +kernel) rfl
theorem wC_X8_team : Cond.code yX8_team cX8_team 3 (some .int) ∈ gWords := gmT 1055 (by decide +kernel) rfl
theorem wM_X8_174 : Cond.methodLink RX8 174 yX8_isTeam ∈ gWords := gmT 1056 (by decide +kernel) rfl
theorem wI_X8_isTeam : Cond.instanceMethod yX8_isTeam ∈ gWords := gmT 1058 (by decide +kernel) rfl
theorem wC_X8_isTeam : Cond.code yX8_isTeam cX8_isTeam 2 (some .boolean) ∈ gWords := gmT 1059 (by decide +kernel) rfl
theorem wM_L_111 : Cond.methodLink RL 111 yX8_letter ∈ gWords := gmT 1060 (by decide +kernel) rfl
theorem wI_X8_letter : Cond.instanceMethod yX8_letter ∈ gWords := gmT 1061 (by decide +kernel) rfl
theorem wS_X8_letter : Cond.selects RX8 yX8_letter yX8_letter ∈ gWords := gmT 1062 (by decide +kernel) rfl
theorem wC_X8_letter : Cond.code yX8_letter cX8_letter 3 (some .int) ∈ gWords := gmT 1063 (by decide +kernel) rfl
theorem wM_X8_177 : Cond.methodLink RX8 177 yX8_isLetter ∈ gWords := gmT 1064 (by decide +kernel) rfl
theorem wI_X8_isLetter : Cond.instanceMethod yX8_isLetter ∈ gWords := gmT 1066 (by decide +kernel) rfl
theorem wC_X8_isLetter : Cond.code yX8_isLetter cX8_isLetter 2 (some .boolean) ∈ gWords := gmT 1067 (by decide +kernel) rfl
theorem wL_X8_180 : Cond.constantLong RX8 180 (7) ∈ gWords := gmT 1068 (by decide +kernel) rfl
theorem wM_L_114 : Cond.methodLink RL 114 yX8_value ∈ gWords := gmT 1069 (by decide +kernel) rfl
theorem wI_X8_value : Cond.instanceMethod yX8_value ∈ gWords := gmT 1070 (by decide +kernel) rfl
theorem wS_X8_value : Cond.selects RX8 yX8_value yX8_value ∈ gWords := gmT 1071 (by decide +kernel) rfl
theorem wC_X8_value : Cond.code yX8_value cX8_value 2 (some .int) ∈ gWords := gmT 1072 (by decide +kernel) rfl
theorem wL_X8_186 : Cond.constantLong RX8 186 (10) ∈ gWords := gmT 1073 (by decide +kernel) rfl
theorem wM_X8_188 : Cond.methodLink RX8 188 yX8_valueOf ∈ gWords := gmT 1074 (by decide +kernel) rfl
theorem wI_X8_valueOf : Cond.instanceMethod yX8_valueOf ∈ gWords := gmT 1076 (by decide +kernel) rfl
theorem wC_X8_valueOf : Cond.code yX8_valueOf cX8_valueOf 2 (some .int) ∈ gWords := gmT 1077 (by decide +kernel) rfl
theorem wM_X8_182 : Cond.methodLink RX8 182 yX8_lettersBy ∈ gWords := gmT 1078 (by decide +kernel) rfl
theorem wI_X8_lettersBy : Cond.instanceMethod yX8_lettersBy ∈ gWords := gmT 1080 (by decide +kernel) rfl
theorem wC_X8_lettersBy : Cond.code yX8_lettersBy cX8_lettersBy 4 (some .int) ∈ gWords := gmT 1081 (by decide +kernel) rfl
theorem wM_L_117 : Cond.methodLink RL 117 yX8_why ∈ gWords := gmT 1082 (by decide +kernel) rfl
theorem wI_X8_why : Cond.instanceMethod yX8_why ∈ gWords := gmT 1083 (by decide +kernel) rfl
theorem wS_X8_why : Cond.selects RX8 yX8_why yX8_why ∈ gWords := gmT 1084 (by decide +kernel) rfl
theorem wC_X8_why : Cond.code yX8_why cX8_why 2 (some .int) ∈ gWords := gmT 1085 (by decide +kernel) rfl
theorem wM_L_120 : Cond.methodLink RL 120 yX8_hoursTo ∈ gWords := gmT 1086 (by decide +kernel) rfl
theorem wI_X8_hoursTo : Cond.instanceMethod yX8_hoursTo ∈ gWords := gmT 1087 (by decide +kernel) rfl
theorem wS_X8_hoursTo : Cond.selects RX8 yX8_hoursTo yX8_hoursTo ∈ gWords := gmT 1088 (by decide +kernel) rfl
theorem wC_X8_hoursTo : Cond.code yX8_hoursTo cX8_hoursTo 4 (some .int) ∈ gWords := gmT 1089 (by decide +kernel) rfl
theorem wM_X8_191 : Cond.methodLink RX8 191 yX8_laysAside ∈ gWords := gmT 1090 (by decide +kernel) rfl
theorem wI_X8_laysAside : Cond.instanceMethod yX8_laysAside ∈ gWords := gmT 1092 (by decide +kernel) rfl
theorem wC_X8_laysAside : Cond.code yX8_laysAside cX8_laysAside 2 none ∈ gWords := gmT 1093 (by decide +kernel) rfl
theorem wM_X8_194 : Cond.methodLink RX8 194 yX8_takesBack ∈ gWords := gmT 1094 (by decide +kernel) rfl
theorem wI_X8_takesBack : Cond.instanceMethod yX8_takesBack ∈ gWords := gmT 1096 (by decide +kernel) rfl
theorem wC_X8_takesBack : Cond.code yX8_takesBack cX8_takesBack 2 none ∈ gWords := gmT 1097 (by decide +kernel) rfl
theorem wM_L_124 : Cond.methodLink RL 124 yX8_hoursToAll ∈ gWords := gmT 1098 (by decide +kernel) rfl
theorem wI_X8_hoursToAll : Cond.instanceMethod yX8_hoursToAll ∈ gWords := gmT 1099 (by decide +kernel) rfl
theorem wS_X8_hoursToAll : Cond.selects RX8 yX8_hoursToAll yX8_hoursToAll ∈ gWords := gmT 1100 (by decide +kernel) rfl
theorem wC_X8_hoursToAll : Cond.code yX8_hoursToAll cX8_hoursToAll 1 (some .int) ∈ gWords := gmT 1101 (by decide +kernel) rfl
theorem wM_X8_205 : Cond.methodLink RX8 205 yX8_forAll ∈ gWords := gmT 1102 (by decide +kernel) rfl
theorem wI_X8_forAll : Cond.instanceMethod yX8_forAll ∈ gWords := gmT 1104 (by decide +kernel) rfl
theorem wC_X8_forAll : Cond.code yX8_forAll cX8_forAll 2 (some .int) ∈ gWords := gmT 1105 (by decide +kernel) rfl
theorem wM_X8_201 : Cond.methodLink RX8 201 yX8_toAll ∈ gWords := gmT 1106 (by decide +kernel) rfl
theorem wI_X8_toAll : Cond.instanceMethod yX8_toAll ∈ gWords := gmT 1108 (by decide +kernel) rfl
theorem wC_X8_toAll : Cond.code yX8_toAll cX8_toAll 2 (some .int) ∈ gWords := gmT 1109 (by decide +kernel) rfl
theorem wM_X8_197 : Cond.methodLink RX8 197 yX8_areDelivered ∈ gWords := gmT 1110 (by decide +kernel) rfl
theorem wI_X8_areDelivered : Cond.instanceMethod yX8_areDelivered ∈ gWords := gmT 1112 (by decide +kernel) rfl
theorem wC_X8_areDelivered : Cond.code yX8_areDelivered cX8_areDelivered 1 (some .boolean) ∈ gWords := gmT 1113 (by decide +kernel) rfl
theorem wM_L_128 : Cond.methodLink RL 128 yX8_bestInn ∈ gWords := gmT 1114 (by decide +kernel) rfl
theorem wI_X8_bestInn : Cond.instanceMethod yX8_bestInn ∈ gWords := gmT 1115 (by decide +kernel) rfl
theorem wS_X8_bestInn : Cond.selects RX8 yX8_bestInn yX8_bestInn ∈ gWords := gmT 1116 (by decide +kernel) rfl
theorem wC_X8_bestInn : Cond.code yX8_bestInn cX8_bestInn 5 (some .int) ∈ gWords := gmT 1117 (by decide +kernel) rfl
theorem wM_L_131 : Cond.methodLink RL 131 yX8_way ∈ gWords := gmT 1118 (by decide +kernel) rfl
theorem wI_X8_way : Cond.instanceMethod yX8_way ∈ gWords := gmT 1119 (by decide +kernel) rfl
theorem wS_X8_way : Cond.selects RX8 yX8_way yX8_way ∈ gWords := gmT 1120 (by decide +kernel) rfl
theorem wC_X8_way : Cond.code yX8_way cX8_way 5 (some .int) ∈ gWords := gmT 1121 (by decide +kernel) rfl
theorem wM_L_134 : Cond.methodLink RL 134 yX8_effortHome ∈ gWords := gmT 1122 (by decide +kernel) rfl
theorem wI_X8_effortHome : Cond.instanceMethod yX8_effortHome ∈ gWords := gmT 1123 (by decide +kernel) rfl
theorem wS_X8_effortHome : Cond.selects RX8 yX8_effortHome yX8_effortHome ∈ gWords := gmT 1124 (by decide +kernel) rfl
theorem wC_X8_effortHome : Cond.code yX8_effortHome cX8_effortHome 5 (some .int) ∈ gWords := gmT 1125 (by decide +kernel) rfl
theorem wM_L_139 : Cond.methodLink RL 139 yX8_meanTiredness ∈ gWords := gmT 1126 (by decide +kernel) rfl
theorem wI_X8_meanTiredness : Cond.instanceMethod yX8_meanTiredness ∈ gWords := gmT 1127 (by decide +kernel) rfl
theorem wS_X8_meanTiredness : Cond.selects RX8 yX8_meanTiredness yX8_meanTiredness ∈ gWords := gmT 1128 (by decide +kernel) rfl
theorem wC_X8_meanTiredness : Cond.code yX8_meanTiredness cX8_meanTiredness 5 (some .double) ∈ gWords := gmT 1129 (by decide +kernel) rfl
theorem wM_L_142 : Cond.methodLink RL 142 yX8_append ∈ gWords := gmT 1130 (by decide +kernel) rfl
theorem wI_X8_append : Cond.instanceMethod yX8_append ∈ gWords := gmT 1131 (by decide +kernel) rfl
theorem wS_X8_append : Cond.selects RX8 yX8_append yX8_append ∈ gWords := gmT 1132 (by decide +kernel) rfl
theorem wC_X8_append : Cond.code yX8_append cX8_append 2 (some .int) ∈ gWords := gmT 1133 (by decide +kernel) rfl
theorem wL_X8_208 : Cond.constantLong RX8 208 (127) ∈ gWords := gmT 1134 (by decide +kernel) rfl
theorem wM_L_146 : Cond.methodLink RL 146 yX8_clearText ∈ gWords := gmT 1135 (by decide +kernel) rfl
theorem wI_X8_clearText : Cond.instanceMethod yX8_clearText ∈ gWords := gmT 1136 (by decide +kernel) rfl
theorem wS_X8_clearText : Cond.selects RX8 yX8_clearText yX8_clearText ∈ gWords := gmT 1137 (by decide +kernel) rfl
theorem wC_X8_clearText : Cond.code yX8_clearText cX8_clearText 2 (some .int) ∈ gWords := gmT 1138 (by decide +kernel) rfl
theorem wM_L_150 : Cond.methodLink RL 150 yX8_parse ∈ gWords := gmT 1139 (by decide +kernel) rfl
theorem wI_X8_parse : Cond.instanceMethod yX8_parse ∈ gWords := gmT 1140 (by decide +kernel) rfl
theorem wS_X8_parse : Cond.selects RX8 yX8_parse yX8_parse ∈ gWords := gmT 1141 (by decide +kernel) rfl
theorem wC_X8_parse : Cond.code yX8_parse cX8_parse 2 (some .int) ∈ gWords := gmT 1142 (by decide +kernel) rfl
theorem wM_X8_231 : Cond.methodLink RX8 231 yX8_readsText ∈ gWords := gmT 1143 (by decide +kernel) rfl
theorem wI_X8_readsText : Cond.instanceMethod yX8_readsText ∈ gWords := gmT 1145 (by decide +kernel) rfl
theorem wC_X8_readsText : Cond.code yX8_readsText cX8_readsText 2 (some .boolean) ∈ gWords := gmT 1146 (by decide +kernel) rfl
theorem wM_X8_228 : Cond.methodLink RX8 228 yX8_readsStage ∈ gWords := gmT 1147 (by decide +kernel) rfl
theorem wI_X8_readsStage : Cond.instanceMethod yX8_readsStage ∈ gWords := gmT 1149 (by decide +kernel) rfl
theorem wC_X8_readsStage : Cond.code yX8_readsStage cX8_readsStage 2 (some .boolean) ∈ gWords := gmT 1150 (by decide +kernel) rfl
theorem wM_X8_219 : Cond.methodLink RX8 219 yX8_here ∈ gWords := gmT 1151 (by decide +kernel) rfl
theorem wI_X8_here : Cond.instanceMethod yX8_here ∈ gWords := gmT 1153 (by decide +kernel) rfl
theorem wC_X8_here : Cond.code yX8_here cX8_here 1 (some .int) ∈ gWords := gmT 1154 (by decide +kernel) rfl
theorem wL_X8_222 : Cond.constantLong RX8 222 (49) ∈ gWords := gmT 1155 (by decide +kernel) rfl
theorem wL_X8_224 : Cond.constantLong RX8 224 (57) ∈ gWords := gmT 1156 (by decide +kernel) rfl
theorem wL_X8_226 : Cond.constantLong RX8 226 (53) ∈ gWords := gmT 1157 (by decide +kernel) rfl
theorem wM_L_154 : Cond.methodLink RL 154 yX8_undo ∈ gWords := gmT 1158 (by decide +kernel) rfl
theorem wI_X8_undo : Cond.instanceMethod yX8_undo ∈ gWords := gmT 1159 (by decide +kernel) rfl
theorem wS_X8_undo : Cond.selects RX8 yX8_undo yX8_undo ∈ gWords := gmT 1160 (by decide +kernel) rfl
theorem wC_X8_undo : Cond.code yX8_undo cX8_undo 2 (some .int) ∈ gWords := gmT 1161 (by decide +kernel) rfl
theorem wM_L_159 : Cond.methodLink RL 159 yX8_digest ∈ gWords := gmT 1162 (by decide +kernel) rfl
theorem wI_X8_digest : Cond.instanceMethod yX8_digest ∈ gWords := gmT 1163 (by decide +kernel) rfl
theorem wS_X8_digest : Cond.selects RX8 yX8_digest yX8_digest ∈ gWords := gmT 1164 (by decide +kernel) rfl
theorem wC_X8_digest : Cond.code yX8_digest cX8_digest 5 (some .long) ∈ gWords := gmT 1165 (by decide +kernel) rfl
theorem wL_X8_234 : Cond.constantLong RX8 234 (108221) ∈ gWords := gmT 1166 (by decide +kernel) rfl
theorem wL_X8_236 : Cond.constantLong RX8 236 (31) ∈ gWords := gmT 1167 (by decide +kernel) rfl
theorem wS_X7_digestOfRoad : Cond.selects RX7 yX7_digestOfRoad yX7_digestOfRoad ∈ gWords := gmS 0 (by decide +kernel)
theorem wS_X7_digestOfTeams : Cond.selects RX7 yX7_digestOfTeams yX7_digestOfTeams ∈ gWords := gmS 1 (by decide +kernel)
theorem wS_X7_digestOfLetters : Cond.selects RX7 yX7_digestOfLetters yX7_digestOfLetters ∈ gWords := gmS 2 (by decide +kernel)
theorem wS_X8_begins : Cond.selects RX8 yX8_begins yX8_begins ∈ gWords := gmS 4 (by decide +kernel)
theorem wS_X8_isStage : Cond.selects RX8 yX8_isStage yX8_isStage ∈ gWords := gmS 5 (by decide +kernel)
theorem wS_X8_throwing : Cond.selects RX8 yX8_throwing yX8_throwing ∈ gWords := gmS 6 (by decide +kernel)
theorem wS_X8_save : Cond.selects RX8 yX8_save yX8_save ∈ gWords := gmS 7 (by decide +kernel)
theorem wS_X8_hoursOf : Cond.selects RX8 yX8_hoursOf yX8_hoursOf ∈ gWords := gmS 8 (by decide +kernel)
theorem wS_X8_fine : Cond.selects RX8 yX8_fine yX8_fine ∈ gWords := gmS 9 (by decide +kernel)
theorem wS_X8_isInn : Cond.selects RX8 yX8_isInn yX8_isInn ∈ gWords := gmS 10 (by decide +kernel)
theorem wS_X8_adds : Cond.selects RX8 yX8_adds yX8_adds ∈ gWords := gmS 11 (by decide +kernel)
theorem wS_X8_isDelivered : Cond.selects RX8 yX8_isDelivered yX8_isDelivered ∈ gWords := gmS 12 (by decide +kernel)
theorem wS_X8_ofLetter : Cond.selects RX8 yX8_ofLetter yX8_ofLetter ∈ gWords := gmS 13 (by decide +kernel)
theorem wS_X8_hour : Cond.selects RX8 yX8_hour yX8_hour ∈ gWords := gmS 14 (by decide +kernel)
theorem wS_X8_rests : Cond.selects RX8 yX8_rests yX8_rests ∈ gWords := gmS 15 (by decide +kernel)
theorem wS_X8_of : Cond.selects RX8 yX8_of yX8_of ∈ gWords := gmS 16 (by decide +kernel)
theorem wS_X8_roads : Cond.selects RX8 yX8_roads yX8_roads ∈ gWords := gmS 17 (by decide +kernel)
theorem wS_X8_arrives : Cond.selects RX8 yX8_arrives yX8_arrives ∈ gWords := gmS 18 (by decide +kernel)
theorem wS_X8_effort : Cond.selects RX8 yX8_effort yX8_effort ∈ gWords := gmS 19 (by decide +kernel)
theorem wS_X8_comes : Cond.selects RX8 yX8_comes yX8_comes ∈ gWords := gmS 20 (by decide +kernel)
theorem wS_X8_goOn : Cond.selects RX8 yX8_goOn yX8_goOn ∈ gWords := gmS 21 (by decide +kernel)
theorem wS_X8_lies : Cond.selects RX8 yX8_lies yX8_lies ∈ gWords := gmS 22 (by decide +kernel)
theorem wS_X8_isAhead : Cond.selects RX8 yX8_isAhead yX8_isAhead ∈ gWords := gmS 23 (by decide +kernel)
theorem wS_X8_goesOn : Cond.selects RX8 yX8_goesOn yX8_goesOn ∈ gWords := gmS 24 (by decide +kernel)
theorem wS_X8_whyNot : Cond.selects RX8 yX8_whyNot yX8_whyNot ∈ gWords := gmS 25 (by decide +kernel)
theorem wS_X8_isBlocked : Cond.selects RX8 yX8_isBlocked yX8_isBlocked ∈ gWords := gmS 26 (by decide +kernel)
theorem wS_X8_isShut : Cond.selects RX8 yX8_isShut yX8_isShut ∈ gWords := gmS 27 (by decide +kernel)
theorem wS_X8_freeBeds : Cond.selects RX8 yX8_freeBeds yX8_freeBeds ∈ gWords := gmS 28 (by decide +kernel)
theorem wS_X8_teamsOf : Cond.selects RX8 yX8_teamsOf yX8_teamsOf ∈ gWords := gmS 29 (by decide +kernel)
theorem wS_X8_teamFor : Cond.selects RX8 yX8_teamFor yX8_teamFor ∈ gWords := gmS 30 (by decide +kernel)
theorem wS_X8_leaves : Cond.selects RX8 yX8_leaves yX8_leaves ∈ gWords := gmS 31 (by decide +kernel)
theorem wS_X8_walkBack : Cond.selects RX8 yX8_walkBack yX8_walkBack ∈ gWords := gmS 32 (by decide +kernel)
theorem wS_X8_lettersAt : Cond.selects RX8 yX8_lettersAt yX8_lettersAt ∈ gWords := gmS 33 (by decide +kernel)
theorem wS_X8_stageOf : Cond.selects RX8 yX8_stageOf yX8_stageOf ∈ gWords := gmS 34 (by decide +kernel)
theorem wS_X8_teamsOn : Cond.selects RX8 yX8_teamsOn yX8_teamsOn ∈ gWords := gmS 35 (by decide +kernel)
theorem wS_X8_innOf : Cond.selects RX8 yX8_innOf yX8_innOf ∈ gWords := gmS 36 (by decide +kernel)
theorem wS_X8_isTeam : Cond.selects RX8 yX8_isTeam yX8_isTeam ∈ gWords := gmS 37 (by decide +kernel)
theorem wS_X8_isLetter : Cond.selects RX8 yX8_isLetter yX8_isLetter ∈ gWords := gmS 38 (by decide +kernel)
theorem wS_X8_valueOf : Cond.selects RX8 yX8_valueOf yX8_valueOf ∈ gWords := gmS 39 (by decide +kernel)
theorem wS_X8_lettersBy : Cond.selects RX8 yX8_lettersBy yX8_lettersBy ∈ gWords := gmS 40 (by decide +kernel)
theorem wS_X8_laysAside : Cond.selects RX8 yX8_laysAside yX8_laysAside ∈ gWords := gmS 41 (by decide +kernel)
theorem wS_X8_takesBack : Cond.selects RX8 yX8_takesBack yX8_takesBack ∈ gWords := gmS 42 (by decide +kernel)
theorem wS_X8_forAll : Cond.selects RX8 yX8_forAll yX8_forAll ∈ gWords := gmS 43 (by decide +kernel)
theorem wS_X8_toAll : Cond.selects RX8 yX8_toAll yX8_toAll ∈ gWords := gmS 44 (by decide +kernel)
theorem wS_X8_areDelivered : Cond.selects RX8 yX8_areDelivered yX8_areDelivered ∈ gWords := gmS 45 (by decide +kernel)
theorem wS_X8_readsText : Cond.selects RX8 yX8_readsText yX8_readsText ∈ gWords := gmS 46 (by decide +kernel)
theorem wS_X8_readsStage : Cond.selects RX8 yX8_readsStage yX8_readsStage ∈ gWords := gmS 47 (by decide +kernel)
theorem wS_X8_here : Cond.selects RX8 yX8_here yX8_here ∈ gWords := gmS 48 (by decide +kernel)
theorem wC_Math_max : Cond.code Lib.Math.max.name Lib.Math.max.code 2 (some .int) ∈ gWords := gmT 379 (by decide +kernel) rfl
theorem wT_Math_max : Cond.static Lib.Math.max.name ∈ gWords := gmT 378 (by decide +kernel) rfl
theorem wC_Math_min : Cond.code Lib.Math.min.name Lib.Math.min.code 2 (some .int) ∈ gWords := gmT 399 (by decide +kernel) rfl
theorem wT_Math_min : Cond.static Lib.Math.min.name ∈ gWords := gmT 398 (by decide +kernel) rfl
theorem gLay0 : ∀ w ∈ u_ws RX0 TX0 2, w ∈ gWords := by decide +kernel
theorem gLay1 : ∀ w ∈ u_ws RX1 TX1 3, w ∈ gWords := by decide +kernel
theorem gLay2 : ∀ w ∈ u_ws RX2 TX2 8, w ∈ gWords := by decide +kernel
theorem gLay3 : ∀ w ∈ u_ws RX3 TX3 13, w ∈ gWords := by decide +kernel
theorem gLay4 : ∀ w ∈ u_ws RX4 TX4 3, w ∈ gWords := by decide +kernel
theorem gLay5 : ∀ w ∈ u_ws RX5 TX5 3, w ∈ gWords := by decide +kernel
theorem gLay6 : ∀ w ∈ u_ws RX6 TX6 12, w ∈ gWords := by decide +kernel
theorem gLay7 : ∀ w ∈ u_ws RX7 TX7 4, w ∈ gWords := by decide +kernel
theorem gLay8 : ∀ w ∈ u_ws RX8 TX8 11, w ∈ gWords := by decide +kernel
end
section
/-! the instructions of each method, decoded: one list a method, one decision a list -/
def gdo (c : ByteArray) (q : Nat × Instr × Nat) : Bool := decide (decode c q.1 = .ok (q.2.1, q.2.2))
theorem gdo_s {c : ByteArray} {pc : Nat} {i : Instr} {len : Nat} (h : gdo c (pc, i, len) = true) : decode c pc = .ok (i, len) := by
  unfold gdo at h
  exact of_decide_eq_true h
theorem gdec {c : ByteArray} {L : List (Nat × Instr × Nat)} (h : L.all (gdo c) = true) (k : Nat) {pc : Nat} {i : Instr} {len : Nat} (hk : L[k]? = some (pc, i, len)) : decode c pc = .ok (i, len) := by
  have h1 := List.all_eq_true.mp h (pc, i, len) (List.mem_of_getElem? hk)
  exact gdo_s h1
def iX0_init : List (Nat × Instr × Nat) := [(0, .aload_n 0, 1), (1, .invokespecial 3, 3), (4, .aload_n 0, 1), (5, .iconst 4, 1), (6, .anewarray 9, 3), (9, .putfield 11, 3), (12, .iconst 0, 1), (13, .istore_n 1, 1), (14, .iload_n 1, 1), (15, .iconst 4, 1), (16, .if_icmp .ge 22, 3), (19, .aload_n 0, 1), (20, .getfield 11, 3), (23, .iload_n 1, 1), (24, .new 9, 3), (27, .dup, 1), (28, .invokespecial 17, 3), (31, .aastore, 1), (32, .iinc 1 1, 3), (35, .goto (-21), 3), (38, .return_, 1)]
theorem kX0_init : iX0_init.all (gdo cX0_init) = true := by decide +kernel
def iX0_save : List (Nat × Instr × Nat) := [(0, .aload_n 0, 1), (1, .getfield 18, 3), (4, .iconst 4, 1), (5, .if_icmp .ne 7, 3), (8, .aload_n 0, 1), (9, .invokevirtual 22, 3), (12, .aload_n 0, 1), (13, .getfield 11, 3), (16, .aload_n 0, 1), (17, .getfield 18, 3), (20, .aaload, 1), (21, .aload_n 1, 1), (22, .invokevirtual 25, 3), (25, .aload_n 0, 1), (26, .dup, 1), (27, .getfield 18, 3), (30, .iconst 1, 1), (31, .iadd, 1), (32, .putfield 18, 3), (35, .return_, 1)]
theorem kX0_save : iX0_save.all (gdo cX0_save) = true := by decide +kernel
def iX0_dropOldest : List (Nat × Instr × Nat) := [(0, .aload_n 0, 1), (1, .getfield 11, 3), (4, .iconst 0, 1), (5, .aaload, 1), (6, .astore_n 1, 1), (7, .iconst 1, 1), (8, .istore_n 2, 1), (9, .iload_n 2, 1), (10, .iconst 4, 1), (11, .if_icmp .ge 23, 3), (14, .aload_n 0, 1), (15, .getfield 11, 3), (18, .iload_n 2, 1), (19, .iconst 1, 1), (20, .isub, 1), (21, .aload_n 0, 1), (22, .getfield 11, 3), (25, .iload_n 2, 1), (26, .aaload, 1), (27, .aastore, 1), (28, .iinc 2 1, 3), (31, .goto (-22), 3), (34, .aload_n 0, 1), (35, .getfield 11, 3), (38, .iconst 3, 1), (39, .aload_n 1, 1), (40, .aastore, 1), (41, .aload_n 0, 1), (42, .iconst 3, 1), (43, .putfield 18, 3), (46, .return_, 1)]
theorem kX0_dropOldest : iX0_dropOldest.all (gdo cX0_dropOldest) = true := by decide +kernel
def iX0_restore : List (Nat × Instr × Nat) := [(0, .aload_n 0, 1), (1, .dup, 1), (2, .getfield 18, 3), (5, .iconst 1, 1), (6, .isub, 1), (7, .putfield 18, 3), (10, .aload_n 1, 1), (11, .aload_n 0, 1), (12, .getfield 11, 3), (15, .aload_n 0, 1), (16, .getfield 18, 3), (19, .aaload, 1), (20, .invokevirtual 25, 3), (23, .return_, 1)]
theorem kX0_restore : iX0_restore.all (gdo cX0_restore) = true := by decide +kernel
def iX1_init : List (Nat × Instr × Nat) := [(0, .aload_n 0, 1), (1, .invokespecial 1, 3), (4, .return_, 1)]
theorem kX1_init : iX1_init.all (gdo cX1_init) = true := by decide +kernel
def iX1_set : List (Nat × Instr × Nat) := [(0, .aload_n 0, 1), (1, .iload_n 1, 1), (2, .putfield 7, 3), (5, .aload_n 0, 1), (6, .iload_n 2, 1), (7, .putfield 13, 3), (10, .aload_n 0, 1), (11, .iload_n 3, 1), (12, .putfield 16, 3), (15, .return_, 1)]
theorem kX1_set : iX1_set.all (gdo cX1_set) = true := by decide +kernel
def iX1_copyFrom : List (Nat × Instr × Nat) := [(0, .aload_n 0, 1), (1, .aload_n 1, 1), (2, .getfield 7, 3), (5, .aload_n 1, 1), (6, .getfield 13, 3), (9, .aload_n 1, 1), (10, .getfield 16, 3), (13, .invokevirtual 20, 3), (16, .return_, 1)]
theorem kX1_copyFrom : iX1_copyFrom.all (gdo cX1_copyFrom) = true := by decide +kernel
def iX2_init : List (Nat × Instr × Nat) := [(0, .aload_n 0, 1), (1, .invokespecial 3, 3), (4, .return_, 1)]
theorem kX2_init : iX2_init.all (gdo cX2_init) = true := by decide +kernel
def iX2_begin : List (Nat × Instr × Nat) := [(0, .aload_n 0, 1), (1, .iload_n 1, 1), (2, .putfield 9, 3), (5, .aload_n 0, 1), (6, .iload_n 2, 1), (7, .putfield 15, 3), (10, .aload_n 0, 1), (11, .iload_n 3, 1), (12, .putfield 18, 3), (15, .aload_n 0, 1), (16, .iload 4, 2), (18, .putfield 22, 3), (21, .aload_n 0, 1), (22, .iload_n 1, 1), (23, .putfield 25, 3), (26, .aload_n 0, 1), (27, .iconst (-1), 1), (28, .putfield 28, 3), (31, .aload_n 0, 1), (32, .iconst (-1), 1), (33, .putfield 31, 3), (36, .aload_n 0, 1), (37, .iconst 0, 1), (38, .putfield 34, 3), (41, .return_, 1)]
theorem kX2_begin : iX2_begin.all (gdo cX2_begin) = true := by decide +kernel
def iX2_copyFrom : List (Nat × Instr × Nat) := [(0, .aload_n 0, 1), (1, .aload_n 1, 1), (2, .getfield 9, 3), (5, .putfield 9, 3), (8, .aload_n 0, 1), (9, .aload_n 1, 1), (10, .getfield 15, 3), (13, .putfield 15, 3), (16, .aload_n 0, 1), (17, .aload_n 1, 1), (18, .getfield 18, 3), (21, .putfield 18, 3), (24, .aload_n 0, 1), (25, .aload_n 1, 1), (26, .getfield 22, 3), (29, .putfield 22, 3), (32, .aload_n 0, 1), (33, .aload_n 1, 1), (34, .getfield 25, 3), (37, .putfield 25, 3), (40, .aload_n 0, 1), (41, .aload_n 1, 1), (42, .getfield 28, 3), (45, .putfield 28, 3), (48, .aload_n 0, 1), (49, .aload_n 1, 1), (50, .getfield 31, 3), (53, .putfield 31, 3), (56, .aload_n 0, 1), (57, .aload_n 1, 1), (58, .getfield 34, 3), (61, .putfield 34, 3), (64, .return_, 1)]
theorem kX2_copyFrom : iX2_copyFrom.all (gdo cX2_copyFrom) = true := by decide +kernel
def iX2_isDelivered : List (Nat × Instr × Nat) := [(0, .aload_n 0, 1), (1, .getfield 31, 3), (4, .iconst (-1), 1), (5, .if_icmp .eq 7, 3), (8, .iconst 1, 1), (9, .goto 4, 3), (12, .iconst 0, 1), (13, .ireturn, 1)]
theorem kX2_isDelivered : iX2_isDelivered.all (gdo cX2_isDelivered) = true := by decide +kernel
def iX2_isOnStage : List (Nat × Instr × Nat) := [(0, .aload_n 0, 1), (1, .getfield 28, 3), (4, .iconst (-1), 1), (5, .if_icmp .eq 7, 3), (8, .iconst 1, 1), (9, .goto 4, 3), (12, .iconst 0, 1), (13, .ireturn, 1)]
theorem kX2_isOnStage : iX2_isOnStage.all (gdo cX2_isOnStage) = true := by decide +kernel
def iX2_liesAtAnInn : List (Nat × Instr × Nat) := [(0, .aload_n 0, 1), (1, .invokevirtual 37, 3), (4, .ifCond .ne 14, 3), (7, .aload_n 0, 1), (8, .invokevirtual 41, 3), (11, .ifCond .ne 7, 3), (14, .iconst 1, 1), (15, .goto 4, 3), (18, .iconst 0, 1), (19, .ireturn, 1)]
theorem kX2_liesAtAnInn : iX2_liesAtAnInn.all (gdo cX2_liesAtAnInn) = true := by decide +kernel
def iX2_about : List (Nat × Instr × Nat) := [(0, .iload_n 1, 1), (1, .tableswitch 81 0 6 #[43, 48, 53, 61, 66, 71, 76], 43), (44, .aload_n 0, 1), (45, .getfield 9, 3), (48, .ireturn, 1), (49, .aload_n 0, 1), (50, .getfield 15, 3), (53, .ireturn, 1), (54, .aload_n 0, 1), (55, .getfield 18, 3), (58, .invokestatic 44, 3), (61, .ireturn, 1), (62, .aload_n 0, 1), (63, .getfield 22, 3), (66, .ireturn, 1), (67, .aload_n 0, 1), (68, .getfield 25, 3), (71, .ireturn, 1), (72, .aload_n 0, 1), (73, .getfield 28, 3), (76, .ireturn, 1), (77, .aload_n 0, 1), (78, .getfield 31, 3), (81, .ireturn, 1), (82, .aload_n 0, 1), (83, .getfield 34, 3), (86, .ireturn, 1)]
theorem kX2_about : iX2_about.all (gdo cX2_about) = true := by decide +kernel
def iX3_init : List (Nat × Instr × Nat) := [(0, .aload_n 0, 1), (1, .invokespecial 3, 3), (4, .aload_n 0, 1), (5, .bipush 7, 2), (7, .anewarray 9, 3), (10, .putfield 11, 3), (13, .aload_n 0, 1), (14, .bipush 8, 2), (16, .anewarray 17, 3), (19, .putfield 19, 3), (22, .aload_n 0, 1), (23, .bipush 10, 2), (25, .anewarray 23, 3), (28, .putfield 25, 3), (31, .aload_n 0, 1), (32, .bipush 12, 2), (34, .anewarray 29, 3), (37, .putfield 31, 3), (40, .iconst 0, 1), (41, .istore_n 1, 1), (42, .iload_n 1, 1), (43, .bipush 7, 2), (45, .if_icmp .ge 22, 3), (48, .aload_n 0, 1), (49, .getfield 11, 3), (52, .iload_n 1, 1), (53, .new 9, 3), (56, .dup, 1), (57, .invokespecial 35, 3), (60, .aastore, 1), (61, .iinc 1 1, 3), (64, .goto (-22), 3), (67, .iconst 0, 1), (68, .istore_n 1, 1), (69, .iload_n 1, 1), (70, .bipush 8, 2), (72, .if_icmp .ge 22, 3), (75, .aload_n 0, 1), (76, .getfield 19, 3), (79, .iload_n 1, 1), (80, .new 17, 3), (83, .dup, 1), (84, .invokespecial 36, 3), (87, .aastore, 1), (88, .iinc 1 1, 3), (91, .goto (-22), 3), (94, .iconst 0, 1), (95, .istore_n 1, 1), (96, .iload_n 1, 1), (97, .bipush 10, 2), (99, .if_icmp .ge 22, 3), (102, .aload_n 0, 1), (103, .getfield 25, 3), (106, .iload_n 1, 1), (107, .new 23, 3), (110, .dup, 1), (111, .invokespecial 37, 3), (114, .aastore, 1), (115, .iinc 1 1, 3), (118, .goto (-22), 3)]
theorem kX3_init : iX3_init.all (gdo cX3_init) = true := by decide +kernel
def iX3_init_1 : List (Nat × Instr × Nat) := [(121, .iconst 0, 1), (122, .istore_n 1, 1), (123, .iload_n 1, 1), (124, .bipush 12, 2), (126, .if_icmp .ge 22, 3), (129, .aload_n 0, 1), (130, .getfield 31, 3), (133, .iload_n 1, 1), (134, .new 29, 3), (137, .dup, 1), (138, .invokespecial 38, 3), (141, .aastore, 1), (142, .iinc 1 1, 3), (145, .goto (-22), 3), (148, .aload_n 0, 1), (149, .invokevirtual 39, 3), (152, .return_, 1)]
theorem kX3_init_1 : iX3_init_1.all (gdo cX3_init) = true := by decide +kernel
def iX3_restart : List (Nat × Instr × Nat) := [(0, .iconst 0, 1), (1, .istore_n 1, 1), (2, .iload_n 1, 1), (3, .bipush 7, 2), (5, .if_icmp .ge 21, 3), (8, .aload_n 0, 1), (9, .getfield 11, 3), (12, .iload_n 1, 1), (13, .aaload, 1), (14, .iconst 2, 1), (15, .iconst 0, 1), (16, .iconst 0, 1), (17, .invokevirtual 42, 3), (20, .iinc 1 1, 3), (23, .goto (-21), 3), (26, .iconst 0, 1), (27, .istore_n 1, 1), (28, .iload_n 1, 1), (29, .bipush 8, 2), (31, .if_icmp .ge 22, 3), (34, .aload_n 0, 1), (35, .getfield 19, 3), (38, .iload_n 1, 1), (39, .aaload, 1), (40, .iconst 2, 1), (41, .bipush 100, 2), (43, .iconst 0, 1), (44, .invokevirtual 46, 3), (47, .iinc 1 1, 3), (50, .goto (-22), 3), (53, .aload_n 0, 1), (54, .iconst 2, 1), (55, .putfield 47, 3), (58, .aload_n 0, 1), (59, .iconst 0, 1), (60, .putfield 51, 3), (63, .aload_n 0, 1), (64, .iconst 0, 1), (65, .putfield 54, 3), (68, .aload_n 0, 1), (69, .iconst 0, 1), (70, .putfield 57, 3), (73, .aload_n 0, 1), (74, .iconst 0, 1), (75, .putfield 60, 3), (78, .aload_n 0, 1), (79, .iconst 0, 1), (80, .putfield 63, 3), (83, .aload_n 0, 1), (84, .iconst 0, 1), (85, .putfield 66, 3), (88, .aload_n 0, 1), (89, .iconst 0, 1), (90, .putfield 69, 3), (93, .aload_n 0, 1), (94, .iconst 0, 1), (95, .putfield 72, 3), (98, .return_, 1)]
theorem kX3_restart : iX3_restart.all (gdo cX3_restart) = true := by decide +kernel
def iX3_copyFrom : List (Nat × Instr × Nat) := [(0, .aload_n 0, 1), (1, .aload_n 1, 1), (2, .getfield 47, 3), (5, .putfield 47, 3), (8, .aload_n 0, 1), (9, .aload_n 1, 1), (10, .getfield 51, 3), (13, .putfield 51, 3), (16, .aload_n 0, 1), (17, .aload_n 1, 1), (18, .getfield 54, 3), (21, .putfield 54, 3), (24, .aload_n 0, 1), (25, .aload_n 1, 1), (26, .getfield 57, 3), (29, .putfield 57, 3), (32, .aload_n 0, 1), (33, .aload_n 1, 1), (34, .getfield 60, 3), (37, .putfield 60, 3), (40, .aload_n 0, 1), (41, .aload_n 1, 1), (42, .getfield 63, 3), (45, .putfield 63, 3), (48, .aload_n 0, 1), (49, .aload_n 1, 1), (50, .getfield 66, 3), (53, .putfield 66, 3), (56, .aload_n 0, 1), (57, .aload_n 1, 1), (58, .getfield 69, 3), (61, .putfield 69, 3), (64, .aload_n 0, 1), (65, .aload_n 1, 1), (66, .getfield 72, 3), (69, .putfield 72, 3), (72, .iconst 0, 1), (73, .istore_n 2, 1), (74, .iload_n 2, 1), (75, .bipush 7, 2), (77, .if_icmp .ge 24, 3), (80, .aload_n 0, 1), (81, .getfield 11, 3), (84, .iload_n 2, 1), (85, .aaload, 1), (86, .aload_n 1, 1), (87, .getfield 11, 3), (90, .iload_n 2, 1), (91, .aaload, 1), (92, .invokevirtual 75, 3), (95, .iinc 2 1, 3), (98, .goto (-24), 3), (101, .iconst 0, 1), (102, .istore_n 2, 1), (103, .iload_n 2, 1), (104, .bipush 8, 2), (106, .if_icmp .ge 24, 3), (109, .aload_n 0, 1), (110, .getfield 19, 3), (113, .iload_n 2, 1)]
theorem kX3_copyFrom : iX3_copyFrom.all (gdo cX3_copyFrom) = true := by decide +kernel
def iX3_copyFrom_1 : List (Nat × Instr × Nat) := [(114, .aaload, 1), (115, .aload_n 1, 1), (116, .getfield 19, 3), (119, .iload_n 2, 1), (120, .aaload, 1), (121, .invokevirtual 79, 3), (124, .iinc 2 1, 3), (127, .goto (-24), 3), (130, .iconst 0, 1), (131, .istore_n 2, 1), (132, .iload_n 2, 1), (133, .aload_n 0, 1), (134, .getfield 51, 3), (137, .if_icmp .ge 24, 3), (140, .aload_n 0, 1), (141, .getfield 25, 3), (144, .iload_n 2, 1), (145, .aaload, 1), (146, .aload_n 1, 1), (147, .getfield 25, 3), (150, .iload_n 2, 1), (151, .aaload, 1), (152, .invokevirtual 82, 3), (155, .iinc 2 1, 3), (158, .goto (-26), 3), (161, .iconst 0, 1), (162, .istore_n 2, 1), (163, .iload_n 2, 1), (164, .aload_n 0, 1), (165, .getfield 54, 3), (168, .if_icmp .ge 24, 3), (171, .aload_n 0, 1), (172, .getfield 31, 3), (175, .iload_n 2, 1), (176, .aaload, 1), (177, .aload_n 1, 1), (178, .getfield 31, 3), (181, .iload_n 2, 1), (182, .aaload, 1), (183, .invokevirtual 85, 3), (186, .iinc 2 1, 3), (189, .goto (-26), 3), (192, .return_, 1)]
theorem kX3_copyFrom_1 : iX3_copyFrom_1.all (gdo cX3_copyFrom) = true := by decide +kernel
def iX3_placeTeam : List (Nat × Instr × Nat) := [(0, .aload_n 0, 1), (1, .getfield 25, 3), (4, .aload_n 0, 1), (5, .getfield 51, 3), (8, .aaload, 1), (9, .iload_n 1, 1), (10, .iload_n 2, 1), (11, .invokevirtual 88, 3), (14, .aload_n 0, 1), (15, .dup, 1), (16, .getfield 51, 3), (19, .iconst 1, 1), (20, .iadd, 1), (21, .putfield 51, 3), (24, .aload_n 0, 1), (25, .getfield 51, 3), (28, .iconst 1, 1), (29, .isub, 1), (30, .ireturn, 1)]
theorem kX3_placeTeam : iX3_placeTeam.all (gdo cX3_placeTeam) = true := by decide +kernel
def iX3_placeLetter : List (Nat × Instr × Nat) := [(0, .aload_n 0, 1), (1, .getfield 31, 3), (4, .aload_n 0, 1), (5, .getfield 54, 3), (8, .aaload, 1), (9, .iload_n 1, 1), (10, .iload_n 2, 1), (11, .iload_n 3, 1), (12, .aload_n 0, 1), (13, .getfield 57, 3), (16, .invokevirtual 92, 3), (19, .aload_n 0, 1), (20, .dup, 1), (21, .getfield 54, 3), (24, .iconst 1, 1), (25, .iadd, 1), (26, .putfield 54, 3), (29, .aload_n 0, 1), (30, .getfield 54, 3), (33, .iconst 1, 1), (34, .isub, 1), (35, .ireturn, 1)]
theorem kX3_placeLetter : iX3_placeLetter.all (gdo cX3_placeLetter) = true := by decide +kernel
def iX3_takeDelivered : List (Nat × Instr × Nat) := [(0, .iconst 0, 1), (1, .istore_n 1, 1), (2, .iconst 0, 1), (3, .istore_n 2, 1), (4, .iload_n 2, 1), (5, .aload_n 0, 1), (6, .getfield 54, 3), (9, .if_icmp .ge 56, 3), (12, .aload_n 0, 1), (13, .getfield 31, 3), (16, .iload_n 2, 1), (17, .aaload, 1), (18, .astore_n 3, 1), (19, .aload_n 3, 1), (20, .invokevirtual 95, 3), (23, .ifCond .ne 36, 3), (26, .aload_n 0, 1), (27, .getfield 31, 3), (30, .iload_n 1, 1), (31, .aaload, 1), (32, .aload_n 3, 1), (33, .invokevirtual 85, 3), (36, .aload_n 3, 1), (37, .invokevirtual 99, 3), (40, .ifCond .eq 16, 3), (43, .aload_n 0, 1), (44, .getfield 25, 3), (47, .aload_n 3, 1), (48, .getfield 102, 3), (51, .aaload, 1), (52, .iload_n 1, 1), (53, .putfield 105, 3), (56, .iinc 1 1, 3), (59, .iinc 2 1, 3), (62, .goto (-58), 3), (65, .aload_n 0, 1), (66, .getfield 54, 3), (69, .iload_n 1, 1), (70, .isub, 1), (71, .istore_n 2, 1), (72, .aload_n 0, 1), (73, .iload_n 1, 1), (74, .putfield 54, 3), (77, .iload_n 2, 1), (78, .ireturn, 1)]
theorem kX3_takeDelivered : iX3_takeDelivered.all (gdo cX3_takeDelivered) = true := by decide +kernel
def iX3_passHour : List (Nat × Instr × Nat) := [(0, .aload_n 0, 1), (1, .invokevirtual 108, 3), (4, .aload_n 0, 1), (5, .invokevirtual 111, 3), (8, .aload_n 0, 1), (9, .iconst 1, 1), (10, .invokevirtual 114, 3), (13, .aload_n 0, 1), (14, .iconst 0, 1), (15, .invokevirtual 114, 3), (18, .aload_n 0, 1), (19, .invokevirtual 118, 3), (22, .aload_n 0, 1), (23, .dup, 1), (24, .getfield 57, 3), (27, .iconst 1, 1), (28, .iadd, 1), (29, .putfield 57, 3), (32, .return_, 1)]
theorem kX3_passHour : iX3_passHour.all (gdo cX3_passHour) = true := by decide +kernel
def iX3_restTeams : List (Nat × Instr × Nat) := [(0, .iconst 0, 1), (1, .istore_n 1, 1), (2, .iload_n 1, 1), (3, .aload_n 0, 1), (4, .getfield 51, 3), (7, .if_icmp .ge 31, 3), (10, .aload_n 0, 1), (11, .getfield 25, 3), (14, .iload_n 1, 1), (15, .aaload, 1), (16, .invokevirtual 121, 3), (19, .ifCond .eq 13, 3), (22, .aload_n 0, 1), (23, .aload_n 0, 1), (24, .getfield 25, 3), (27, .iload_n 1, 1), (28, .aaload, 1), (29, .invokevirtual 124, 3), (32, .iinc 1 1, 3), (35, .goto (-33), 3), (38, .return_, 1)]
theorem kX3_restTeams : iX3_restTeams.all (gdo cX3_restTeams) = true := by decide +kernel
def iX3_restTeam : List (Nat × Instr × Nat) := [(0, .aload_n 0, 1), (1, .getfield 19, 3), (4, .aload_n 1, 1), (5, .getfield 127, 3), (8, .aaload, 1), (9, .astore_n 2, 1), (10, .aload_n 1, 1), (11, .getfield 130, 3), (14, .ifCond .le 49, 3), (17, .aload_n 2, 1), (18, .getfield 133, 3), (21, .ifCond .le 42, 3), (24, .aload_n 2, 1), (25, .dup, 1), (26, .getfield 133, 3), (29, .iconst 1, 1), (30, .isub, 1), (31, .putfield 133, 3), (34, .aload_n 1, 1), (35, .dup, 1), (36, .getfield 136, 3), (39, .iconst 1, 1), (40, .iadd, 1), (41, .putfield 136, 3), (44, .aload_n 0, 1), (45, .dup, 1), (46, .getfield 72, 3), (49, .iconst 1, 1), (50, .iadd, 1), (51, .putfield 72, 3), (54, .aload_n 1, 1), (55, .bipush 6, 2), (57, .invokevirtual 137, 3), (60, .goto 8, 3), (63, .aload_n 1, 1), (64, .iconst 1, 1), (65, .invokevirtual 137, 3), (68, .return_, 1)]
theorem kX3_restTeam : iX3_restTeam.all (gdo cX3_restTeam) = true := by decide +kernel
def iX3_moveTeams : List (Nat × Instr × Nat) := [(0, .iconst 0, 1), (1, .istore_n 1, 1), (2, .iload_n 1, 1), (3, .aload_n 0, 1), (4, .getfield 51, 3), (7, .if_icmp .ge 45, 3), (10, .aload_n 0, 1), (11, .getfield 25, 3), (14, .iload_n 1, 1), (15, .aaload, 1), (16, .astore_n 2, 1), (17, .aload_n 2, 1), (18, .invokevirtual 121, 3), (21, .ifCond .ne 25, 3), (24, .aload_n 2, 1), (25, .dup, 1), (26, .getfield 141, 3), (29, .iconst 1, 1), (30, .isub, 1), (31, .putfield 141, 3), (34, .aload_n 2, 1), (35, .getfield 141, 3), (38, .ifCond .ne 8, 3), (41, .aload_n 0, 1), (42, .aload_n 2, 1), (43, .invokevirtual 144, 3), (46, .iinc 1 1, 3), (49, .goto (-47), 3), (52, .return_, 1)]
theorem kX3_moveTeams : iX3_moveTeams.all (gdo cX3_moveTeams) = true := by decide +kernel
def iX3_arrive : List (Nat × Instr × Nat) := [(0, .aload_n 1, 1), (1, .getfield 147, 3), (4, .ifCond .eq 16, 3), (7, .aload_n 1, 1), (8, .dup, 1), (9, .getfield 151, 3), (12, .iconst 1, 1), (13, .iadd, 1), (14, .putfield 151, 3), (17, .goto 23, 3), (20, .aload_n 1, 1), (21, .aload_n 0, 1), (22, .getfield 11, 3), (25, .aload_n 1, 1), (26, .getfield 154, 3), (29, .aaload, 1), (30, .aload_n 1, 1), (31, .getfield 157, 3), (34, .invokevirtual 160, 3), (37, .invokevirtual 164, 3), (40, .aload_n 1, 1), (41, .getfield 105, 3), (44, .iconst (-1), 1), (45, .if_icmp .eq 16, 3), (48, .aload_n 0, 1), (49, .aload_n 0, 1), (50, .getfield 31, 3), (53, .aload_n 1, 1), (54, .getfield 105, 3), (57, .aaload, 1), (58, .invokevirtual 167, 3), (61, .aload_n 1, 1), (62, .aload_n 1, 1), (63, .getfield 127, 3), (66, .invokevirtual 170, 3), (69, .return_, 1)]
theorem kX3_arrive : iX3_arrive.all (gdo cX3_arrive) = true := by decide +kernel
def iX3_putDown : List (Nat × Instr × Nat) := [(0, .aload_n 1, 1), (1, .iconst (-1), 1), (2, .putfield 102, 3), (5, .aload_n 1, 1), (6, .getfield 173, 3), (9, .aload_n 1, 1), (10, .getfield 174, 3), (13, .if_icmp .ne 8, 3), (16, .aload_n 0, 1), (17, .aload_n 1, 1), (18, .invokevirtual 177, 3), (21, .return_, 1)]
theorem kX3_putDown : iX3_putDown.all (gdo cX3_putDown) = true := by decide +kernel
def iX3_deliver : List (Nat × Instr × Nat) := [(0, .aload_n 1, 1), (1, .aload_n 0, 1), (2, .getfield 57, 3), (5, .iconst 1, 1), (6, .iadd, 1), (7, .putfield 180, 3), (10, .aload_n 1, 1), (11, .getfield 180, 3), (14, .aload_n 1, 1), (15, .getfield 183, 3), (18, .isub, 1), (19, .istore_n 2, 1), (20, .aload_n 0, 1), (21, .dup, 1), (22, .getfield 60, 3), (25, .iconst 1, 1), (26, .iadd, 1), (27, .putfield 60, 3), (30, .aload_n 0, 1), (31, .dup, 1), (32, .getfield 63, 3), (35, .iload_n 2, 1), (36, .iadd, 1), (37, .putfield 63, 3), (40, .aload_n 1, 1), (41, .getfield 186, 3), (44, .ifCond .eq 23, 3), (47, .aload_n 0, 1), (48, .dup, 1), (49, .getfield 66, 3), (52, .iconst 1, 1), (53, .iadd, 1), (54, .putfield 66, 3), (57, .aload_n 0, 1), (58, .dup, 1), (59, .getfield 69, 3), (62, .iload_n 2, 1), (63, .iadd, 1), (64, .putfield 69, 3), (67, .return_, 1)]
theorem kX3_deliver : iX3_deliver.all (gdo cX3_deliver) = true := by decide +kernel
def iX3_sendLetters : List (Nat × Instr × Nat) := [(0, .iconst 0, 1), (1, .istore_n 2, 1), (2, .iload_n 2, 1), (3, .aload_n 0, 1), (4, .getfield 54, 3), (7, .if_icmp .ge 35, 3), (10, .aload_n 0, 1), (11, .getfield 31, 3), (14, .iload_n 2, 1), (15, .aaload, 1), (16, .getfield 186, 3), (19, .iload_n 1, 1), (20, .if_icmp .ne 16, 3), (23, .aload_n 0, 1), (24, .iload_n 2, 1), (25, .invokevirtual 189, 3), (28, .ifCond .ne 8, 3), (31, .aload_n 0, 1), (32, .iload_n 2, 1), (33, .invokevirtual 193, 3), (36, .iinc 2 1, 3), (39, .goto (-37), 3), (42, .return_, 1)]
theorem kX3_sendLetters : iX3_sendLetters.all (gdo cX3_sendLetters) = true := by decide +kernel
def iX3_sendLetter : List (Nat × Instr × Nat) := [(0, .aload_n 0, 1), (1, .getfield 31, 3), (4, .iload_n 1, 1), (5, .aaload, 1), (6, .astore_n 2, 1), (7, .aload_n 2, 1), (8, .getfield 173, 3), (11, .aload_n 2, 1), (12, .getfield 174, 3), (15, .invokestatic 196, 3), (18, .istore_n 3, 1), (19, .aload_n 0, 1), (20, .aload_n 2, 1), (21, .getfield 173, 3), (24, .invokevirtual 200, 3), (27, .istore 4, 2), (29, .aload_n 0, 1), (30, .getfield 25, 3), (33, .iload 4, 2), (35, .aaload, 1), (36, .astore 5, 2), (38, .aload 5, 2), (40, .iload_n 3, 1), (41, .aload_n 0, 1), (42, .getfield 11, 3), (45, .aload_n 2, 1), (46, .getfield 173, 3), (49, .iload_n 3, 1), (50, .invokestatic 203, 3), (53, .aaload, 1), (54, .getfield 206, 3), (57, .invokevirtual 209, 3), (60, .aload 5, 2), (62, .iload_n 1, 1), (63, .putfield 105, 3), (66, .aload_n 2, 1), (67, .iload_n 3, 1), (68, .putfield 173, 3), (71, .aload_n 2, 1), (72, .iload 4, 2), (74, .putfield 102, 3), (77, .aload_n 2, 1), (78, .dup, 1), (79, .getfield 212, 3), (82, .iconst 1, 1), (83, .iadd, 1), (84, .putfield 212, 3), (87, .return_, 1)]
theorem kX3_sendLetter : iX3_sendLetter.all (gdo cX3_sendLetter) = true := by decide +kernel
def iX3_hindrance : List (Nat × Instr × Nat) := [(0, .aload_n 0, 1), (1, .getfield 31, 3), (4, .iload_n 1, 1), (5, .aaload, 1), (6, .astore_n 2, 1), (7, .aload_n 2, 1), (8, .invokevirtual 95, 3), (11, .ifCond .eq 5, 3), (14, .iconst 1, 1), (15, .ireturn, 1), (16, .aload_n 2, 1), (17, .invokevirtual 99, 3), (20, .ifCond .eq 5, 3), (23, .iconst 2, 1), (24, .ireturn, 1), (25, .aload_n 2, 1), (26, .getfield 173, 3), (29, .aload_n 2, 1), (30, .getfield 174, 3), (33, .invokestatic 196, 3), (36, .istore_n 3, 1), (37, .aload_n 0, 1), (38, .getfield 11, 3), (41, .aload_n 2, 1), (42, .getfield 173, 3), (45, .iload_n 3, 1), (46, .invokestatic 203, 3), (49, .aaload, 1), (50, .astore 4, 2), (52, .aload 4, 2), (54, .getfield 215, 3), (57, .ifCond .eq 5, 3), (60, .iconst 3, 1), (61, .ireturn, 1), (62, .aload_n 0, 1), (63, .getfield 19, 3), (66, .aload_n 2, 1), (67, .getfield 173, 3), (70, .aaload, 1), (71, .getfield 218, 3), (74, .ifCond .ne 15, 3), (77, .aload_n 0, 1), (78, .getfield 19, 3), (81, .iload_n 3, 1), (82, .aaload, 1), (83, .getfield 218, 3), (86, .ifCond .eq 5, 3), (89, .iconst 4, 1), (90, .ireturn, 1), (91, .aload_n 0, 1), (92, .iload_n 3, 1), (93, .invokevirtual 221, 3), (96, .ifCond .ne 5, 3), (99, .iconst 5, 1), (100, .ireturn, 1), (101, .aload_n 0, 1), (102, .aload_n 2, 1), (103, .getfield 173, 3), (106, .invokevirtual 200, 3), (109, .istore 5, 2)]
theorem kX3_hindrance : iX3_hindrance.all (gdo cX3_hindrance) = true := by decide +kernel
def iX3_hindrance_1 : List (Nat × Instr × Nat) := [(111, .iload 5, 2), (113, .iconst (-1), 1), (114, .if_icmp .ne 6, 3), (117, .bipush 6, 2), (119, .ireturn, 1), (120, .aload_n 0, 1), (121, .getfield 25, 3), (124, .iload 5, 2), (126, .aaload, 1), (127, .getfield 130, 3), (130, .aload 4, 2), (132, .iload_n 3, 1), (133, .aload_n 2, 1), (134, .getfield 173, 3), (137, .if_icmp .le 7, 3), (140, .iconst 1, 1), (141, .goto 4, 3), (144, .iconst 0, 1), (145, .invokevirtual 160, 3), (148, .iadd, 1), (149, .bipush 100, 2), (151, .if_icmp .le 7, 3), (154, .iconst 1, 1), (155, .goto 4, 3), (158, .iconst 0, 1), (159, .istore 6, 2), (161, .iload 6, 2), (163, .ifCond .eq 8, 3), (166, .bipush 7, 2), (168, .goto 4, 3), (171, .iconst 0, 1), (172, .ireturn, 1)]
theorem kX3_hindrance_1 : iX3_hindrance_1.all (gdo cX3_hindrance) = true := by decide +kernel
def iX3_fittestTeamAt : List (Nat × Instr × Nat) := [(0, .iconst (-1), 1), (1, .istore_n 2, 1), (2, .bipush 101, 2), (4, .istore_n 3, 1), (5, .iconst 0, 1), (6, .istore 4, 2), (8, .iload 4, 2), (10, .aload_n 0, 1), (11, .getfield 51, 3), (14, .if_icmp .ge 51, 3), (17, .aload_n 0, 1), (18, .getfield 25, 3), (21, .iload 4, 2), (23, .aaload, 1), (24, .iload_n 1, 1), (25, .invokevirtual 224, 3), (28, .ifCond .eq 31, 3), (31, .aload_n 0, 1), (32, .getfield 25, 3), (35, .iload 4, 2), (37, .aaload, 1), (38, .getfield 130, 3), (41, .iload_n 3, 1), (42, .if_icmp .ge 17, 3), (45, .iload 4, 2), (47, .istore_n 2, 1), (48, .aload_n 0, 1), (49, .getfield 25, 3), (52, .iload 4, 2), (54, .aaload, 1), (55, .getfield 130, 3), (58, .istore_n 3, 1), (59, .iinc 4 1, 3), (62, .goto (-54), 3), (65, .iload_n 2, 1), (66, .ireturn, 1)]
theorem kX3_fittestTeamAt : iX3_fittestTeamAt.all (gdo cX3_fittestTeamAt) = true := by decide +kernel
def iX3_sendTeamsBack : List (Nat × Instr × Nat) := [(0, .iconst 0, 1), (1, .istore_n 1, 1), (2, .iload_n 1, 1), (3, .aload_n 0, 1), (4, .getfield 51, 3), (7, .if_icmp .ge 57, 3), (10, .aload_n 0, 1), (11, .getfield 25, 3), (14, .iload_n 1, 1), (15, .aaload, 1), (16, .astore_n 2, 1), (17, .aload_n 2, 1), (18, .invokevirtual 121, 3), (21, .ifCond .eq 37, 3), (24, .aload_n 2, 1), (25, .getfield 127, 3), (28, .aload_n 2, 1), (29, .getfield 228, 3), (32, .if_icmp .eq 26, 3), (35, .aload_n 2, 1), (36, .getfield 130, 3), (39, .ifCond .ne 19, 3), (42, .aload_n 0, 1), (43, .aload_n 2, 1), (44, .getfield 127, 3), (47, .invokevirtual 231, 3), (50, .ifCond .ne 8, 3), (53, .aload_n 0, 1), (54, .aload_n 2, 1), (55, .invokevirtual 234, 3), (58, .iinc 1 1, 3), (61, .goto (-59), 3), (64, .return_, 1)]
theorem kX3_sendTeamsBack : iX3_sendTeamsBack.all (gdo cX3_sendTeamsBack) = true := by decide +kernel
def iX3_sendBack : List (Nat × Instr × Nat) := [(0, .aload_n 1, 1), (1, .getfield 127, 3), (4, .aload_n 1, 1), (5, .getfield 228, 3), (8, .invokestatic 196, 3), (11, .istore_n 2, 1), (12, .aload_n 0, 1), (13, .getfield 11, 3), (16, .aload_n 1, 1), (17, .getfield 127, 3), (20, .iload_n 2, 1), (21, .invokestatic 203, 3), (24, .aaload, 1), (25, .astore_n 3, 1), (26, .aload_n 3, 1), (27, .getfield 215, 3), (30, .ifCond .ne 27, 3), (33, .aload_n 0, 1), (34, .iload_n 2, 1), (35, .invokevirtual 221, 3), (38, .ifCond .le 19, 3), (41, .aload_n 1, 1), (42, .iload_n 2, 1), (43, .iconst 2, 1), (44, .aload_n 3, 1), (45, .getfield 206, 3), (48, .imul, 1), (49, .invokevirtual 209, 3), (52, .aload_n 1, 1), (53, .iconst 1, 1), (54, .putfield 147, 3), (57, .return_, 1)]
theorem kX3_sendBack : iX3_sendBack.all (gdo cX3_sendBack) = true := by decide +kernel
def iX3_hoursUntilDelivered : List (Nat × Instr × Nat) := [(0, .iconst 0, 1), (1, .istore_n 2, 1), (2, .iconst 0, 1), (3, .istore_n 3, 1), (4, .iload_n 2, 1), (5, .sipush 500, 3), (8, .if_icmp .ge 49, 3), (11, .iload_n 3, 1), (12, .ifCond .ne 45, 3), (15, .aload_n 0, 1), (16, .iload_n 1, 1), (17, .invokevirtual 237, 3), (20, .ifCond .ne 37, 3), (23, .aload_n 0, 1), (24, .invokevirtual 240, 3), (27, .istore 4, 2), (29, .aload_n 0, 1), (30, .invokevirtual 243, 3), (33, .iinc 2 1, 3), (36, .iload 4, 2), (38, .ifCond .eq 14, 3), (41, .aload_n 0, 1), (42, .invokevirtual 240, 3), (45, .ifCond .eq 7, 3), (48, .iconst 1, 1), (49, .goto 4, 3), (52, .iconst 0, 1), (53, .istore_n 3, 1), (54, .goto (-50), 3), (57, .aload_n 0, 1), (58, .iload_n 1, 1), (59, .invokevirtual 237, 3), (62, .ifCond .eq 7, 3), (65, .iload_n 2, 1), (66, .goto 4, 3), (69, .iconst (-1), 1), (70, .ireturn, 1)]
theorem kX3_hoursUntilDelivered : iX3_hoursUntilDelivered.all (gdo cX3_hoursUntilDelivered) = true := by decide +kernel
def iX3_hasCome : List (Nat × Instr × Nat) := [(0, .iload_n 1, 1), (1, .iconst (-1), 1), (2, .if_icmp .ne 21, 3), (5, .aload_n 0, 1), (6, .invokevirtual 246, 3), (9, .aload_n 0, 1), (10, .invokevirtual 250, 3), (13, .iadd, 1), (14, .ifCond .ne 7, 3), (17, .iconst 1, 1), (18, .goto 4, 3), (21, .iconst 0, 1), (22, .ireturn, 1), (23, .aload_n 0, 1), (24, .getfield 31, 3), (27, .iload_n 1, 1), (28, .aaload, 1), (29, .invokevirtual 95, 3), (32, .ireturn, 1)]
theorem kX3_hasCome : iX3_hasCome.all (gdo cX3_hasCome) = true := by decide +kernel
def iX3_allTeamsIdle : List (Nat × Instr × Nat) := [(0, .iconst 0, 1), (1, .istore_n 1, 1), (2, .iload_n 1, 1), (3, .aload_n 0, 1), (4, .getfield 51, 3), (7, .if_icmp .ge 35, 3), (10, .aload_n 0, 1), (11, .getfield 25, 3), (14, .iload_n 1, 1), (15, .aaload, 1), (16, .invokevirtual 121, 3), (19, .ifCond .eq 15, 3), (22, .aload_n 0, 1), (23, .getfield 25, 3), (26, .iload_n 1, 1), (27, .aaload, 1), (28, .getfield 130, 3), (31, .ifCond .le 5, 3), (34, .iconst 0, 1), (35, .ireturn, 1), (36, .iinc 1 1, 3), (39, .goto (-37), 3), (42, .iconst 1, 1), (43, .ireturn, 1)]
theorem kX3_allTeamsIdle : iX3_allTeamsIdle.all (gdo cX3_allTeamsIdle) = true := by decide +kernel
def iX3_hoursBetween : List (Nat × Instr × Nat) := [(0, .iconst 0, 1), (1, .istore_n 3, 1), (2, .iload_n 1, 1), (3, .istore 4, 2), (5, .iload 4, 2), (7, .iload_n 2, 1), (8, .if_icmp .ge 22, 3), (11, .iload_n 3, 1), (12, .aload_n 0, 1), (13, .getfield 11, 3), (16, .iload 4, 2), (18, .aaload, 1), (19, .getfield 206, 3), (22, .iadd, 1), (23, .istore_n 3, 1), (24, .iinc 4 1, 3), (27, .goto (-22), 3), (30, .iload_n 3, 1), (31, .ireturn, 1)]
theorem kX3_hoursBetween : iX3_hoursBetween.all (gdo cX3_hoursBetween) = true := by decide +kernel
def iX3_effortBetween : List (Nat × Instr × Nat) := [(0, .iload_n 1, 1), (1, .iload_n 2, 1), (2, .invokestatic 253, 3), (5, .istore_n 3, 1), (6, .iconst 0, 1), (7, .istore 4, 2), (9, .iload_n 1, 1), (10, .iload_n 2, 1), (11, .invokestatic 258, 3), (14, .istore 5, 2), (16, .iload 5, 2), (18, .iload_n 3, 1), (19, .if_icmp .ge 34, 3), (22, .iload 4, 2), (24, .aload_n 0, 1), (25, .getfield 11, 3), (28, .iload 5, 2), (30, .aaload, 1), (31, .iload_n 2, 1), (32, .iload_n 1, 1), (33, .if_icmp .le 7, 3), (36, .iconst 1, 1), (37, .goto 4, 3), (40, .iconst 0, 1), (41, .invokevirtual 160, 3), (44, .iadd, 1), (45, .istore 4, 2), (47, .iinc 5 1, 3), (50, .goto (-34), 3), (53, .iload 4, 2), (55, .ireturn, 1)]
theorem kX3_effortBetween : iX3_effortBetween.all (gdo cX3_effortBetween) = true := by decide +kernel
def iX3_teamsOn : List (Nat × Instr × Nat) := [(0, .iconst 0, 1), (1, .istore_n 2, 1), (2, .iconst 0, 1), (3, .istore_n 3, 1), (4, .iload_n 3, 1), (5, .aload_n 0, 1), (6, .getfield 51, 3), (9, .if_icmp .ge 25, 3), (12, .aload_n 0, 1), (13, .getfield 25, 3), (16, .iload_n 3, 1), (17, .aaload, 1), (18, .getfield 154, 3), (21, .iload_n 1, 1), (22, .if_icmp .ne 6, 3), (25, .iinc 2 1, 3), (28, .iinc 3 1, 3), (31, .goto (-27), 3), (34, .iload_n 2, 1), (35, .ireturn, 1)]
theorem kX3_teamsOn : iX3_teamsOn.all (gdo cX3_teamsOn) = true := by decide +kernel
def iX3_teamsAt : List (Nat × Instr × Nat) := [(0, .iconst 0, 1), (1, .istore_n 2, 1), (2, .iconst 0, 1), (3, .istore_n 3, 1), (4, .iload_n 3, 1), (5, .aload_n 0, 1), (6, .getfield 51, 3), (9, .if_icmp .ge 25, 3), (12, .aload_n 0, 1), (13, .getfield 25, 3), (16, .iload_n 3, 1), (17, .aaload, 1), (18, .iload_n 1, 1), (19, .invokevirtual 224, 3), (22, .ifCond .eq 6, 3), (25, .iinc 2 1, 3), (28, .iinc 3 1, 3), (31, .goto (-27), 3), (34, .iload_n 2, 1), (35, .ireturn, 1)]
theorem kX3_teamsAt : iX3_teamsAt.all (gdo cX3_teamsAt) = true := by decide +kernel
def iX3_bedsTaken : List (Nat × Instr × Nat) := [(0, .iconst 0, 1), (1, .istore_n 2, 1), (2, .iconst 0, 1), (3, .istore_n 3, 1), (4, .iload_n 3, 1), (5, .aload_n 0, 1), (6, .getfield 51, 3), (9, .if_icmp .ge 25, 3), (12, .aload_n 0, 1), (13, .getfield 25, 3), (16, .iload_n 3, 1), (17, .aaload, 1), (18, .getfield 127, 3), (21, .iload_n 1, 1), (22, .if_icmp .ne 6, 3), (25, .iinc 2 1, 3), (28, .iinc 3 1, 3), (31, .goto (-27), 3), (34, .iload_n 2, 1), (35, .ireturn, 1)]
theorem kX3_bedsTaken : iX3_bedsTaken.all (gdo cX3_bedsTaken) = true := by decide +kernel
def iX3_freeBeds : List (Nat × Instr × Nat) := [(0, .iconst 0, 1), (1, .aload_n 0, 1), (2, .getfield 19, 3), (5, .iload_n 1, 1), (6, .aaload, 1), (7, .getfield 261, 3), (10, .aload_n 0, 1), (11, .iload_n 1, 1), (12, .invokevirtual 264, 3), (15, .isub, 1), (16, .invokestatic 253, 3), (19, .ireturn, 1)]
theorem kX3_freeBeds : iX3_freeBeds.all (gdo cX3_freeBeds) = true := by decide +kernel
def iX3_lettersAt : List (Nat × Instr × Nat) := [(0, .iconst 0, 1), (1, .istore_n 2, 1), (2, .iconst 0, 1), (3, .istore_n 3, 1), (4, .iload_n 3, 1), (5, .aload_n 0, 1), (6, .getfield 54, 3), (9, .if_icmp .ge 37, 3), (12, .aload_n 0, 1), (13, .getfield 31, 3), (16, .iload_n 3, 1), (17, .aaload, 1), (18, .invokevirtual 267, 3), (21, .ifCond .eq 19, 3), (24, .aload_n 0, 1), (25, .getfield 31, 3), (28, .iload_n 3, 1), (29, .aaload, 1), (30, .getfield 173, 3), (33, .iload_n 1, 1), (34, .if_icmp .ne 6, 3), (37, .iinc 2 1, 3), (40, .iinc 3 1, 3), (43, .goto (-39), 3), (46, .iload_n 2, 1), (47, .ireturn, 1)]
theorem kX3_lettersAt : iX3_lettersAt.all (gdo cX3_lettersAt) = true := by decide +kernel
def iX3_lettersLying : List (Nat × Instr × Nat) := [(0, .iconst 0, 1), (1, .istore_n 1, 1), (2, .iconst 0, 1), (3, .istore_n 2, 1), (4, .iload_n 2, 1), (5, .aload_n 0, 1), (6, .getfield 54, 3), (9, .if_icmp .ge 24, 3), (12, .aload_n 0, 1), (13, .getfield 31, 3), (16, .iload_n 2, 1), (17, .aaload, 1), (18, .invokevirtual 267, 3), (21, .ifCond .eq 6, 3), (24, .iinc 1 1, 3), (27, .iinc 2 1, 3), (30, .goto (-26), 3), (33, .iload_n 1, 1), (34, .ireturn, 1)]
theorem kX3_lettersLying : iX3_lettersLying.all (gdo cX3_lettersLying) = true := by decide +kernel
def iX3_lettersOnStages : List (Nat × Instr × Nat) := [(0, .iconst 0, 1), (1, .istore_n 1, 1), (2, .iconst 0, 1), (3, .istore_n 2, 1), (4, .iload_n 2, 1), (5, .aload_n 0, 1), (6, .getfield 54, 3), (9, .if_icmp .ge 24, 3), (12, .aload_n 0, 1), (13, .getfield 31, 3), (16, .iload_n 2, 1), (17, .aaload, 1), (18, .invokevirtual 99, 3), (21, .ifCond .eq 6, 3), (24, .iinc 1 1, 3), (27, .iinc 2 1, 3), (30, .goto (-26), 3), (33, .iload_n 1, 1), (34, .ireturn, 1)]
theorem kX3_lettersOnStages : iX3_lettersOnStages.all (gdo cX3_lettersOnStages) = true := by decide +kernel
def iX3_aboutStage : List (Nat × Instr × Nat) := [(0, .aload_n 0, 1), (1, .getfield 11, 3), (4, .iload_n 1, 1), (5, .aaload, 1), (6, .astore_n 3, 1), (7, .iload_n 2, 1), (8, .tableswitch 66 0 4 #[36, 41, 46, 54, 60], 36), (44, .aload_n 3, 1), (45, .getfield 206, 3), (48, .ireturn, 1), (49, .aload_n 3, 1), (50, .getfield 270, 3), (53, .ireturn, 1), (54, .aload_n 3, 1), (55, .getfield 215, 3), (58, .invokestatic 273, 3), (61, .ireturn, 1), (62, .aload_n 3, 1), (63, .iconst 1, 1), (64, .invokevirtual 160, 3), (67, .ireturn, 1), (68, .aload_n 3, 1), (69, .iconst 0, 1), (70, .invokevirtual 160, 3), (73, .ireturn, 1), (74, .aload_n 0, 1), (75, .iload_n 1, 1), (76, .invokevirtual 276, 3), (79, .ireturn, 1)]
theorem kX3_aboutStage : iX3_aboutStage.all (gdo cX3_aboutStage) = true := by decide +kernel
def iX3_aboutInn : List (Nat × Instr × Nat) := [(0, .aload_n 0, 1), (1, .getfield 19, 3), (4, .iload_n 1, 1), (5, .aaload, 1), (6, .astore_n 3, 1), (7, .iload_n 2, 1), (8, .tableswitch 82 0 5 #[40, 45, 50, 58, 64, 76], 40), (48, .aload_n 3, 1), (49, .getfield 261, 3), (52, .ireturn, 1), (53, .aload_n 3, 1), (54, .getfield 133, 3), (57, .ireturn, 1), (58, .aload_n 3, 1), (59, .getfield 218, 3), (62, .invokestatic 273, 3), (65, .ireturn, 1), (66, .aload_n 0, 1), (67, .iload_n 1, 1), (68, .invokevirtual 279, 3), (71, .ireturn, 1), (72, .aload_n 0, 1), (73, .iload_n 1, 1), (74, .invokevirtual 264, 3), (77, .aload_n 0, 1), (78, .iload_n 1, 1), (79, .invokevirtual 279, 3), (82, .isub, 1), (83, .ireturn, 1), (84, .aload_n 0, 1), (85, .iload_n 1, 1), (86, .invokevirtual 231, 3), (89, .ireturn, 1), (90, .aload_n 0, 1), (91, .iload_n 1, 1), (92, .invokevirtual 221, 3), (95, .ireturn, 1)]
theorem kX3_aboutInn : iX3_aboutInn.all (gdo cX3_aboutInn) = true := by decide +kernel
def iX3_number : List (Nat × Instr × Nat) := [(0, .iload_n 1, 1), (1, .tableswitch 105 0 9 #[55, 60, 65, 70, 75, 80, 85, 90, 95, 100], 55), (56, .aload_n 0, 1), (57, .getfield 47, 3), (60, .ireturn, 1), (61, .aload_n 0, 1), (62, .getfield 51, 3), (65, .ireturn, 1), (66, .aload_n 0, 1), (67, .getfield 54, 3), (70, .ireturn, 1), (71, .aload_n 0, 1), (72, .getfield 57, 3), (75, .ireturn, 1), (76, .aload_n 0, 1), (77, .getfield 60, 3), (80, .ireturn, 1), (81, .aload_n 0, 1), (82, .getfield 63, 3), (85, .ireturn, 1), (86, .aload_n 0, 1), (87, .getfield 66, 3), (90, .ireturn, 1), (91, .aload_n 0, 1), (92, .getfield 69, 3), (95, .ireturn, 1), (96, .aload_n 0, 1), (97, .getfield 72, 3), (100, .ireturn, 1), (101, .aload_n 0, 1), (102, .invokevirtual 246, 3), (105, .ireturn, 1), (106, .aload_n 0, 1), (107, .invokevirtual 250, 3), (110, .ireturn, 1)]
theorem kX3_number : iX3_number.all (gdo cX3_number) = true := by decide +kernel
def iX4_init : List (Nat × Instr × Nat) := [(0, .aload_n 0, 1), (1, .invokespecial 3, 3), (4, .aload_n 0, 1), (5, .bipush 90, 2), (7, .newarray .byte, 2), (9, .putfield 9, 3), (12, .return_, 1)]
theorem kX4_init : iX4_init.all (gdo cX4_init) = true := by decide +kernel
def iX4_add : List (Nat × Instr × Nat) := [(0, .aload_n 0, 1), (1, .getfield 9, 3), (4, .aload_n 0, 1), (5, .getfield 15, 3), (8, .iload_n 1, 1), (9, .bastore, 1), (10, .aload_n 0, 1), (11, .dup, 1), (12, .getfield 15, 3), (15, .iconst 1, 1), (16, .iadd, 1), (17, .putfield 15, 3), (20, .return_, 1)]
theorem kX4_add : iX4_add.all (gdo cX4_add) = true := by decide +kernel
def iX4_readInto : List (Nat × Instr × Nat) := [(0, .aload_n 0, 1), (1, .iconst 0, 1), (2, .putfield 19, 3), (5, .iconst 0, 1), (6, .istore_n 2, 1), (7, .iload_n 2, 1), (8, .bipush 7, 2), (10, .if_icmp .ge 47, 3), (13, .aload_n 0, 1), (14, .aload_n 1, 1), (15, .getfield 22, 3), (18, .iload_n 2, 1), (19, .aaload, 1), (20, .invokevirtual 28, 3), (23, .ifCond .ne 8, 3), (26, .aload_n 0, 1), (27, .getfield 19, 3), (30, .ireturn, 1), (31, .aload_n 0, 1), (32, .getfield 19, 3), (35, .aload_n 0, 1), (36, .getfield 15, 3), (39, .if_icmp .ne 12, 3), (42, .aload_n 1, 1), (43, .iload_n 2, 1), (44, .iconst 2, 1), (45, .iadd, 1), (46, .putfield 32, 3), (49, .iconst (-1), 1), (50, .ireturn, 1), (51, .iinc 2 1, 3), (54, .goto (-47), 3), (57, .aload_n 0, 1), (58, .getfield 19, 3), (61, .ireturn, 1)]
theorem kX4_readInto : iX4_readInto.all (gdo cX4_readInto) = true := by decide +kernel
def iX4_readStage : List (Nat × Instr × Nat) := [(0, .aload_n 0, 1), (1, .bipush 9, 2), (3, .invokevirtual 35, 3), (6, .ifCond .ne 5, 3), (9, .iconst 0, 1), (10, .ireturn, 1), (11, .aload_n 0, 1), (12, .invokevirtual 39, 3), (15, .istore_n 2, 1), (16, .iconst 0, 1), (17, .istore_n 3, 1), (18, .aload_n 0, 1), (19, .bipush 43, 2), (21, .invokevirtual 43, 3), (24, .ifCond .ne 12, 3), (27, .aload_n 0, 1), (28, .bipush 45, 2), (30, .invokevirtual 43, 3), (33, .ifCond .eq 47, 3), (36, .aload_n 0, 1), (37, .bipush 43, 2), (39, .invokevirtual 43, 3), (42, .ifCond .eq 7, 3), (45, .iconst 1, 1), (46, .goto 4, 3), (49, .iconst (-1), 1), (50, .istore 4, 2), (52, .aload_n 0, 1), (53, .dup, 1), (54, .getfield 19, 3), (57, .iconst 1, 1), (58, .iadd, 1), (59, .putfield 19, 3), (62, .aload_n 0, 1), (63, .iconst 5, 1), (64, .invokevirtual 35, 3), (67, .ifCond .ne 5, 3), (70, .iconst 0, 1), (71, .ireturn, 1), (72, .iload 4, 2), (74, .aload_n 0, 1), (75, .invokevirtual 39, 3), (78, .imul, 1), (79, .istore_n 3, 1), (80, .aload_n 0, 1), (81, .bipush 59, 2), (83, .invokevirtual 43, 3), (86, .ifCond .ne 5, 3), (89, .iconst 0, 1), (90, .ireturn, 1), (91, .aload_n 0, 1), (92, .dup, 1), (93, .getfield 19, 3), (96, .iconst 1, 1), (97, .iadd, 1), (98, .putfield 19, 3), (101, .aload_n 1, 1), (102, .iload_n 2, 1), (103, .iload_n 3, 1), (104, .iconst 0, 1)]
theorem kX4_readStage : iX4_readStage.all (gdo cX4_readStage) = true := by decide +kernel
def iX4_readStage_1 : List (Nat × Instr × Nat) := [(105, .invokevirtual 47, 3), (108, .iconst 1, 1), (109, .ireturn, 1)]
theorem kX4_readStage_1 : iX4_readStage_1.all (gdo cX4_readStage) = true := by decide +kernel
def iX4_signStands : List (Nat × Instr × Nat) := [(0, .aload_n 0, 1), (1, .getfield 19, 3), (4, .aload_n 0, 1), (5, .getfield 15, 3), (8, .if_icmp .ge 20, 3), (11, .aload_n 0, 1), (12, .getfield 9, 3), (15, .aload_n 0, 1), (16, .getfield 19, 3), (19, .baload, 1), (20, .iload_n 1, 1), (21, .if_icmp .ne 7, 3), (24, .iconst 1, 1), (25, .goto 4, 3), (28, .iconst 0, 1), (29, .ireturn, 1)]
theorem kX4_signStands : iX4_signStands.all (gdo cX4_signStands) = true := by decide +kernel
def iX4_digitStands : List (Nat × Instr × Nat) := [(0, .aload_n 0, 1), (1, .getfield 19, 3), (4, .aload_n 0, 1), (5, .getfield 15, 3), (8, .if_icmp .ge 37, 3), (11, .aload_n 0, 1), (12, .getfield 9, 3), (15, .aload_n 0, 1), (16, .getfield 19, 3), (19, .baload, 1), (20, .bipush 49, 2), (22, .if_icmp .lt 23, 3), (25, .aload_n 0, 1), (26, .getfield 9, 3), (29, .aload_n 0, 1), (30, .getfield 19, 3), (33, .baload, 1), (34, .bipush 48, 2), (36, .iload_n 1, 1), (37, .iadd, 1), (38, .if_icmp .gt 7, 3), (41, .iconst 1, 1), (42, .goto 4, 3), (45, .iconst 0, 1), (46, .ireturn, 1)]
theorem kX4_digitStands : iX4_digitStands.all (gdo cX4_digitStands) = true := by decide +kernel
def iX4_takeDigit : List (Nat × Instr × Nat) := [(0, .aload_n 0, 1), (1, .dup, 1), (2, .getfield 19, 3), (5, .iconst 1, 1), (6, .iadd, 1), (7, .putfield 19, 3), (10, .aload_n 0, 1), (11, .getfield 9, 3), (14, .aload_n 0, 1), (15, .getfield 19, 3), (18, .iconst 1, 1), (19, .isub, 1), (20, .baload, 1), (21, .bipush 48, 2), (23, .isub, 1), (24, .ireturn, 1)]
theorem kX4_takeDigit : iX4_takeDigit.all (gdo cX4_takeDigit) = true := by decide +kernel
def iX5_init : List (Nat × Instr × Nat) := [(0, .aload_n 0, 1), (1, .invokespecial 1, 3), (4, .return_, 1)]
theorem kX5_init : iX5_init.all (gdo cX5_init) = true := by decide +kernel
def iX5_set : List (Nat × Instr × Nat) := [(0, .aload_n 0, 1), (1, .iload_n 1, 1), (2, .putfield 7, 3), (5, .aload_n 0, 1), (6, .iload_n 2, 1), (7, .putfield 13, 3), (10, .aload_n 0, 1), (11, .iload_n 3, 1), (12, .putfield 16, 3), (15, .return_, 1)]
theorem kX5_set : iX5_set.all (gdo cX5_set) = true := by decide +kernel
def iX5_copyFrom : List (Nat × Instr × Nat) := [(0, .aload_n 0, 1), (1, .aload_n 1, 1), (2, .getfield 7, 3), (5, .aload_n 1, 1), (6, .getfield 13, 3), (9, .aload_n 1, 1), (10, .getfield 16, 3), (13, .invokevirtual 20, 3), (16, .return_, 1)]
theorem kX5_copyFrom : iX5_copyFrom.all (gdo cX5_copyFrom) = true := by decide +kernel
def iX5_effort : List (Nat × Instr × Nat) := [(0, .iload_n 1, 1), (1, .ifCond .eq 12, 3), (4, .iconst 4, 1), (5, .aload_n 0, 1), (6, .getfield 13, 3), (9, .imul, 1), (10, .goto 10, 3), (13, .bipush (-4), 2), (15, .aload_n 0, 1), (16, .getfield 13, 3), (19, .imul, 1), (20, .istore_n 2, 1), (21, .iconst 5, 1), (22, .iconst 5, 1), (23, .aload_n 0, 1), (24, .getfield 7, 3), (27, .imul, 1), (28, .iload_n 2, 1), (29, .iadd, 1), (30, .invokestatic 24, 3), (33, .ireturn, 1)]
theorem kX5_effort : iX5_effort.all (gdo cX5_effort) = true := by decide +kernel
def iX6_init : List (Nat × Instr × Nat) := [(0, .aload_n 0, 1), (1, .invokespecial 3, 3), (4, .return_, 1)]
theorem kX6_init : iX6_init.all (gdo cX6_init) = true := by decide +kernel
def iX6_begin : List (Nat × Instr × Nat) := [(0, .aload_n 0, 1), (1, .iload_n 1, 1), (2, .putfield 9, 3), (5, .aload_n 0, 1), (6, .iload_n 2, 1), (7, .putfield 15, 3), (10, .aload_n 0, 1), (11, .iload_n 1, 1), (12, .invokevirtual 18, 3), (15, .aload_n 0, 1), (16, .iconst 0, 1), (17, .putfield 22, 3), (20, .aload_n 0, 1), (21, .iconst 0, 1), (22, .putfield 26, 3), (25, .aload_n 0, 1), (26, .iconst 0, 1), (27, .putfield 29, 3), (30, .aload_n 0, 1), (31, .iconst 0, 1), (32, .putfield 32, 3), (35, .aload_n 0, 1), (36, .iconst 0, 1), (37, .putfield 35, 3), (40, .return_, 1)]
theorem kX6_begin : iX6_begin.all (gdo cX6_begin) = true := by decide +kernel
def iX6_copyFrom : List (Nat × Instr × Nat) := [(0, .aload_n 0, 1), (1, .aload_n 1, 1), (2, .getfield 9, 3), (5, .putfield 9, 3), (8, .aload_n 0, 1), (9, .aload_n 1, 1), (10, .getfield 15, 3), (13, .putfield 15, 3), (16, .aload_n 0, 1), (17, .aload_n 1, 1), (18, .getfield 38, 3), (21, .putfield 38, 3), (24, .aload_n 0, 1), (25, .aload_n 1, 1), (26, .getfield 41, 3), (29, .putfield 41, 3), (32, .aload_n 0, 1), (33, .aload_n 1, 1), (34, .getfield 22, 3), (37, .putfield 22, 3), (40, .aload_n 0, 1), (41, .aload_n 1, 1), (42, .getfield 44, 3), (45, .putfield 44, 3), (48, .aload_n 0, 1), (49, .aload_n 1, 1), (50, .getfield 47, 3), (53, .putfield 47, 3), (56, .aload_n 0, 1), (57, .aload_n 1, 1), (58, .getfield 50, 3), (61, .putfield 50, 3), (64, .aload_n 0, 1), (65, .aload_n 1, 1), (66, .getfield 26, 3), (69, .putfield 26, 3), (72, .aload_n 0, 1), (73, .aload_n 1, 1), (74, .getfield 29, 3), (77, .putfield 29, 3), (80, .aload_n 0, 1), (81, .aload_n 1, 1), (82, .getfield 32, 3), (85, .putfield 32, 3), (88, .aload_n 0, 1), (89, .aload_n 1, 1), (90, .getfield 35, 3), (93, .putfield 35, 3), (96, .return_, 1)]
theorem kX6_copyFrom : iX6_copyFrom.all (gdo cX6_copyFrom) = true := by decide +kernel
def iX6_stands : List (Nat × Instr × Nat) := [(0, .aload_n 0, 1), (1, .getfield 41, 3), (4, .iconst (-1), 1), (5, .if_icmp .ne 7, 3), (8, .iconst 1, 1), (9, .goto 4, 3), (12, .iconst 0, 1), (13, .ireturn, 1)]
theorem kX6_stands : iX6_stands.all (gdo cX6_stands) = true := by decide +kernel
def iX6_standsAt : List (Nat × Instr × Nat) := [(0, .aload_n 0, 1), (1, .getfield 41, 3), (4, .iconst (-1), 1), (5, .if_icmp .ne 15, 3), (8, .aload_n 0, 1), (9, .getfield 38, 3), (12, .iload_n 1, 1), (13, .if_icmp .ne 7, 3), (16, .iconst 1, 1), (17, .goto 4, 3), (20, .iconst 0, 1), (21, .ireturn, 1)]
theorem kX6_standsAt : iX6_standsAt.all (gdo cX6_standsAt) = true := by decide +kernel
def iX6_stand : List (Nat × Instr × Nat) := [(0, .aload_n 0, 1), (1, .iload_n 1, 1), (2, .putfield 38, 3), (5, .aload_n 0, 1), (6, .iconst (-1), 1), (7, .putfield 41, 3), (10, .aload_n 0, 1), (11, .iconst 0, 1), (12, .putfield 44, 3), (15, .aload_n 0, 1), (16, .iconst (-1), 1), (17, .putfield 47, 3), (20, .aload_n 0, 1), (21, .iconst 0, 1), (22, .putfield 50, 3), (25, .return_, 1)]
theorem kX6_stand : iX6_stand.all (gdo cX6_stand) = true := by decide +kernel
def iX6_setOut : List (Nat × Instr × Nat) := [(0, .aload_n 0, 1), (1, .iload_n 1, 1), (2, .aload_n 0, 1), (3, .getfield 38, 3), (6, .if_icmp .le 7, 3), (9, .iconst 1, 1), (10, .goto 4, 3), (13, .iconst 0, 1), (14, .putfield 22, 3), (17, .aload_n 0, 1), (18, .aload_n 0, 1), (19, .getfield 38, 3), (22, .iload_n 1, 1), (23, .invokestatic 53, 3), (26, .putfield 41, 3), (29, .aload_n 0, 1), (30, .iload_n 1, 1), (31, .putfield 38, 3), (34, .aload_n 0, 1), (35, .iload_n 2, 1), (36, .putfield 44, 3), (39, .return_, 1)]
theorem kX6_setOut : iX6_setOut.all (gdo cX6_setOut) = true := by decide +kernel
def iX6_rest : List (Nat × Instr × Nat) := [(0, .aload_n 0, 1), (1, .iconst 0, 1), (2, .aload_n 0, 1), (3, .getfield 15, 3), (6, .iload_n 1, 1), (7, .isub, 1), (8, .invokestatic 57, 3), (11, .putfield 15, 3), (14, .return_, 1)]
theorem kX6_rest : iX6_rest.all (gdo cX6_rest) = true := by decide +kernel
def iX6_tire : List (Nat × Instr × Nat) := [(0, .aload_n 0, 1), (1, .bipush 100, 2), (3, .aload_n 0, 1), (4, .getfield 15, 3), (7, .iload_n 1, 1), (8, .iadd, 1), (9, .invokestatic 62, 3), (12, .putfield 15, 3), (15, .aload_n 0, 1), (16, .dup, 1), (17, .getfield 26, 3), (20, .iconst 1, 1), (21, .iadd, 1), (22, .putfield 26, 3), (25, .aload_n 0, 1), (26, .dup, 1), (27, .getfield 29, 3), (30, .iload_n 1, 1), (31, .iadd, 1), (32, .putfield 29, 3), (35, .return_, 1)]
theorem kX6_tire : iX6_tire.all (gdo cX6_tire) = true := by decide +kernel
def iX6_about : List (Nat × Instr × Nat) := [(0, .iload_n 1, 1), (1, .tableswitch 99 0 8 #[51, 56, 61, 66, 71, 76, 84, 89, 94], 51), (52, .aload_n 0, 1), (53, .getfield 9, 3), (56, .ireturn, 1), (57, .aload_n 0, 1), (58, .getfield 15, 3), (61, .ireturn, 1), (62, .aload_n 0, 1), (63, .getfield 38, 3), (66, .ireturn, 1), (67, .aload_n 0, 1), (68, .getfield 44, 3), (71, .ireturn, 1), (72, .aload_n 0, 1), (73, .getfield 47, 3), (76, .ireturn, 1), (77, .aload_n 0, 1), (78, .getfield 50, 3), (81, .invokestatic 65, 3), (84, .ireturn, 1), (85, .aload_n 0, 1), (86, .getfield 26, 3), (89, .ireturn, 1), (90, .aload_n 0, 1), (91, .getfield 29, 3), (94, .ireturn, 1), (95, .aload_n 0, 1), (96, .getfield 32, 3), (99, .ireturn, 1), (100, .aload_n 0, 1), (101, .getfield 35, 3), (104, .ireturn, 1)]
theorem kX6_about : iX6_about.all (gdo cX6_about) = true := by decide +kernel
def iX7_init : List (Nat × Instr × Nat) := [(0, .aload_n 0, 1), (1, .invokespecial 3, 3), (4, .aload_n 0, 1), (5, .new 9, 3), (8, .dup, 1), (9, .invokespecial 11, 3), (12, .putfield 12, 3), (15, .aload_n 0, 1), (16, .new 9, 3), (19, .dup, 1), (20, .invokespecial 11, 3), (23, .putfield 16, 3), (26, .aload_n 0, 1), (27, .new 19, 3), (30, .dup, 1), (31, .invokespecial 21, 3), (34, .putfield 22, 3), (37, .aload_n 0, 1), (38, .new 26, 3), (41, .dup, 1), (42, .invokespecial 28, 3), (45, .putfield 29, 3), (48, .return_, 1)]
theorem kX7_init : iX7_init.all (gdo cX7_init) = true := by decide +kernel
def iX7_setStage : List (Nat × Instr × Nat) := [(0, .iload_n 1, 1), (1, .aload_n 0, 1), (2, .getfield 12, 3), (5, .getfield 33, 3), (8, .iconst 1, 1), (9, .isub, 1), (10, .invokestatic 37, 3), (13, .iload_n 2, 1), (14, .iconst 1, 1), (15, .bipush 9, 2), (17, .invokestatic 41, 3), (20, .iload_n 3, 1), (21, .bipush (-5), 2), (23, .iconst 5, 1), (24, .invokestatic 41, 3), (27, .aload_n 0, 1), (28, .getfield 22, 3), (31, .aload_n 0, 1), (32, .getfield 12, 3), (35, .invokevirtual 45, 3), (38, .aload_n 0, 1), (39, .getfield 12, 3), (42, .getfield 49, 3), (45, .iload_n 1, 1), (46, .aaload, 1), (47, .astore 5, 2), (49, .aload 5, 2), (51, .getfield 53, 3), (54, .istore 6, 2), (56, .aload 5, 2), (58, .iload_n 2, 1), (59, .iload_n 3, 1), (60, .iload 4, 2), (62, .invokevirtual 58, 3), (65, .iload 6, 2), (67, .ireturn, 1)]
theorem kX7_setStage : iX7_setStage.all (gdo cX7_setStage) = true := by decide +kernel
def iX7_setInn : List (Nat × Instr × Nat) := [(0, .iload_n 1, 1), (1, .aload_n 0, 1), (2, .getfield 12, 3), (5, .getfield 33, 3), (8, .invokestatic 37, 3), (11, .iload_n 2, 1), (12, .iconst 0, 1), (13, .bipush 6, 2), (15, .invokestatic 41, 3), (18, .iload_n 3, 1), (19, .iconst 0, 1), (20, .sipush 999, 3), (23, .invokestatic 41, 3), (26, .aload_n 0, 1), (27, .getfield 22, 3), (30, .aload_n 0, 1), (31, .getfield 12, 3), (34, .invokevirtual 45, 3), (37, .aload_n 0, 1), (38, .getfield 12, 3), (41, .getfield 62, 3), (44, .iload_n 1, 1), (45, .aaload, 1), (46, .astore 5, 2), (48, .aload 5, 2), (50, .getfield 66, 3), (53, .istore 6, 2), (55, .aload 5, 2), (57, .iload_n 2, 1), (58, .iload_n 3, 1), (59, .iload 4, 2), (61, .invokevirtual 71, 3), (64, .iload 6, 2), (66, .ireturn, 1)]
theorem kX7_setInn : iX7_setInn.all (gdo cX7_setInn) = true := by decide +kernel
def iX7_addTeam : List (Nat × Instr × Nat) := [(0, .iload_n 1, 1), (1, .aload_n 0, 1), (2, .getfield 12, 3), (5, .getfield 33, 3), (8, .invokestatic 37, 3), (11, .iload_n 2, 1), (12, .iconst 0, 1), (13, .bipush 100, 2), (15, .invokestatic 41, 3), (18, .aload_n 0, 1), (19, .getfield 12, 3), (22, .getfield 72, 3), (25, .bipush 10, 2), (27, .invokestatic 75, 3), (30, .aload_n 0, 1), (31, .getfield 22, 3), (34, .aload_n 0, 1), (35, .getfield 12, 3), (38, .invokevirtual 45, 3), (41, .aload_n 0, 1), (42, .getfield 12, 3), (45, .iload_n 1, 1), (46, .iload_n 2, 1), (47, .invokevirtual 78, 3), (50, .ireturn, 1)]
theorem kX7_addTeam : iX7_addTeam.all (gdo cX7_addTeam) = true := by decide +kernel
def iX7_give : List (Nat × Instr × Nat) := [(0, .iload_n 1, 1), (1, .aload_n 0, 1), (2, .getfield 12, 3), (5, .getfield 33, 3), (8, .invokestatic 37, 3), (11, .iload_n 2, 1), (12, .aload_n 0, 1), (13, .getfield 12, 3), (16, .getfield 33, 3), (19, .invokestatic 37, 3), (22, .iload_n 1, 1), (23, .iload_n 2, 1), (24, .if_icmp .ne 13, 3), (27, .new 82, 3), (30, .dup, 1), (31, .ldc 84, 2), (33, .invokespecial 86, 3), (36, .athrow, 1), (37, .aload_n 0, 1), (38, .getfield 12, 3), (41, .getfield 89, 3), (44, .bipush 12, 2), (46, .invokestatic 75, 3), (49, .aload_n 0, 1), (50, .getfield 22, 3), (53, .aload_n 0, 1), (54, .getfield 12, 3), (57, .invokevirtual 45, 3), (60, .aload_n 0, 1), (61, .getfield 12, 3), (64, .iload_n 1, 1), (65, .iload_n 2, 1), (66, .iload_n 3, 1), (67, .invokevirtual 92, 3), (70, .ireturn, 1)]
theorem kX7_give : iX7_give.all (gdo cX7_give) = true := by decide +kernel
def iX7_collect : List (Nat × Instr × Nat) := [(0, .aload_n 0, 1), (1, .getfield 22, 3), (4, .aload_n 0, 1), (5, .getfield 12, 3), (8, .invokevirtual 45, 3), (11, .aload_n 0, 1), (12, .getfield 12, 3), (15, .invokevirtual 96, 3), (18, .ireturn, 1)]
theorem kX7_collect : iX7_collect.all (gdo cX7_collect) = true := by decide +kernel
def iX7_pass : List (Nat × Instr × Nat) := [(0, .iload_n 1, 1), (1, .iconst 1, 1), (2, .sipush 200, 3), (5, .invokestatic 41, 3), (8, .aload_n 0, 1), (9, .getfield 12, 3), (12, .getfield 100, 3), (15, .iload_n 1, 1), (16, .iadd, 1), (17, .sipush 10000, 3), (20, .if_icmp .le 13, 3), (23, .new 103, 3), (26, .dup, 1), (27, .ldc 105, 2), (29, .invokespecial 107, 3), (32, .athrow, 1), (33, .aload_n 0, 1), (34, .getfield 22, 3), (37, .aload_n 0, 1), (38, .getfield 12, 3), (41, .invokevirtual 45, 3), (44, .aload_n 0, 1), (45, .getfield 12, 3), (48, .getfield 108, 3), (51, .istore_n 2, 1), (52, .iconst 0, 1), (53, .istore_n 3, 1), (54, .iload_n 3, 1), (55, .iload_n 1, 1), (56, .if_icmp .ge 16, 3), (59, .aload_n 0, 1), (60, .getfield 12, 3), (63, .invokevirtual 111, 3), (66, .iinc 3 1, 3), (69, .goto (-15), 3), (72, .aload_n 0, 1), (73, .getfield 12, 3), (76, .getfield 108, 3), (79, .iload_n 2, 1), (80, .isub, 1), (81, .ireturn, 1)]
theorem kX7_pass : iX7_pass.all (gdo cX7_pass) = true := by decide +kernel
def iX7_stage : List (Nat × Instr × Nat) := [(0, .iload_n 1, 1), (1, .aload_n 0, 1), (2, .getfield 12, 3), (5, .getfield 33, 3), (8, .iconst 1, 1), (9, .isub, 1), (10, .invokestatic 37, 3), (13, .iload_n 2, 1), (14, .iconst 0, 1), (15, .iconst 5, 1), (16, .invokestatic 41, 3), (19, .aload_n 0, 1), (20, .getfield 12, 3), (23, .iload_n 1, 1), (24, .iload_n 2, 1), (25, .invokevirtual 114, 3), (28, .ireturn, 1)]
theorem kX7_stage : iX7_stage.all (gdo cX7_stage) = true := by decide +kernel
def iX7_inn : List (Nat × Instr × Nat) := [(0, .iload_n 1, 1), (1, .aload_n 0, 1), (2, .getfield 12, 3), (5, .getfield 33, 3), (8, .invokestatic 37, 3), (11, .iload_n 2, 1), (12, .iconst 0, 1), (13, .bipush 6, 2), (15, .invokestatic 41, 3), (18, .aload_n 0, 1), (19, .getfield 12, 3), (22, .iload_n 1, 1), (23, .iload_n 2, 1), (24, .invokevirtual 117, 3), (27, .ireturn, 1)]
theorem kX7_inn : iX7_inn.all (gdo cX7_inn) = true := by decide +kernel
def iX7_team : List (Nat × Instr × Nat) := [(0, .iload_n 1, 1), (1, .aload_n 0, 1), (2, .getfield 12, 3), (5, .getfield 72, 3), (8, .invokestatic 37, 3), (11, .iload_n 2, 1), (12, .iconst 0, 1), (13, .bipush 9, 2), (15, .invokestatic 41, 3), (18, .aload_n 0, 1), (19, .getfield 12, 3), (22, .getfield 120, 3), (25, .iload_n 1, 1), (26, .aaload, 1), (27, .iload_n 2, 1), (28, .invokevirtual 124, 3), (31, .ireturn, 1)]
theorem kX7_team : iX7_team.all (gdo cX7_team) = true := by decide +kernel
def iX7_letter : List (Nat × Instr × Nat) := [(0, .iload_n 1, 1), (1, .aload_n 0, 1), (2, .getfield 12, 3), (5, .getfield 89, 3), (8, .invokestatic 37, 3), (11, .iload_n 2, 1), (12, .iconst 0, 1), (13, .bipush 7, 2), (15, .invokestatic 41, 3), (18, .aload_n 0, 1), (19, .getfield 12, 3), (22, .getfield 130, 3), (25, .iload_n 1, 1), (26, .aaload, 1), (27, .iload_n 2, 1), (28, .invokevirtual 134, 3), (31, .ireturn, 1)]
theorem kX7_letter : iX7_letter.all (gdo cX7_letter) = true := by decide +kernel
def iX7_value : List (Nat × Instr × Nat) := [(0, .iload_n 1, 1), (1, .iconst 0, 1), (2, .bipush 10, 2), (4, .invokestatic 41, 3), (7, .aload_n 0, 1), (8, .getfield 12, 3), (11, .iload_n 1, 1), (12, .invokevirtual 137, 3), (15, .ireturn, 1)]
theorem kX7_value : iX7_value.all (gdo cX7_value) = true := by decide +kernel
def iX7_why : List (Nat × Instr × Nat) := [(0, .iload_n 1, 1), (1, .aload_n 0, 1), (2, .getfield 12, 3), (5, .getfield 89, 3), (8, .invokestatic 37, 3), (11, .aload_n 0, 1), (12, .getfield 12, 3), (15, .iload_n 1, 1), (16, .invokevirtual 140, 3), (19, .ireturn, 1)]
theorem kX7_why : iX7_why.all (gdo cX7_why) = true := by decide +kernel
def iX7_hoursTo : List (Nat × Instr × Nat) := [(0, .iload_n 1, 1), (1, .aload_n 0, 1), (2, .getfield 12, 3), (5, .getfield 89, 3), (8, .invokestatic 37, 3), (11, .aload_n 0, 1), (12, .getfield 16, 3), (15, .aload_n 0, 1), (16, .getfield 12, 3), (19, .invokevirtual 143, 3), (22, .aload_n 0, 1), (23, .getfield 16, 3), (26, .iload_n 1, 1), (27, .invokevirtual 146, 3), (30, .ireturn, 1)]
theorem kX7_hoursTo : iX7_hoursTo.all (gdo cX7_hoursTo) = true := by decide +kernel
def iX7_hoursToAll : List (Nat × Instr × Nat) := [(0, .aload_n 0, 1), (1, .getfield 16, 3), (4, .aload_n 0, 1), (5, .getfield 12, 3), (8, .invokevirtual 143, 3), (11, .aload_n 0, 1), (12, .getfield 16, 3), (15, .iconst (-1), 1), (16, .invokevirtual 146, 3), (19, .ireturn, 1)]
theorem kX7_hoursToAll : iX7_hoursToAll.all (gdo cX7_hoursToAll) = true := by decide +kernel
def iX7_bestInn : List (Nat × Instr × Nat) := [(0, .aload_n 0, 1), (1, .getfield 12, 3), (4, .getfield 72, 3), (7, .bipush 10, 2), (9, .if_icmp .lt 5, 3), (12, .iconst (-1), 1), (13, .ireturn, 1), (14, .iconst (-1), 1), (15, .istore_n 1, 1), (16, .sipush 501, 3), (19, .istore_n 2, 1), (20, .iconst 0, 1), (21, .istore_n 3, 1), (22, .iload_n 3, 1), (23, .aload_n 0, 1), (24, .getfield 12, 3), (27, .getfield 33, 3), (30, .if_icmp .ge 57, 3), (33, .aload_n 0, 1), (34, .getfield 16, 3), (37, .aload_n 0, 1), (38, .getfield 12, 3), (41, .invokevirtual 143, 3), (44, .aload_n 0, 1), (45, .getfield 16, 3), (48, .iload_n 3, 1), (49, .iconst 0, 1), (50, .invokevirtual 78, 3), (53, .pop, 1), (54, .aload_n 0, 1), (55, .getfield 16, 3), (58, .iconst (-1), 1), (59, .invokevirtual 146, 3), (62, .istore 4, 2), (64, .iload 4, 2), (66, .iconst (-1), 1), (67, .if_icmp .eq 14, 3), (70, .iload 4, 2), (72, .iload_n 2, 1), (73, .if_icmp .ge 8, 3), (76, .iload_n 3, 1), (77, .istore_n 1, 1), (78, .iload 4, 2), (80, .istore_n 2, 1), (81, .iinc 3 1, 3), (84, .goto (-62), 3), (87, .iload_n 1, 1), (88, .ireturn, 1)]
theorem kX7_bestInn : iX7_bestInn.all (gdo cX7_bestInn) = true := by decide +kernel
def iX7_way : List (Nat × Instr × Nat) := [(0, .iload_n 1, 1), (1, .aload_n 0, 1), (2, .getfield 12, 3), (5, .getfield 33, 3), (8, .invokestatic 37, 3), (11, .iload_n 2, 1), (12, .aload_n 0, 1), (13, .getfield 12, 3), (16, .getfield 33, 3), (19, .invokestatic 37, 3), (22, .aload_n 0, 1), (23, .getfield 12, 3), (26, .iload_n 1, 1), (27, .iload_n 2, 1), (28, .invokestatic 149, 3), (31, .iload_n 1, 1), (32, .iload_n 2, 1), (33, .invokestatic 154, 3), (36, .invokevirtual 157, 3), (39, .ireturn, 1)]
theorem kX7_way : iX7_way.all (gdo cX7_way) = true := by decide +kernel
def iX7_effortHome : List (Nat × Instr × Nat) := [(0, .iload_n 1, 1), (1, .aload_n 0, 1), (2, .getfield 12, 3), (5, .getfield 72, 3), (8, .invokestatic 37, 3), (11, .aload_n 0, 1), (12, .getfield 12, 3), (15, .getfield 120, 3), (18, .iload_n 1, 1), (19, .aaload, 1), (20, .astore_n 2, 1), (21, .aload_n 0, 1), (22, .getfield 12, 3), (25, .aload_n 2, 1), (26, .getfield 160, 3), (29, .aload_n 2, 1), (30, .getfield 163, 3), (33, .invokevirtual 166, 3), (36, .ireturn, 1)]
theorem kX7_effortHome : iX7_effortHome.all (gdo cX7_effortHome) = true := by decide +kernel
def iX7_meanTiredness : List (Nat × Instr × Nat) := [(0, .aload_n 0, 1), (1, .getfield 12, 3), (4, .getfield 72, 3), (7, .ifCond .ne 5, 3), (10, .dconst 0, 1), (11, .dreturn, 1), (12, .iconst 0, 1), (13, .istore_n 1, 1), (14, .iconst 0, 1), (15, .istore_n 2, 1), (16, .iload_n 2, 1), (17, .aload_n 0, 1), (18, .getfield 12, 3), (21, .getfield 72, 3), (24, .if_icmp .ge 24, 3), (27, .iload_n 1, 1), (28, .aload_n 0, 1), (29, .getfield 12, 3), (32, .getfield 120, 3), (35, .iload_n 2, 1), (36, .aaload, 1), (37, .getfield 169, 3), (40, .iadd, 1), (41, .istore_n 1, 1), (42, .iinc 2 1, 3), (45, .goto (-29), 3), (48, .iload_n 1, 1), (49, .i2d, 1), (50, .aload_n 0, 1), (51, .getfield 12, 3), (54, .getfield 72, 3), (57, .i2d, 1), (58, .ddiv, 1), (59, .dreturn, 1)]
theorem kX7_meanTiredness : iX7_meanTiredness.all (gdo cX7_meanTiredness) = true := by decide +kernel
end
section
def iX7_append : List (Nat × Instr × Nat) := [(0, .iload_n 1, 1), (1, .iconst 0, 1), (2, .bipush 127, 2), (4, .invokestatic 41, 3), (7, .aload_n 0, 1), (8, .getfield 29, 3), (11, .getfield 172, 3), (14, .bipush 90, 2), (16, .invokestatic 75, 3), (19, .aload_n 0, 1), (20, .getfield 29, 3), (23, .iload_n 1, 1), (24, .i2b, 1), (25, .invokevirtual 175, 3), (28, .aload_n 0, 1), (29, .getfield 29, 3), (32, .getfield 172, 3), (35, .ireturn, 1)]
theorem kX7_append : iX7_append.all (gdo cX7_append) = true := by decide +kernel
def iX7_clearText : List (Nat × Instr × Nat) := [(0, .aload_n 0, 1), (1, .getfield 29, 3), (4, .getfield 172, 3), (7, .istore_n 1, 1), (8, .aload_n 0, 1), (9, .getfield 29, 3), (12, .iconst 0, 1), (13, .putfield 172, 3), (16, .iload_n 1, 1), (17, .ireturn, 1)]
theorem kX7_clearText : iX7_clearText.all (gdo cX7_clearText) = true := by decide +kernel
def iX7_parse : List (Nat × Instr × Nat) := [(0, .aload_n 0, 1), (1, .getfield 16, 3), (4, .invokevirtual 179, 3), (7, .aload_n 0, 1), (8, .getfield 29, 3), (11, .aload_n 0, 1), (12, .getfield 16, 3), (15, .invokevirtual 182, 3), (18, .istore_n 1, 1), (19, .iload_n 1, 1), (20, .iconst (-1), 1), (21, .if_icmp .eq 8, 3), (24, .bipush (-10), 2), (26, .iload_n 1, 1), (27, .isub, 1), (28, .ireturn, 1), (29, .aload_n 0, 1), (30, .getfield 22, 3), (33, .aload_n 0, 1), (34, .getfield 12, 3), (37, .invokevirtual 45, 3), (40, .aload_n 0, 1), (41, .getfield 12, 3), (44, .aload_n 0, 1), (45, .getfield 16, 3), (48, .invokevirtual 143, 3), (51, .aload_n 0, 1), (52, .getfield 12, 3), (55, .getfield 33, 3), (58, .ireturn, 1)]
theorem kX7_parse : iX7_parse.all (gdo cX7_parse) = true := by decide +kernel
def iX7_undo : List (Nat × Instr × Nat) := [(0, .aload_n 0, 1), (1, .getfield 22, 3), (4, .getfield 186, 3), (7, .ifCond .ne 13, 3), (10, .new 103, 3), (13, .dup, 1), (14, .ldc 189, 2), (16, .invokespecial 107, 3), (19, .athrow, 1), (20, .aload_n 0, 1), (21, .getfield 22, 3), (24, .aload_n 0, 1), (25, .getfield 12, 3), (28, .invokevirtual 191, 3), (31, .aload_n 0, 1), (32, .getfield 22, 3), (35, .getfield 186, 3), (38, .ireturn, 1)]
theorem kX7_undo : iX7_undo.all (gdo cX7_undo) = true := by decide +kernel
def iX7_digest : List (Nat × Instr × Nat) := [(0, .ldc2_w 194, 3), (3, .lstore_n 1, 1), (4, .ldc2_w 196, 3), (7, .lload_n 1, 1), (8, .lmul, 1), (9, .aload_n 0, 1), (10, .getfield 29, 3), (13, .getfield 172, 3), (16, .i2l, 1), (17, .ladd, 1), (18, .lstore_n 1, 1), (19, .iconst 0, 1), (20, .istore_n 3, 1), (21, .iload_n 3, 1), (22, .bipush 10, 2), (24, .if_icmp .gt 25, 3), (27, .ldc2_w 196, 3), (30, .lload_n 1, 1), (31, .lmul, 1), (32, .aload_n 0, 1), (33, .getfield 12, 3), (36, .iload_n 3, 1), (37, .invokevirtual 137, 3), (40, .i2l, 1), (41, .ladd, 1), (42, .lstore_n 1, 1), (43, .iinc 3 1, 3), (46, .goto (-25), 3), (49, .aload_n 0, 1), (50, .lload_n 1, 1), (51, .invokevirtual 198, 3), (54, .lstore_n 1, 1), (55, .aload_n 0, 1), (56, .lload_n 1, 1), (57, .invokevirtual 202, 3), (60, .lstore_n 1, 1), (61, .aload_n 0, 1), (62, .lload_n 1, 1), (63, .invokevirtual 205, 3), (66, .lstore_n 1, 1), (67, .aload_n 0, 1), (68, .getfield 16, 3), (71, .aload_n 0, 1), (72, .getfield 12, 3), (75, .invokevirtual 143, 3), (78, .ldc2_w 196, 3), (81, .lload_n 1, 1), (82, .lmul, 1), (83, .aload_n 0, 1), (84, .getfield 16, 3), (87, .iconst (-1), 1), (88, .invokevirtual 146, 3), (91, .i2l, 1), (92, .ladd, 1), (93, .lstore_n 1, 1), (94, .ldc2_w 196, 3), (97, .lload_n 1, 1), (98, .lmul, 1), (99, .aload_n 0, 1), (100, .getfield 22, 3)]
theorem kX7_digest : iX7_digest.all (gdo cX7_digest) = true := by decide +kernel
def iX7_digest_1 : List (Nat × Instr × Nat) := [(103, .getfield 186, 3), (106, .i2l, 1), (107, .ladd, 1), (108, .lreturn, 1)]
theorem kX7_digest_1 : iX7_digest_1.all (gdo cX7_digest) = true := by decide +kernel
def iX7_digestOfRoad : List (Nat × Instr × Nat) := [(0, .lload_n 1, 1), (1, .lstore_n 3, 1), (2, .iconst 0, 1), (3, .istore 5, 2), (5, .iload 5, 2), (7, .aload_n 0, 1), (8, .getfield 12, 3), (11, .getfield 33, 3), (14, .iconst 1, 1), (15, .isub, 1), (16, .if_icmp .ge 43, 3), (19, .iconst 0, 1), (20, .istore 6, 2), (22, .iload 6, 2), (24, .iconst 5, 1), (25, .if_icmp .gt 28, 3), (28, .ldc2_w 196, 3), (31, .lload_n 3, 1), (32, .lmul, 1), (33, .aload_n 0, 1), (34, .getfield 12, 3), (37, .iload 5, 2), (39, .iload 6, 2), (41, .invokevirtual 114, 3), (44, .i2l, 1), (45, .ladd, 1), (46, .lstore_n 3, 1), (47, .iinc 6 1, 3), (50, .goto (-28), 3), (53, .iinc 5 1, 3), (56, .goto (-51), 3), (59, .iconst 0, 1), (60, .istore 5, 2), (62, .iload 5, 2), (64, .aload_n 0, 1), (65, .getfield 12, 3), (68, .getfield 33, 3), (71, .if_icmp .ge 44, 3), (74, .iconst 0, 1), (75, .istore 6, 2), (77, .iload 6, 2), (79, .bipush 6, 2), (81, .if_icmp .gt 28, 3), (84, .ldc2_w 196, 3), (87, .lload_n 3, 1), (88, .lmul, 1), (89, .aload_n 0, 1), (90, .getfield 12, 3), (93, .iload 5, 2), (95, .iload 6, 2), (97, .invokevirtual 117, 3), (100, .i2l, 1), (101, .ladd, 1), (102, .lstore_n 3, 1), (103, .iinc 6 1, 3), (106, .goto (-29), 3), (109, .iinc 5 1, 3), (112, .goto (-50), 3), (115, .lload_n 3, 1), (116, .lreturn, 1)]
theorem kX7_digestOfRoad : iX7_digestOfRoad.all (gdo cX7_digestOfRoad) = true := by decide +kernel
def iX7_digestOfTeams : List (Nat × Instr × Nat) := [(0, .lload_n 1, 1), (1, .lstore_n 3, 1), (2, .iconst 0, 1), (3, .istore 5, 2), (5, .iload 5, 2), (7, .aload_n 0, 1), (8, .getfield 12, 3), (11, .getfield 72, 3), (14, .if_icmp .ge 48, 3), (17, .iconst 0, 1), (18, .istore 6, 2), (20, .iload 6, 2), (22, .bipush 9, 2), (24, .if_icmp .gt 32, 3), (27, .ldc2_w 196, 3), (30, .lload_n 3, 1), (31, .lmul, 1), (32, .aload_n 0, 1), (33, .getfield 12, 3), (36, .getfield 120, 3), (39, .iload 5, 2), (41, .aaload, 1), (42, .iload 6, 2), (44, .invokevirtual 124, 3), (47, .i2l, 1), (48, .ladd, 1), (49, .lstore_n 3, 1), (50, .iinc 6 1, 3), (53, .goto (-33), 3), (56, .iinc 5 1, 3), (59, .goto (-54), 3), (62, .lload_n 3, 1), (63, .lreturn, 1)]
theorem kX7_digestOfTeams : iX7_digestOfTeams.all (gdo cX7_digestOfTeams) = true := by decide +kernel
def iX7_digestOfLetters : List (Nat × Instr × Nat) := [(0, .lload_n 1, 1), (1, .lstore_n 3, 1), (2, .iconst 0, 1), (3, .istore 5, 2), (5, .iload 5, 2), (7, .aload_n 0, 1), (8, .getfield 12, 3), (11, .getfield 89, 3), (14, .if_icmp .ge 65, 3), (17, .iconst 0, 1), (18, .istore 6, 2), (20, .iload 6, 2), (22, .bipush 7, 2), (24, .if_icmp .gt 32, 3), (27, .ldc2_w 196, 3), (30, .lload_n 3, 1), (31, .lmul, 1), (32, .aload_n 0, 1), (33, .getfield 12, 3), (36, .getfield 130, 3), (39, .iload 5, 2), (41, .aaload, 1), (42, .iload 6, 2), (44, .invokevirtual 134, 3), (47, .i2l, 1), (48, .ladd, 1), (49, .lstore_n 3, 1), (50, .iinc 6 1, 3), (53, .goto (-33), 3), (56, .ldc2_w 196, 3), (59, .lload_n 3, 1), (60, .lmul, 1), (61, .aload_n 0, 1), (62, .getfield 12, 3), (65, .iload 5, 2), (67, .invokevirtual 140, 3), (70, .i2l, 1), (71, .ladd, 1), (72, .lstore_n 3, 1), (73, .iinc 5 1, 3), (76, .goto (-71), 3), (79, .lload_n 3, 1), (80, .lreturn, 1)]
theorem kX7_digestOfLetters : iX7_digestOfLetters.all (gdo cX7_digestOfLetters) = true := by decide +kernel
def iX7_checkNumber : List (Nat × Instr × Nat) := [(0, .iload_n 0, 1), (1, .ifCond .lt 8, 3), (4, .iload_n 0, 1), (5, .iload_n 1, 1), (6, .if_icmp .lt 13, 3), (9, .new 208, 3), (12, .dup, 1), (13, .ldc 210, 2), (15, .invokespecial 212, 3), (18, .athrow, 1), (19, .return_, 1)]
theorem kX7_checkNumber : iX7_checkNumber.all (gdo cX7_checkNumber) = true := by decide +kernel
def iX7_checkRange : List (Nat × Instr × Nat) := [(0, .iload_n 0, 1), (1, .iload_n 1, 1), (2, .if_icmp .lt 8, 3), (5, .iload_n 0, 1), (6, .iload_n 2, 1), (7, .if_icmp .le 13, 3), (10, .new 82, 3), (13, .dup, 1), (14, .ldc 213, 2), (16, .invokespecial 86, 3), (19, .athrow, 1), (20, .return_, 1)]
theorem kX7_checkRange : iX7_checkRange.all (gdo cX7_checkRange) = true := by decide +kernel
def iX7_checkRoom : List (Nat × Instr × Nat) := [(0, .iload_n 0, 1), (1, .iload_n 1, 1), (2, .if_icmp .lt 13, 3), (5, .new 103, 3), (8, .dup, 1), (9, .ldc 215, 2), (11, .invokespecial 107, 3), (14, .athrow, 1), (15, .return_, 1)]
theorem kX7_checkRoom : iX7_checkRoom.all (gdo cX7_checkRoom) = true := by decide +kernel
def iX7_oneIf : List (Nat × Instr × Nat) := [(0, .iload_n 0, 1), (1, .ifCond .eq 7, 3), (4, .iconst 1, 1), (5, .goto 4, 3), (8, .iconst 0, 1), (9, .ireturn, 1)]
theorem kX7_oneIf : iX7_oneIf.all (gdo cX7_oneIf) = true := by decide +kernel
def iX7_nextInn : List (Nat × Instr × Nat) := [(0, .iload_n 1, 1), (1, .iload_n 0, 1), (2, .if_icmp .le 9, 3), (5, .iload_n 0, 1), (6, .iconst 1, 1), (7, .iadd, 1), (8, .goto 6, 3), (11, .iload_n 0, 1), (12, .iconst 1, 1), (13, .isub, 1), (14, .ireturn, 1)]
theorem kX7_nextInn : iX7_nextInn.all (gdo cX7_nextInn) = true := by decide +kernel
def iX7_stageBetween : List (Nat × Instr × Nat) := [(0, .iload_n 0, 1), (1, .iload_n 1, 1), (2, .if_icmp .ge 7, 3), (5, .iload_n 0, 1), (6, .goto 4, 3), (9, .iload_n 1, 1), (10, .ireturn, 1)]
theorem kX7_stageBetween : iX7_stageBetween.all (gdo cX7_stageBetween) = true := by decide +kernel
def iX8_init : List (Nat × Instr × Nat) := [(0, .aload_n 0, 1), (1, .invokespecial 1, 3), (4, .aload_n 0, 1), (5, .sipush 260, 3), (8, .newarray .int, 2), (10, .putfield 7, 3), (13, .aload_n 0, 1), (14, .sipush 1040, 3), (17, .newarray .int, 2), (19, .putfield 13, 3), (22, .aload_n 0, 1), (23, .sipush 260, 3), (26, .newarray .int, 2), (28, .putfield 16, 3), (31, .aload_n 0, 1), (32, .bipush 12, 2), (34, .newarray .boolean, 2), (36, .putfield 19, 3), (39, .aload_n 0, 1), (40, .bipush 90, 2), (42, .newarray .int, 2), (44, .putfield 23, 3), (47, .aload_n 0, 1), (48, .bipush 14, 2), (50, .newarray .int, 2), (52, .putfield 26, 3), (55, .aload_n 0, 1), (56, .iconst 2, 1), (57, .invokevirtual 29, 3), (60, .aload_n 0, 1), (61, .getfield 7, 3), (64, .bipush 9, 2), (66, .iconst 2, 1), (67, .iastore, 1), (68, .return_, 1)]
theorem kX8_init : iX8_init.all (gdo cX8_init) = true := by decide +kernel
def iX8_thrown : List (Nat × Instr × Nat) := [(0, .aload_n 0, 1), (1, .getfield 33, 3), (4, .ireturn, 1)]
theorem kX8_thrown : iX8_thrown.all (gdo cX8_thrown) = true := by decide +kernel
def iX8_in : List (Nat × Instr × Nat) := [(0, .lload_n 0, 1), (1, .lload_n 2, 1), (2, .lcmp, 1), (3, .ifCond .lt 14, 3), (6, .lload_n 0, 1), (7, .lload 4, 2), (9, .lcmp, 1), (10, .ifCond .gt 7, 3), (13, .iconst 1, 1), (14, .goto 4, 3), (17, .iconst 0, 1), (18, .ireturn, 1)]
theorem kX8_in : iX8_in.all (gdo cX8_in) = true := by decide +kernel
def iX8_fine : List (Nat × Instr × Nat) := [(0, .aload_n 0, 1), (1, .iconst 0, 1), (2, .putfield 33, 3), (5, .iload_n 1, 1), (6, .ireturn, 1)]
theorem kX8_fine : iX8_fine.all (gdo cX8_fine) = true := by decide +kernel
def iX8_throwing : List (Nat × Instr × Nat) := [(0, .aload_n 0, 1), (1, .iload_n 1, 1), (2, .putfield 33, 3), (5, .iconst 0, 1), (6, .ireturn, 1)]
theorem kX8_throwing : iX8_throwing.all (gdo cX8_throwing) = true := by decide +kernel
def iX8_begins : List (Nat × Instr × Nat) := [(0, .iconst 0, 1), (1, .istore_n 2, 1), (2, .iload_n 2, 1), (3, .sipush 260, 3), (6, .if_icmp .ge 16, 3), (9, .aload_n 0, 1), (10, .getfield 7, 3), (13, .iload_n 2, 1), (14, .iconst 0, 1), (15, .iastore, 1), (16, .iinc 2 1, 3), (19, .goto (-17), 3), (22, .aload_n 0, 1), (23, .getfield 7, 3), (26, .iconst 0, 1), (27, .iload_n 1, 1), (28, .iastore, 1), (29, .iconst 0, 1), (30, .istore_n 2, 1), (31, .iload_n 2, 1), (32, .iload_n 1, 1), (33, .if_icmp .ge 36, 3), (36, .aload_n 0, 1), (37, .getfield 7, 3), (40, .bipush 30, 2), (42, .iconst 3, 1), (43, .iload_n 2, 1), (44, .imul, 1), (45, .iadd, 1), (46, .iconst 2, 1), (47, .iastore, 1), (48, .aload_n 0, 1), (49, .getfield 7, 3), (52, .bipush 30, 2), (54, .iconst 3, 1), (55, .iload_n 2, 1), (56, .imul, 1), (57, .iadd, 1), (58, .iconst 1, 1), (59, .iadd, 1), (60, .bipush 100, 2), (62, .iastore, 1), (63, .iinc 2 1, 3), (66, .goto (-35), 3), (69, .return_, 1)]
theorem kX8_begins : iX8_begins.all (gdo cX8_begins) = true := by decide +kernel
def iX8_save : List (Nat × Instr × Nat) := [(0, .aload_n 0, 1), (1, .getfield 37, 3), (4, .iconst 4, 1), (5, .if_icmp .ne 44, 3), (8, .iconst 0, 1), (9, .istore_n 1, 1), (10, .iload_n 1, 1), (11, .sipush 780, 3), (14, .if_icmp .ge 25, 3), (17, .aload_n 0, 1), (18, .getfield 13, 3), (21, .iload_n 1, 1), (22, .aload_n 0, 1), (23, .getfield 13, 3), (26, .iload_n 1, 1), (27, .sipush 260, 3), (30, .iadd, 1), (31, .iaload, 1), (32, .iastore, 1), (33, .iinc 1 1, 3), (36, .goto (-26), 3), (39, .aload_n 0, 1), (40, .dup, 1), (41, .getfield 37, 3), (44, .iconst 1, 1), (45, .isub, 1), (46, .putfield 37, 3), (49, .iconst 0, 1), (50, .istore_n 1, 1), (51, .iload_n 1, 1), (52, .sipush 260, 3), (55, .if_icmp .ge 30, 3), (58, .aload_n 0, 1), (59, .getfield 13, 3), (62, .sipush 260, 3), (65, .aload_n 0, 1), (66, .getfield 37, 3), (69, .imul, 1), (70, .iload_n 1, 1), (71, .iadd, 1), (72, .aload_n 0, 1), (73, .getfield 7, 3), (76, .iload_n 1, 1), (77, .iaload, 1), (78, .iastore, 1), (79, .iinc 1 1, 3), (82, .goto (-31), 3), (85, .aload_n 0, 1), (86, .dup, 1), (87, .getfield 37, 3), (90, .iconst 1, 1), (91, .iadd, 1), (92, .putfield 37, 3), (95, .return_, 1)]
theorem kX8_save : iX8_save.all (gdo cX8_save) = true := by decide +kernel
def iX8_laysAside : List (Nat × Instr × Nat) := [(0, .iconst 0, 1), (1, .istore_n 1, 1), (2, .iload_n 1, 1), (3, .sipush 260, 3), (6, .if_icmp .ge 21, 3), (9, .aload_n 0, 1), (10, .getfield 16, 3), (13, .iload_n 1, 1), (14, .aload_n 0, 1), (15, .getfield 7, 3), (18, .iload_n 1, 1), (19, .iaload, 1), (20, .iastore, 1), (21, .iinc 1 1, 3), (24, .goto (-22), 3), (27, .return_, 1)]
theorem kX8_laysAside : iX8_laysAside.all (gdo cX8_laysAside) = true := by decide +kernel
def iX8_takesBack : List (Nat × Instr × Nat) := [(0, .iconst 0, 1), (1, .istore_n 1, 1), (2, .iload_n 1, 1), (3, .sipush 260, 3), (6, .if_icmp .ge 21, 3), (9, .aload_n 0, 1), (10, .getfield 7, 3), (13, .iload_n 1, 1), (14, .aload_n 0, 1), (15, .getfield 16, 3), (18, .iload_n 1, 1), (19, .iaload, 1), (20, .iastore, 1), (21, .iinc 1 1, 3), (24, .goto (-22), 3), (27, .return_, 1)]
theorem kX8_takesBack : iX8_takesBack.all (gdo cX8_takesBack) = true := by decide +kernel
def iX8_isInn : List (Nat × Instr × Nat) := [(0, .iload_n 1, 1), (1, .i2l, 1), (2, .lconst 0, 1), (3, .aload_n 0, 1), (4, .getfield 7, 3), (7, .iconst 0, 1), (8, .iaload, 1), (9, .i2l, 1), (10, .lconst 1, 1), (11, .lsub, 1), (12, .invokestatic 40, 3), (15, .ireturn, 1)]
theorem kX8_isInn : iX8_isInn.all (gdo cX8_isInn) = true := by decide +kernel
def iX8_isStage : List (Nat × Instr × Nat) := [(0, .iload_n 1, 1), (1, .i2l, 1), (2, .lconst 0, 1), (3, .aload_n 0, 1), (4, .getfield 7, 3), (7, .iconst 0, 1), (8, .iaload, 1), (9, .i2l, 1), (10, .ldc2_w 44, 3), (13, .lsub, 1), (14, .invokestatic 40, 3), (17, .ireturn, 1)]
theorem kX8_isStage : iX8_isStage.all (gdo cX8_isStage) = true := by decide +kernel
def iX8_isTeam : List (Nat × Instr × Nat) := [(0, .iload_n 1, 1), (1, .i2l, 1), (2, .lconst 0, 1), (3, .aload_n 0, 1), (4, .getfield 7, 3), (7, .bipush 7, 2), (9, .iaload, 1), (10, .i2l, 1), (11, .lconst 1, 1), (12, .lsub, 1), (13, .invokestatic 40, 3), (16, .ireturn, 1)]
theorem kX8_isTeam : iX8_isTeam.all (gdo cX8_isTeam) = true := by decide +kernel
def iX8_isLetter : List (Nat × Instr × Nat) := [(0, .iload_n 1, 1), (1, .i2l, 1), (2, .lconst 0, 1), (3, .aload_n 0, 1), (4, .getfield 7, 3), (7, .bipush 8, 2), (9, .iaload, 1), (10, .i2l, 1), (11, .lconst 1, 1), (12, .lsub, 1), (13, .invokestatic 40, 3), (16, .ireturn, 1)]
theorem kX8_isLetter : iX8_isLetter.all (gdo cX8_isLetter) = true := by decide +kernel
def iX8_teamAt : List (Nat × Instr × Nat) := [(0, .bipush 54, 2), (2, .bipush 11, 2), (4, .iload_n 0, 1), (5, .imul, 1), (6, .iadd, 1), (7, .iload_n 1, 1), (8, .iadd, 1), (9, .ireturn, 1)]
theorem kX8_teamAt : iX8_teamAt.all (gdo cX8_teamAt) = true := by decide +kernel
def iX8_of : List (Nat × Instr × Nat) := [(0, .aload_n 0, 1), (1, .getfield 7, 3), (4, .iload_n 1, 1), (5, .iload_n 2, 1), (6, .invokestatic 46, 3), (9, .iaload, 1), (10, .ireturn, 1)]
theorem kX8_of : iX8_of.all (gdo cX8_of) = true := by decide +kernel
def iX8_letterAt : List (Nat × Instr × Nat) := [(0, .sipush 164, 3), (3, .bipush 8, 2), (5, .iload_n 0, 1), (6, .imul, 1), (7, .iadd, 1), (8, .iload_n 1, 1), (9, .iadd, 1), (10, .ireturn, 1)]
theorem kX8_letterAt : iX8_letterAt.all (gdo cX8_letterAt) = true := by decide +kernel
def iX8_ofLetter : List (Nat × Instr × Nat) := [(0, .aload_n 0, 1), (1, .getfield 7, 3), (4, .iload_n 1, 1), (5, .iload_n 2, 1), (6, .invokestatic 50, 3), (9, .iaload, 1), (10, .ireturn, 1)]
theorem kX8_ofLetter : iX8_ofLetter.all (gdo cX8_ofLetter) = true := by decide +kernel
def iX8_between : List (Nat × Instr × Nat) := [(0, .iload_n 0, 1), (1, .iload_n 1, 1), (2, .if_icmp .ge 7, 3), (5, .iload_n 0, 1), (6, .goto 4, 3), (9, .iload_n 1, 1), (10, .ireturn, 1)]
theorem kX8_between : iX8_between.all (gdo cX8_between) = true := by decide +kernel
def iX8_hoursOf : List (Nat × Instr × Nat) := [(0, .aload_n 0, 1), (1, .getfield 7, 3), (4, .bipush 9, 2), (6, .iconst 3, 1), (7, .iload_n 1, 1), (8, .imul, 1), (9, .iadd, 1), (10, .iaload, 1), (11, .ireturn, 1)]
theorem kX8_hoursOf : iX8_hoursOf.all (gdo cX8_hoursOf) = true := by decide +kernel
def iX8_isBlocked : List (Nat × Instr × Nat) := [(0, .aload_n 0, 1), (1, .getfield 7, 3), (4, .bipush 9, 2), (6, .iconst 3, 1), (7, .iload_n 1, 1), (8, .imul, 1), (9, .iadd, 1), (10, .iconst 2, 1), (11, .iadd, 1), (12, .iaload, 1), (13, .iconst 1, 1), (14, .if_icmp .ne 7, 3), (17, .iconst 1, 1), (18, .goto 4, 3), (21, .iconst 0, 1), (22, .ireturn, 1)]
theorem kX8_isBlocked : iX8_isBlocked.all (gdo cX8_isBlocked) = true := by decide +kernel
def iX8_isShut : List (Nat × Instr × Nat) := [(0, .aload_n 0, 1), (1, .getfield 7, 3), (4, .bipush 30, 2), (6, .iconst 3, 1), (7, .iload_n 1, 1), (8, .imul, 1), (9, .iadd, 1), (10, .iconst 2, 1), (11, .iadd, 1), (12, .iaload, 1), (13, .iconst 1, 1), (14, .if_icmp .ne 7, 3), (17, .iconst 1, 1), (18, .goto 4, 3), (21, .iconst 0, 1), (22, .ireturn, 1)]
theorem kX8_isShut : iX8_isShut.all (gdo cX8_isShut) = true := by decide +kernel
def iX8_effort : List (Nat × Instr × Nat) := [(0, .iload_n 1, 1), (1, .iload_n 2, 1), (2, .invokestatic 53, 3), (5, .istore_n 3, 1), (6, .iconst 4, 1), (7, .aload_n 0, 1), (8, .getfield 7, 3), (11, .bipush 9, 2), (13, .iconst 3, 1), (14, .iload_n 3, 1), (15, .imul, 1), (16, .iadd, 1), (17, .iconst 1, 1), (18, .iadd, 1), (19, .iaload, 1), (20, .imul, 1), (21, .istore 4, 2), (23, .iconst 5, 1), (24, .aload_n 0, 1), (25, .iload_n 3, 1), (26, .invokevirtual 56, 3), (29, .imul, 1), (30, .iload_n 1, 1), (31, .iload_n 2, 1), (32, .if_icmp .ge 8, 3), (35, .iload 4, 2), (37, .goto 6, 3), (40, .iload 4, 2), (42, .ineg, 1), (43, .iadd, 1), (44, .istore 5, 2), (46, .iload 5, 2), (48, .iconst 5, 1), (49, .if_icmp .ge 7, 3), (52, .iconst 5, 1), (53, .goto 5, 3), (56, .iload 5, 2), (58, .ireturn, 1)]
theorem kX8_effort : iX8_effort.all (gdo cX8_effort) = true := by decide +kernel
def iX8_setStage : List (Nat × Instr × Nat) := [(0, .aload_n 0, 1), (1, .iload_n 1, 1), (2, .invokevirtual 60, 3), (5, .ifCond .ne 9, 3), (8, .aload_n 0, 1), (9, .iconst 1, 1), (10, .invokevirtual 64, 3), (13, .ireturn, 1), (14, .iload_n 2, 1), (15, .i2l, 1), (16, .lconst 1, 1), (17, .ldc2_w 67, 3), (20, .invokestatic 40, 3), (23, .ifCond .eq 17, 3), (26, .iload_n 3, 1), (27, .i2l, 1), (28, .ldc2_w 69, 3), (31, .ldc2_w 71, 3), (34, .invokestatic 40, 3), (37, .ifCond .ne 9, 3), (40, .aload_n 0, 1), (41, .iconst 2, 1), (42, .invokevirtual 64, 3), (45, .ireturn, 1), (46, .aload_n 0, 1), (47, .invokevirtual 73, 3), (50, .aload_n 0, 1), (51, .iload_n 1, 1), (52, .invokevirtual 56, 3), (55, .istore 5, 2), (57, .aload_n 0, 1), (58, .getfield 7, 3), (61, .bipush 9, 2), (63, .iconst 3, 1), (64, .iload_n 1, 1), (65, .imul, 1), (66, .iadd, 1), (67, .iload_n 2, 1), (68, .iastore, 1), (69, .aload_n 0, 1), (70, .getfield 7, 3), (73, .bipush 9, 2), (75, .iconst 3, 1), (76, .iload_n 1, 1), (77, .imul, 1), (78, .iadd, 1), (79, .iconst 1, 1), (80, .iadd, 1), (81, .iload_n 3, 1), (82, .iastore, 1), (83, .aload_n 0, 1), (84, .getfield 7, 3), (87, .bipush 9, 2), (89, .iconst 3, 1), (90, .iload_n 1, 1), (91, .imul, 1), (92, .iadd, 1), (93, .iconst 2, 1), (94, .iadd, 1), (95, .iload 4, 2)]
theorem kX8_setStage : iX8_setStage.all (gdo cX8_setStage) = true := by decide +kernel
def iX8_setStage_1 : List (Nat × Instr × Nat) := [(97, .ifCond .eq 7, 3), (100, .iconst 1, 1), (101, .goto 4, 3), (104, .iconst 0, 1), (105, .iastore, 1), (106, .aload_n 0, 1), (107, .iload 5, 2), (109, .invokevirtual 76, 3), (112, .ireturn, 1)]
theorem kX8_setStage_1 : iX8_setStage_1.all (gdo cX8_setStage) = true := by decide +kernel
def iX8_setInn : List (Nat × Instr × Nat) := [(0, .aload_n 0, 1), (1, .iload_n 1, 1), (2, .invokevirtual 79, 3), (5, .ifCond .ne 9, 3), (8, .aload_n 0, 1), (9, .iconst 1, 1), (10, .invokevirtual 64, 3), (13, .ireturn, 1), (14, .iload_n 2, 1), (15, .i2l, 1), (16, .lconst 0, 1), (17, .ldc2_w 82, 3), (20, .invokestatic 40, 3), (23, .ifCond .eq 15, 3), (26, .iload_n 3, 1), (27, .i2l, 1), (28, .lconst 0, 1), (29, .ldc2_w 84, 3), (32, .invokestatic 40, 3), (35, .ifCond .ne 9, 3), (38, .aload_n 0, 1), (39, .iconst 2, 1), (40, .invokevirtual 64, 3), (43, .ireturn, 1), (44, .aload_n 0, 1), (45, .invokevirtual 73, 3), (48, .aload_n 0, 1), (49, .getfield 7, 3), (52, .bipush 30, 2), (54, .iconst 3, 1), (55, .iload_n 1, 1), (56, .imul, 1), (57, .iadd, 1), (58, .iconst 1, 1), (59, .iadd, 1), (60, .iaload, 1), (61, .istore 5, 2), (63, .aload_n 0, 1), (64, .getfield 7, 3), (67, .bipush 30, 2), (69, .iconst 3, 1), (70, .iload_n 1, 1), (71, .imul, 1), (72, .iadd, 1), (73, .iload_n 2, 1), (74, .iastore, 1), (75, .aload_n 0, 1), (76, .getfield 7, 3), (79, .bipush 30, 2), (81, .iconst 3, 1), (82, .iload_n 1, 1), (83, .imul, 1), (84, .iadd, 1), (85, .iconst 1, 1), (86, .iadd, 1), (87, .iload_n 3, 1), (88, .iastore, 1), (89, .aload_n 0, 1), (90, .getfield 7, 3), (93, .bipush 30, 2)]
theorem kX8_setInn : iX8_setInn.all (gdo cX8_setInn) = true := by decide +kernel
def iX8_setInn_1 : List (Nat × Instr × Nat) := [(95, .iconst 3, 1), (96, .iload_n 1, 1), (97, .imul, 1), (98, .iadd, 1), (99, .iconst 2, 1), (100, .iadd, 1), (101, .iload 4, 2), (103, .ifCond .eq 7, 3), (106, .iconst 1, 1), (107, .goto 4, 3), (110, .iconst 0, 1), (111, .iastore, 1), (112, .aload_n 0, 1), (113, .iload 5, 2), (115, .invokevirtual 76, 3), (118, .ireturn, 1)]
theorem kX8_setInn_1 : iX8_setInn_1.all (gdo cX8_setInn) = true := by decide +kernel
def iX8_adds : List (Nat × Instr × Nat) := [(0, .aload_n 0, 1), (1, .getfield 7, 3), (4, .bipush 7, 2), (6, .iaload, 1), (7, .istore_n 3, 1), (8, .iconst 0, 1), (9, .istore 4, 2), (11, .iload 4, 2), (13, .bipush 11, 2), (15, .if_icmp .ge 21, 3), (18, .aload_n 0, 1), (19, .getfield 7, 3), (22, .iload_n 3, 1), (23, .iload 4, 2), (25, .invokestatic 46, 3), (28, .iconst 0, 1), (29, .iastore, 1), (30, .iinc 4 1, 3), (33, .goto (-22), 3), (36, .aload_n 0, 1), (37, .getfield 7, 3), (40, .iload_n 3, 1), (41, .iconst 0, 1), (42, .invokestatic 46, 3), (45, .iload_n 1, 1), (46, .iastore, 1), (47, .aload_n 0, 1), (48, .getfield 7, 3), (51, .iload_n 3, 1), (52, .iconst 1, 1), (53, .invokestatic 46, 3), (56, .iload_n 2, 1), (57, .iastore, 1), (58, .aload_n 0, 1), (59, .getfield 7, 3), (62, .iload_n 3, 1), (63, .iconst 2, 1), (64, .invokestatic 46, 3), (67, .iload_n 1, 1), (68, .iastore, 1), (69, .aload_n 0, 1), (70, .getfield 7, 3), (73, .iload_n 3, 1), (74, .iconst 4, 1), (75, .invokestatic 46, 3), (78, .iconst (-1), 1), (79, .iastore, 1), (80, .aload_n 0, 1), (81, .getfield 7, 3), (84, .bipush 7, 2), (86, .dup2, 1), (87, .iaload, 1), (88, .iconst 1, 1), (89, .iadd, 1), (90, .iastore, 1), (91, .return_, 1)]
theorem kX8_adds : iX8_adds.all (gdo cX8_adds) = true := by decide +kernel
def iX8_addTeam : List (Nat × Instr × Nat) := [(0, .aload_n 0, 1), (1, .iload_n 1, 1), (2, .invokevirtual 79, 3), (5, .ifCond .ne 9, 3), (8, .aload_n 0, 1), (9, .iconst 1, 1), (10, .invokevirtual 64, 3), (13, .ireturn, 1), (14, .iload_n 2, 1), (15, .i2l, 1), (16, .lconst 0, 1), (17, .ldc2_w 86, 3), (20, .invokestatic 40, 3), (23, .ifCond .ne 9, 3), (26, .aload_n 0, 1), (27, .iconst 2, 1), (28, .invokevirtual 64, 3), (31, .ireturn, 1), (32, .aload_n 0, 1), (33, .getfield 7, 3), (36, .bipush 7, 2), (38, .iaload, 1), (39, .bipush 10, 2), (41, .if_icmp .ne 9, 3), (44, .aload_n 0, 1), (45, .iconst 3, 1), (46, .invokevirtual 64, 3), (49, .ireturn, 1), (50, .aload_n 0, 1), (51, .invokevirtual 73, 3), (54, .aload_n 0, 1), (55, .iload_n 1, 1), (56, .iload_n 2, 1), (57, .invokevirtual 88, 3), (60, .aload_n 0, 1), (61, .aload_n 0, 1), (62, .getfield 7, 3), (65, .bipush 7, 2), (67, .iaload, 1), (68, .iconst 1, 1), (69, .isub, 1), (70, .invokevirtual 76, 3), (73, .ireturn, 1)]
theorem kX8_addTeam : iX8_addTeam.all (gdo cX8_addTeam) = true := by decide +kernel
def iX8_give : List (Nat × Instr × Nat) := [(0, .aload_n 0, 1), (1, .iload_n 1, 1), (2, .invokevirtual 79, 3), (5, .ifCond .eq 11, 3), (8, .aload_n 0, 1), (9, .iload_n 2, 1), (10, .invokevirtual 79, 3), (13, .ifCond .ne 9, 3), (16, .aload_n 0, 1), (17, .iconst 1, 1), (18, .invokevirtual 64, 3), (21, .ireturn, 1), (22, .iload_n 1, 1), (23, .iload_n 2, 1), (24, .if_icmp .ne 9, 3), (27, .aload_n 0, 1), (28, .iconst 2, 1), (29, .invokevirtual 64, 3), (32, .ireturn, 1), (33, .aload_n 0, 1), (34, .getfield 7, 3), (37, .bipush 8, 2), (39, .iaload, 1), (40, .bipush 12, 2), (42, .if_icmp .ne 9, 3), (45, .aload_n 0, 1), (46, .iconst 3, 1), (47, .invokevirtual 64, 3), (50, .ireturn, 1), (51, .aload_n 0, 1), (52, .invokevirtual 73, 3), (55, .aload_n 0, 1), (56, .getfield 7, 3), (59, .bipush 8, 2), (61, .iaload, 1), (62, .istore 4, 2), (64, .aload_n 0, 1), (65, .getfield 7, 3), (68, .iload 4, 2), (70, .iconst 0, 1), (71, .invokestatic 50, 3), (74, .iload_n 1, 1), (75, .iastore, 1), (76, .aload_n 0, 1), (77, .getfield 7, 3), (80, .iload 4, 2), (82, .iconst 1, 1), (83, .invokestatic 50, 3), (86, .iload_n 2, 1), (87, .iastore, 1), (88, .aload_n 0, 1), (89, .getfield 7, 3), (92, .iload 4, 2), (94, .iconst 2, 1), (95, .invokestatic 50, 3), (98, .iload_n 3, 1), (99, .ifCond .eq 7, 3), (102, .iconst 1, 1), (103, .goto 4, 3), (106, .iconst 0, 1)]
theorem kX8_give : iX8_give.all (gdo cX8_give) = true := by decide +kernel
def iX8_give_1 : List (Nat × Instr × Nat) := [(107, .iastore, 1), (108, .aload_n 0, 1), (109, .getfield 7, 3), (112, .iload 4, 2), (114, .iconst 3, 1), (115, .invokestatic 50, 3), (118, .aload_n 0, 1), (119, .getfield 7, 3), (122, .iconst 1, 1), (123, .iaload, 1), (124, .iastore, 1), (125, .aload_n 0, 1), (126, .getfield 7, 3), (129, .iload 4, 2), (131, .iconst 4, 1), (132, .invokestatic 50, 3), (135, .iload_n 1, 1), (136, .iastore, 1), (137, .aload_n 0, 1), (138, .getfield 7, 3), (141, .iload 4, 2), (143, .iconst 5, 1), (144, .invokestatic 50, 3), (147, .iconst (-1), 1), (148, .iastore, 1), (149, .aload_n 0, 1), (150, .getfield 7, 3), (153, .iload 4, 2), (155, .bipush 6, 2), (157, .invokestatic 50, 3), (160, .iconst (-1), 1), (161, .iastore, 1), (162, .aload_n 0, 1), (163, .getfield 7, 3), (166, .iload 4, 2), (168, .bipush 7, 2), (170, .invokestatic 50, 3), (173, .iconst 0, 1), (174, .iastore, 1), (175, .aload_n 0, 1), (176, .getfield 7, 3), (179, .bipush 8, 2), (181, .dup2, 1), (182, .iaload, 1), (183, .iconst 1, 1), (184, .iadd, 1), (185, .iastore, 1), (186, .aload_n 0, 1), (187, .iload 4, 2), (189, .invokevirtual 76, 3), (192, .ireturn, 1)]
theorem kX8_give_1 : iX8_give_1.all (gdo cX8_give) = true := by decide +kernel
def iX8_isDelivered : List (Nat × Instr × Nat) := [(0, .aload_n 0, 1), (1, .iload_n 1, 1), (2, .bipush 6, 2), (4, .invokevirtual 92, 3), (7, .iconst (-1), 1), (8, .if_icmp .eq 7, 3), (11, .iconst 1, 1), (12, .goto 4, 3), (15, .iconst 0, 1), (16, .ireturn, 1)]
theorem kX8_isDelivered : iX8_isDelivered.all (gdo cX8_isDelivered) = true := by decide +kernel
def iX8_lies : List (Nat × Instr × Nat) := [(0, .aload_n 0, 1), (1, .iload_n 1, 1), (2, .invokevirtual 95, 3), (5, .ifCond .ne 17, 3), (8, .aload_n 0, 1), (9, .iload_n 1, 1), (10, .iconst 5, 1), (11, .invokevirtual 92, 3), (14, .iconst (-1), 1), (15, .if_icmp .ne 7, 3), (18, .iconst 1, 1), (19, .goto 4, 3), (22, .iconst 0, 1), (23, .ireturn, 1)]
theorem kX8_lies : iX8_lies.all (gdo cX8_lies) = true := by decide +kernel
def iX8_collect : List (Nat × Instr × Nat) := [(0, .aload_n 0, 1), (1, .invokevirtual 73, 3), (4, .iconst 0, 1), (5, .istore_n 1, 1), (6, .aload_n 0, 1), (7, .getfield 7, 3), (10, .bipush 8, 2), (12, .iaload, 1), (13, .istore_n 2, 1), (14, .iconst 0, 1), (15, .istore_n 3, 1), (16, .iload_n 3, 1), (17, .iload_n 2, 1), (18, .if_icmp .ge 80, 3), (21, .aload_n 0, 1), (22, .iload_n 3, 1), (23, .invokevirtual 95, 3), (26, .ifCond .ne 66, 3), (29, .aload_n 0, 1), (30, .iload_n 3, 1), (31, .iconst 5, 1), (32, .invokevirtual 92, 3), (35, .istore 4, 2), (37, .iconst 0, 1), (38, .istore 5, 2), (40, .iload 5, 2), (42, .bipush 8, 2), (44, .if_icmp .ge 27, 3), (47, .aload_n 0, 1), (48, .getfield 7, 3), (51, .iload_n 1, 1), (52, .iload 5, 2), (54, .invokestatic 50, 3), (57, .aload_n 0, 1), (58, .iload_n 3, 1), (59, .iload 5, 2), (61, .invokevirtual 92, 3), (64, .iastore, 1), (65, .iinc 5 1, 3), (68, .goto (-28), 3), (71, .iload 4, 2), (73, .iconst (-1), 1), (74, .if_icmp .eq 15, 3), (77, .aload_n 0, 1), (78, .getfield 7, 3), (81, .iload 4, 2), (83, .iconst 4, 1), (84, .invokestatic 46, 3), (87, .iload_n 1, 1), (88, .iastore, 1), (89, .iinc 1 1, 3), (92, .iinc 3 1, 3), (95, .goto (-79), 3), (98, .iload_n 1, 1), (99, .istore_n 3, 1), (100, .iload_n 3, 1), (101, .iload_n 2, 1), (102, .if_icmp .ge 37, 3), (105, .iconst 0, 1), (106, .istore 4, 2)]
theorem kX8_collect : iX8_collect.all (gdo cX8_collect) = true := by decide +kernel
def iX8_collect_1 : List (Nat × Instr × Nat) := [(108, .iload 4, 2), (110, .bipush 8, 2), (112, .if_icmp .ge 21, 3), (115, .aload_n 0, 1), (116, .getfield 7, 3), (119, .iload_n 3, 1), (120, .iload 4, 2), (122, .invokestatic 50, 3), (125, .iconst 0, 1), (126, .iastore, 1), (127, .iinc 4 1, 3), (130, .goto (-22), 3), (133, .iinc 3 1, 3), (136, .goto (-36), 3), (139, .aload_n 0, 1), (140, .getfield 7, 3), (143, .bipush 8, 2), (145, .iload_n 1, 1), (146, .iastore, 1), (147, .aload_n 0, 1), (148, .iload_n 2, 1), (149, .iload_n 1, 1), (150, .isub, 1), (151, .invokevirtual 76, 3), (154, .ireturn, 1)]
theorem kX8_collect_1 : iX8_collect_1.all (gdo cX8_collect) = true := by decide +kernel
def iX8_teamsOf : List (Nat × Instr × Nat) := [(0, .iconst 0, 1), (1, .istore_n 3, 1), (2, .iconst 0, 1), (3, .istore 4, 2), (5, .iload 4, 2), (7, .aload_n 0, 1), (8, .getfield 7, 3), (11, .bipush 7, 2), (13, .iaload, 1), (14, .if_icmp .ge 73, 3), (17, .aload_n 0, 1), (18, .iload 4, 2), (20, .iconst 2, 1), (21, .invokevirtual 98, 3), (24, .iload_n 1, 1), (25, .if_icmp .ne 40, 3), (28, .iload_n 2, 1), (29, .iconst 2, 1), (30, .if_icmp .eq 31, 3), (33, .aload_n 0, 1), (34, .iload 4, 2), (36, .iconst 3, 1), (37, .invokevirtual 98, 3), (40, .ifCond .le 7, 3), (43, .iconst 1, 1), (44, .goto 4, 3), (47, .iconst 0, 1), (48, .iload_n 2, 1), (49, .iconst 1, 1), (50, .if_icmp .ne 7, 3), (53, .iconst 1, 1), (54, .goto 4, 3), (57, .iconst 0, 1), (58, .if_icmp .ne 7, 3), (61, .iconst 1, 1), (62, .goto 4, 3), (65, .iconst 0, 1), (66, .istore 5, 2), (68, .iload_n 3, 1), (69, .iload 5, 2), (71, .ifCond .eq 7, 3), (74, .iconst 1, 1), (75, .goto 4, 3), (78, .iconst 0, 1), (79, .iadd, 1), (80, .istore_n 3, 1), (81, .iinc 4 1, 3), (84, .goto (-79), 3), (87, .iload_n 3, 1), (88, .ireturn, 1)]
theorem kX8_teamsOf : iX8_teamsOf.all (gdo cX8_teamsOf) = true := by decide +kernel
def iX8_freeBeds : List (Nat × Instr × Nat) := [(0, .aload_n 0, 1), (1, .getfield 7, 3), (4, .bipush 30, 2), (6, .iconst 3, 1), (7, .iload_n 1, 1), (8, .imul, 1), (9, .iadd, 1), (10, .iaload, 1), (11, .aload_n 0, 1), (12, .iload_n 1, 1), (13, .iconst 2, 1), (14, .invokevirtual 101, 3), (17, .isub, 1), (18, .istore_n 2, 1), (19, .iload_n 2, 1), (20, .ifCond .ge 7, 3), (23, .iconst 0, 1), (24, .goto 4, 3), (27, .iload_n 2, 1), (28, .ireturn, 1)]
theorem kX8_freeBeds : iX8_freeBeds.all (gdo cX8_freeBeds) = true := by decide +kernel
def iX8_lettersAt : List (Nat × Instr × Nat) := [(0, .iconst 0, 1), (1, .istore_n 2, 1), (2, .iconst 0, 1), (3, .istore_n 3, 1), (4, .iload_n 3, 1), (5, .aload_n 0, 1), (6, .getfield 7, 3), (9, .bipush 8, 2), (11, .iaload, 1), (12, .if_icmp .ge 35, 3), (15, .iload_n 2, 1), (16, .aload_n 0, 1), (17, .iload_n 3, 1), (18, .invokevirtual 104, 3), (21, .ifCond .eq 17, 3), (24, .aload_n 0, 1), (25, .iload_n 3, 1), (26, .iconst 4, 1), (27, .invokevirtual 92, 3), (30, .iload_n 1, 1), (31, .if_icmp .ne 7, 3), (34, .iconst 1, 1), (35, .goto 4, 3), (38, .iconst 0, 1), (39, .iadd, 1), (40, .istore_n 2, 1), (41, .iinc 3 1, 3), (44, .goto (-40), 3), (47, .iload_n 2, 1), (48, .ireturn, 1)]
theorem kX8_lettersAt : iX8_lettersAt.all (gdo cX8_lettersAt) = true := by decide +kernel
def iX8_rests : List (Nat × Instr × Nat) := [(0, .iconst 0, 1), (1, .istore_n 1, 1), (2, .iload_n 1, 1), (3, .aload_n 0, 1), (4, .getfield 7, 3), (7, .bipush 7, 2), (9, .iaload, 1), (10, .if_icmp .ge 156, 3), (13, .aload_n 0, 1), (14, .iload_n 1, 1), (15, .iconst 3, 1), (16, .invokevirtual 98, 3), (19, .ifCond .ne 141, 3), (22, .bipush 30, 2), (24, .iconst 3, 1), (25, .aload_n 0, 1), (26, .iload_n 1, 1), (27, .iconst 2, 1), (28, .invokevirtual 98, 3), (31, .imul, 1), (32, .iadd, 1), (33, .iconst 1, 1), (34, .iadd, 1), (35, .istore_n 2, 1), (36, .aload_n 0, 1), (37, .iload_n 1, 1), (38, .iconst 1, 1), (39, .invokevirtual 98, 3), (42, .ifCond .le 16, 3), (45, .aload_n 0, 1), (46, .getfield 7, 3), (49, .iload_n 2, 1), (50, .iaload, 1), (51, .ifCond .le 7, 3), (54, .iconst 1, 1), (55, .goto 4, 3), (58, .iconst 0, 1), (59, .istore_n 3, 1), (60, .aload_n 0, 1), (61, .iload_n 1, 1), (62, .iconst 1, 1), (63, .invokevirtual 98, 3), (66, .iload_n 3, 1), (67, .ifCond .eq 8, 3), (70, .bipush 6, 2), (72, .goto 4, 3), (75, .iconst 1, 1), (76, .isub, 1), (77, .istore 4, 2), (79, .aload_n 0, 1), (80, .getfield 7, 3), (83, .iload_n 2, 1), (84, .dup2, 1), (85, .iaload, 1), (86, .iload_n 3, 1), (87, .ifCond .eq 7, 3), (90, .iconst 1, 1), (91, .goto 4, 3), (94, .iconst 0, 1), (95, .isub, 1)]
theorem kX8_rests : iX8_rests.all (gdo cX8_rests) = true := by decide +kernel
def iX8_rests_1 : List (Nat × Instr × Nat) := [(96, .iastore, 1), (97, .aload_n 0, 1), (98, .getfield 7, 3), (101, .bipush 6, 2), (103, .dup2, 1), (104, .iaload, 1), (105, .iload_n 3, 1), (106, .ifCond .eq 7, 3), (109, .iconst 1, 1), (110, .goto 4, 3), (113, .iconst 0, 1), (114, .iadd, 1), (115, .iastore, 1), (116, .aload_n 0, 1), (117, .getfield 7, 3), (120, .iload_n 1, 1), (121, .bipush 9, 2), (123, .invokestatic 46, 3), (126, .dup2, 1), (127, .iaload, 1), (128, .iload_n 3, 1), (129, .ifCond .eq 7, 3), (132, .iconst 1, 1), (133, .goto 4, 3), (136, .iconst 0, 1), (137, .iadd, 1), (138, .iastore, 1), (139, .aload_n 0, 1), (140, .getfield 7, 3), (143, .iload_n 1, 1), (144, .iconst 1, 1), (145, .invokestatic 46, 3), (148, .iload 4, 2), (150, .ifCond .ge 7, 3), (153, .iconst 0, 1), (154, .goto 5, 3), (157, .iload 4, 2), (159, .iastore, 1), (160, .iinc 1 1, 3), (163, .goto (-161), 3), (166, .return_, 1)]
theorem kX8_rests_1 : iX8_rests_1.all (gdo cX8_rests) = true := by decide +kernel
def iX8_comes : List (Nat × Instr × Nat) := [(0, .aload_n 0, 1), (1, .getfield 7, 3), (4, .iload_n 1, 1), (5, .iconst 5, 1), (6, .invokestatic 50, 3), (9, .iconst (-1), 1), (10, .iastore, 1), (11, .iload_n 2, 1), (12, .aload_n 0, 1), (13, .iload_n 1, 1), (14, .iconst 1, 1), (15, .invokevirtual 92, 3), (18, .if_icmp .ne 97, 3), (21, .aload_n 0, 1), (22, .getfield 7, 3), (25, .iconst 1, 1), (26, .iaload, 1), (27, .iconst 1, 1), (28, .iadd, 1), (29, .aload_n 0, 1), (30, .iload_n 1, 1), (31, .iconst 3, 1), (32, .invokevirtual 92, 3), (35, .isub, 1), (36, .istore_n 3, 1), (37, .aload_n 0, 1), (38, .getfield 7, 3), (41, .iload_n 1, 1), (42, .bipush 6, 2), (44, .invokestatic 50, 3), (47, .aload_n 0, 1), (48, .getfield 7, 3), (51, .iconst 1, 1), (52, .iaload, 1), (53, .iconst 1, 1), (54, .iadd, 1), (55, .iastore, 1), (56, .aload_n 0, 1), (57, .getfield 7, 3), (60, .iconst 2, 1), (61, .dup2, 1), (62, .iaload, 1), (63, .iconst 1, 1), (64, .iadd, 1), (65, .iastore, 1), (66, .aload_n 0, 1), (67, .getfield 7, 3), (70, .iconst 3, 1), (71, .dup2, 1), (72, .iaload, 1), (73, .iload_n 3, 1), (74, .iadd, 1), (75, .iastore, 1), (76, .aload_n 0, 1), (77, .getfield 7, 3), (80, .iconst 4, 1), (81, .dup2, 1), (82, .iaload, 1), (83, .aload_n 0, 1), (84, .iload_n 1, 1)]
theorem kX8_comes : iX8_comes.all (gdo cX8_comes) = true := by decide +kernel
def iX8_comes_1 : List (Nat × Instr × Nat) := [(85, .iconst 2, 1), (86, .invokevirtual 92, 3), (89, .iadd, 1), (90, .iastore, 1), (91, .aload_n 0, 1), (92, .getfield 7, 3), (95, .iconst 5, 1), (96, .dup2, 1), (97, .iaload, 1), (98, .aload_n 0, 1), (99, .iload_n 1, 1), (100, .iconst 2, 1), (101, .invokevirtual 92, 3), (104, .iconst 1, 1), (105, .if_icmp .ne 7, 3), (108, .iload_n 3, 1), (109, .goto 4, 3), (112, .iconst 0, 1), (113, .iadd, 1), (114, .iastore, 1), (115, .return_, 1)]
theorem kX8_comes_1 : iX8_comes_1.all (gdo cX8_comes) = true := by decide +kernel
def iX8_arrives : List (Nat × Instr × Nat) := [(0, .aload_n 0, 1), (1, .iload_n 1, 1), (2, .iconst 2, 1), (3, .invokevirtual 98, 3), (6, .istore_n 2, 1), (7, .aload_n 0, 1), (8, .iload_n 1, 1), (9, .iconst 5, 1), (10, .invokevirtual 98, 3), (13, .iconst 1, 1), (14, .if_icmp .ne 30, 3), (17, .aload_n 0, 1), (18, .getfield 7, 3), (21, .iload_n 1, 1), (22, .bipush 8, 2), (24, .invokestatic 46, 3), (27, .dup2, 1), (28, .iaload, 1), (29, .iconst 1, 1), (30, .iadd, 1), (31, .iastore, 1), (32, .aload_n 0, 1), (33, .getfield 7, 3), (36, .iload_n 1, 1), (37, .iconst 5, 1), (38, .invokestatic 46, 3), (41, .iconst 0, 1), (42, .iastore, 1), (43, .return_, 1), (44, .aload_n 0, 1), (45, .aload_n 0, 1), (46, .iload_n 1, 1), (47, .bipush 10, 2), (49, .invokevirtual 98, 3), (52, .iload_n 2, 1), (53, .invokevirtual 107, 3), (56, .istore_n 3, 1), (57, .aload_n 0, 1), (58, .iload_n 1, 1), (59, .iconst 1, 1), (60, .invokevirtual 98, 3), (63, .iload_n 3, 1), (64, .iadd, 1), (65, .istore 4, 2), (67, .aload_n 0, 1), (68, .getfield 7, 3), (71, .iload_n 1, 1), (72, .iconst 1, 1), (73, .invokestatic 46, 3), (76, .iload 4, 2), (78, .bipush 100, 2), (80, .if_icmp .le 8, 3), (83, .bipush 100, 2), (85, .goto 5, 3), (88, .iload 4, 2), (90, .iastore, 1), (91, .aload_n 0, 1), (92, .getfield 7, 3), (95, .iload_n 1, 1), (96, .bipush 6, 2)]
theorem kX8_arrives : iX8_arrives.all (gdo cX8_arrives) = true := by decide +kernel
def iX8_arrives_1 : List (Nat × Instr × Nat) := [(98, .invokestatic 46, 3), (101, .dup2, 1), (102, .iaload, 1), (103, .iconst 1, 1), (104, .iadd, 1), (105, .iastore, 1), (106, .aload_n 0, 1), (107, .getfield 7, 3), (110, .iload_n 1, 1), (111, .bipush 7, 2), (113, .invokestatic 46, 3), (116, .dup2, 1), (117, .iaload, 1), (118, .iload_n 3, 1), (119, .iadd, 1), (120, .iastore, 1), (121, .aload_n 0, 1), (122, .aload_n 0, 1), (123, .iload_n 1, 1), (124, .iconst 4, 1), (125, .invokevirtual 98, 3), (128, .iload_n 2, 1), (129, .invokevirtual 110, 3), (132, .aload_n 0, 1), (133, .getfield 7, 3), (136, .iload_n 1, 1), (137, .iconst 4, 1), (138, .invokestatic 46, 3), (141, .iconst (-1), 1), (142, .iastore, 1), (143, .return_, 1)]
theorem kX8_arrives_1 : iX8_arrives_1.all (gdo cX8_arrives) = true := by decide +kernel
def iX8_roads : List (Nat × Instr × Nat) := [(0, .iconst 0, 1), (1, .istore_n 1, 1), (2, .iload_n 1, 1), (3, .aload_n 0, 1), (4, .getfield 7, 3), (7, .bipush 7, 2), (9, .iaload, 1), (10, .if_icmp .ge 46, 3), (13, .aload_n 0, 1), (14, .iload_n 1, 1), (15, .iconst 3, 1), (16, .invokevirtual 98, 3), (19, .ifCond .le 31, 3), (22, .aload_n 0, 1), (23, .getfield 7, 3), (26, .iload_n 1, 1), (27, .iconst 3, 1), (28, .invokestatic 46, 3), (31, .dup2, 1), (32, .iaload, 1), (33, .iconst 1, 1), (34, .isub, 1), (35, .iastore, 1), (36, .aload_n 0, 1), (37, .iload_n 1, 1), (38, .iconst 3, 1), (39, .invokevirtual 98, 3), (42, .ifCond .ne 8, 3), (45, .aload_n 0, 1), (46, .iload_n 1, 1), (47, .invokevirtual 113, 3), (50, .iinc 1 1, 3), (53, .goto (-51), 3), (56, .return_, 1)]
theorem kX8_roads : iX8_roads.all (gdo cX8_roads) = true := by decide +kernel
def iX8_toward : List (Nat × Instr × Nat) := [(0, .iload_n 0, 1), (1, .iload_n 1, 1), (2, .if_icmp .ge 9, 3), (5, .iload_n 0, 1), (6, .iconst 1, 1), (7, .iadd, 1), (8, .goto 6, 3), (11, .iload_n 0, 1), (12, .iconst 1, 1), (13, .isub, 1), (14, .ireturn, 1)]
theorem kX8_toward : iX8_toward.all (gdo cX8_toward) = true := by decide +kernel
def iX8_teamFor : List (Nat × Instr × Nat) := [(0, .aload_n 0, 1), (1, .iload_n 1, 1), (2, .iconst 4, 1), (3, .invokevirtual 92, 3), (6, .istore_n 2, 1), (7, .aload_n 0, 1), (8, .iload_n 2, 1), (9, .iload_n 2, 1), (10, .aload_n 0, 1), (11, .iload_n 1, 1), (12, .iconst 1, 1), (13, .invokevirtual 92, 3), (16, .invokestatic 116, 3), (19, .invokevirtual 107, 3), (22, .istore_n 3, 1), (23, .iconst (-1), 1), (24, .istore 4, 2), (26, .iconst 0, 1), (27, .istore 5, 2), (29, .iload 5, 2), (31, .aload_n 0, 1), (32, .getfield 7, 3), (35, .bipush 7, 2), (37, .iaload, 1), (38, .if_icmp .ge 88, 3), (41, .aload_n 0, 1), (42, .iload 5, 2), (44, .iconst 2, 1), (45, .invokevirtual 98, 3), (48, .iload_n 2, 1), (49, .if_icmp .ne 31, 3), (52, .aload_n 0, 1), (53, .iload 5, 2), (55, .iconst 3, 1), (56, .invokevirtual 98, 3), (59, .ifCond .ne 21, 3), (62, .aload_n 0, 1), (63, .iload 5, 2), (65, .iconst 1, 1), (66, .invokevirtual 98, 3), (69, .iload_n 3, 1), (70, .iadd, 1), (71, .bipush 100, 2), (73, .if_icmp .gt 7, 3), (76, .iconst 1, 1), (77, .goto 4, 3), (80, .iconst 0, 1), (81, .istore 6, 2), (83, .iload 6, 2), (85, .ifCond .eq 31, 3), (88, .iload 4, 2), (90, .iconst (-1), 1), (91, .if_icmp .eq 20, 3), (94, .aload_n 0, 1), (95, .iload 5, 2), (97, .iconst 1, 1), (98, .invokevirtual 98, 3), (101, .aload_n 0, 1), (102, .iload 4, 2), (104, .iconst 1, 1)]
theorem kX8_teamFor : iX8_teamFor.all (gdo cX8_teamFor) = true := by decide +kernel
def iX8_teamFor_1 : List (Nat × Instr × Nat) := [(105, .invokevirtual 98, 3), (108, .if_icmp .ge 8, 3), (111, .iload 5, 2), (113, .goto 5, 3), (116, .iload 4, 2), (118, .istore 4, 2), (120, .iinc 5 1, 3), (123, .goto (-94), 3), (126, .iload 4, 2), (128, .ireturn, 1)]
theorem kX8_teamFor_1 : iX8_teamFor_1.all (gdo cX8_teamFor) = true := by decide +kernel
def iX8_whyNot : List (Nat × Instr × Nat) := [(0, .aload_n 0, 1), (1, .iload_n 1, 1), (2, .invokevirtual 95, 3), (5, .ifCond .eq 5, 3), (8, .iconst 1, 1), (9, .ireturn, 1), (10, .aload_n 0, 1), (11, .iload_n 1, 1), (12, .iconst 5, 1), (13, .invokevirtual 92, 3), (16, .iconst (-1), 1), (17, .if_icmp .eq 5, 3), (20, .iconst 2, 1), (21, .ireturn, 1), (22, .aload_n 0, 1), (23, .iload_n 1, 1), (24, .iconst 4, 1), (25, .invokevirtual 92, 3), (28, .istore_n 2, 1), (29, .iload_n 2, 1), (30, .aload_n 0, 1), (31, .iload_n 1, 1), (32, .iconst 1, 1), (33, .invokevirtual 92, 3), (36, .invokestatic 116, 3), (39, .istore_n 3, 1), (40, .aload_n 0, 1), (41, .iload_n 2, 1), (42, .iload_n 3, 1), (43, .invokestatic 53, 3), (46, .invokevirtual 119, 3), (49, .ifCond .eq 5, 3), (52, .iconst 3, 1), (53, .ireturn, 1), (54, .aload_n 0, 1), (55, .iload_n 2, 1), (56, .invokevirtual 122, 3), (59, .ifCond .ne 11, 3), (62, .aload_n 0, 1), (63, .iload_n 3, 1), (64, .invokevirtual 122, 3), (67, .ifCond .eq 5, 3), (70, .iconst 4, 1), (71, .ireturn, 1), (72, .aload_n 0, 1), (73, .iload_n 3, 1), (74, .invokevirtual 125, 3), (77, .ifCond .ne 5, 3), (80, .iconst 5, 1), (81, .ireturn, 1), (82, .aload_n 0, 1), (83, .iload_n 1, 1), (84, .invokevirtual 128, 3), (87, .iconst (-1), 1), (88, .if_icmp .eq 7, 3), (91, .iconst 0, 1), (92, .goto 19, 3), (95, .aload_n 0, 1), (96, .iload_n 2, 1), (97, .iconst 0, 1)]
theorem kX8_whyNot : iX8_whyNot.all (gdo cX8_whyNot) = true := by decide +kernel
def iX8_whyNot_1 : List (Nat × Instr × Nat) := [(98, .invokevirtual 101, 3), (101, .ifCond .ne 8, 3), (104, .bipush 6, 2), (106, .goto 5, 3), (109, .bipush 7, 2), (111, .ireturn, 1)]
theorem kX8_whyNot_1 : iX8_whyNot_1.all (gdo cX8_whyNot) = true := by decide +kernel
def iX8_leaves : List (Nat × Instr × Nat) := [(0, .aload_n 0, 1), (1, .getfield 7, 3), (4, .iload_n 1, 1), (5, .bipush 10, 2), (7, .invokestatic 46, 3), (10, .aload_n 0, 1), (11, .iload_n 1, 1), (12, .iconst 2, 1), (13, .invokevirtual 98, 3), (16, .iastore, 1), (17, .aload_n 0, 1), (18, .getfield 7, 3), (21, .iload_n 1, 1), (22, .iconst 2, 1), (23, .invokestatic 46, 3), (26, .iload_n 2, 1), (27, .iastore, 1), (28, .aload_n 0, 1), (29, .getfield 7, 3), (32, .iload_n 1, 1), (33, .iconst 3, 1), (34, .invokestatic 46, 3), (37, .iload_n 3, 1), (38, .iastore, 1), (39, .return_, 1)]
theorem kX8_leaves : iX8_leaves.all (gdo cX8_leaves) = true := by decide +kernel
def iX8_goesOn : List (Nat × Instr × Nat) := [(0, .aload_n 0, 1), (1, .iload_n 1, 1), (2, .invokevirtual 131, 3), (5, .ifCond .ne 94, 3), (8, .aload_n 0, 1), (9, .iload_n 1, 1), (10, .iconst 4, 1), (11, .invokevirtual 92, 3), (14, .istore_n 2, 1), (15, .iload_n 2, 1), (16, .aload_n 0, 1), (17, .iload_n 1, 1), (18, .iconst 1, 1), (19, .invokevirtual 92, 3), (22, .invokestatic 116, 3), (25, .istore_n 3, 1), (26, .aload_n 0, 1), (27, .iload_n 1, 1), (28, .invokevirtual 128, 3), (31, .istore 4, 2), (33, .aload_n 0, 1), (34, .iload 4, 2), (36, .iload_n 3, 1), (37, .aload_n 0, 1), (38, .iload_n 2, 1), (39, .iload_n 3, 1), (40, .invokestatic 53, 3), (43, .invokevirtual 56, 3), (46, .invokevirtual 134, 3), (49, .aload_n 0, 1), (50, .getfield 7, 3), (53, .iload 4, 2), (55, .iconst 4, 1), (56, .invokestatic 46, 3), (59, .iload_n 1, 1), (60, .iastore, 1), (61, .aload_n 0, 1), (62, .getfield 7, 3), (65, .iload_n 1, 1), (66, .iconst 4, 1), (67, .invokestatic 50, 3), (70, .iload_n 3, 1), (71, .iastore, 1), (72, .aload_n 0, 1), (73, .getfield 7, 3), (76, .iload_n 1, 1), (77, .iconst 5, 1), (78, .invokestatic 50, 3), (81, .iload 4, 2), (83, .iastore, 1), (84, .aload_n 0, 1), (85, .getfield 7, 3), (88, .iload_n 1, 1), (89, .bipush 7, 2), (91, .invokestatic 50, 3), (94, .dup2, 1), (95, .iaload, 1), (96, .iconst 1, 1), (97, .iadd, 1), (98, .iastore, 1)]
theorem kX8_goesOn : iX8_goesOn.all (gdo cX8_goesOn) = true := by decide +kernel
def iX8_goesOn_1 : List (Nat × Instr × Nat) := [(99, .return_, 1)]
theorem kX8_goesOn_1 : iX8_goesOn_1.all (gdo cX8_goesOn) = true := by decide +kernel
def iX8_isAhead : List (Nat × Instr × Nat) := [(0, .aload_n 0, 1), (1, .iload_n 2, 1), (2, .iconst 2, 1), (3, .invokevirtual 92, 3), (6, .aload_n 0, 1), (7, .iload_n 1, 1), (8, .iconst 2, 1), (9, .invokevirtual 92, 3), (12, .isub, 1), (13, .istore_n 3, 1), (14, .iload_n 3, 1), (15, .ifCond .ne 19, 3), (18, .aload_n 0, 1), (19, .iload_n 1, 1), (20, .iconst 3, 1), (21, .invokevirtual 92, 3), (24, .aload_n 0, 1), (25, .iload_n 2, 1), (26, .iconst 3, 1), (27, .invokevirtual 92, 3), (30, .isub, 1), (31, .goto 4, 3), (34, .iload_n 3, 1), (35, .istore_n 3, 1), (36, .iload_n 3, 1), (37, .ifCond .lt 12, 3), (40, .iload_n 3, 1), (41, .ifCond .ne 12, 3), (44, .iload_n 1, 1), (45, .iload_n 2, 1), (46, .if_icmp .ge 7, 3), (49, .iconst 1, 1), (50, .goto 4, 3), (53, .iconst 0, 1), (54, .ireturn, 1)]
theorem kX8_isAhead : iX8_isAhead.all (gdo cX8_isAhead) = true := by decide +kernel
def iX8_goOn : List (Nat × Instr × Nat) := [(0, .iconst 0, 1), (1, .istore_n 1, 1), (2, .iload_n 1, 1), (3, .bipush 12, 2), (5, .if_icmp .ge 39, 3), (8, .aload_n 0, 1), (9, .getfield 19, 3), (12, .iload_n 1, 1), (13, .iload_n 1, 1), (14, .aload_n 0, 1), (15, .getfield 7, 3), (18, .bipush 8, 2), (20, .iaload, 1), (21, .if_icmp .ge 11, 3), (24, .aload_n 0, 1), (25, .iload_n 1, 1), (26, .invokevirtual 104, 3), (29, .ifCond .ne 7, 3), (32, .iconst 1, 1), (33, .goto 4, 3), (36, .iconst 0, 1), (37, .bastore, 1), (38, .iinc 1 1, 3), (41, .goto (-39), 3), (44, .iconst 0, 1), (45, .istore_n 1, 1), (46, .iload_n 1, 1), (47, .iconst (-1), 1), (48, .if_icmp .eq 73, 3), (51, .iconst (-1), 1), (52, .istore_n 1, 1), (53, .iconst 0, 1), (54, .istore_n 2, 1), (55, .iload_n 2, 1), (56, .aload_n 0, 1), (57, .getfield 7, 3), (60, .bipush 8, 2), (62, .iaload, 1), (63, .if_icmp .ge 38, 3), (66, .aload_n 0, 1), (67, .getfield 19, 3), (70, .iload_n 2, 1), (71, .baload, 1), (72, .ifCond .ne 21, 3), (75, .iload_n 1, 1), (76, .iconst (-1), 1), (77, .if_icmp .eq 12, 3), (80, .aload_n 0, 1), (81, .iload_n 2, 1), (82, .iload_n 1, 1), (83, .invokevirtual 138, 3), (86, .ifCond .eq 7, 3), (89, .iload_n 2, 1), (90, .goto 4, 3), (93, .iload_n 1, 1), (94, .istore_n 1, 1), (95, .iinc 2 1, 3), (98, .goto (-43), 3), (101, .iload_n 1, 1), (102, .iconst (-1), 1)]
theorem kX8_goOn : iX8_goOn.all (gdo cX8_goOn) = true := by decide +kernel
def iX8_goOn_1 : List (Nat × Instr × Nat) := [(103, .if_icmp .eq (-57), 3), (106, .aload_n 0, 1), (107, .getfield 19, 3), (110, .iload_n 1, 1), (111, .iconst 1, 1), (112, .bastore, 1), (113, .aload_n 0, 1), (114, .iload_n 1, 1), (115, .invokevirtual 142, 3), (118, .goto (-72), 3), (121, .return_, 1)]
theorem kX8_goOn_1 : iX8_goOn_1.all (gdo cX8_goOn) = true := by decide +kernel
def iX8_walkBack : List (Nat × Instr × Nat) := [(0, .iconst 0, 1), (1, .istore_n 1, 1), (2, .iload_n 1, 1), (3, .aload_n 0, 1), (4, .getfield 7, 3), (7, .bipush 7, 2), (9, .iaload, 1), (10, .if_icmp .ge 112, 3), (13, .aload_n 0, 1), (14, .iload_n 1, 1), (15, .iconst 2, 1), (16, .invokevirtual 98, 3), (19, .istore_n 2, 1), (20, .aload_n 0, 1), (21, .iload_n 1, 1), (22, .iconst 3, 1), (23, .invokevirtual 98, 3), (26, .ifCond .ne 90, 3), (29, .iload_n 2, 1), (30, .aload_n 0, 1), (31, .iload_n 1, 1), (32, .iconst 0, 1), (33, .invokevirtual 98, 3), (36, .if_icmp .eq 80, 3), (39, .aload_n 0, 1), (40, .iload_n 1, 1), (41, .iconst 1, 1), (42, .invokevirtual 98, 3), (45, .ifCond .ne 71, 3), (48, .aload_n 0, 1), (49, .iload_n 2, 1), (50, .invokevirtual 145, 3), (53, .ifCond .ne 63, 3), (56, .iload_n 2, 1), (57, .aload_n 0, 1), (58, .iload_n 1, 1), (59, .iconst 0, 1), (60, .invokevirtual 98, 3), (63, .invokestatic 116, 3), (66, .istore_n 3, 1), (67, .iload_n 2, 1), (68, .iload_n 3, 1), (69, .invokestatic 53, 3), (72, .istore 4, 2), (74, .aload_n 0, 1), (75, .iload 4, 2), (77, .invokevirtual 119, 3), (80, .ifCond .ne 36, 3), (83, .aload_n 0, 1), (84, .iload_n 3, 1), (85, .invokevirtual 125, 3), (88, .ifCond .le 28, 3), (91, .aload_n 0, 1), (92, .iload_n 1, 1), (93, .iload_n 3, 1), (94, .iconst 2, 1), (95, .aload_n 0, 1), (96, .iload 4, 2), (98, .invokevirtual 56, 3), (101, .imul, 1)]
theorem kX8_walkBack : iX8_walkBack.all (gdo cX8_walkBack) = true := by decide +kernel
def iX8_walkBack_1 : List (Nat × Instr × Nat) := [(102, .invokevirtual 134, 3), (105, .aload_n 0, 1), (106, .getfield 7, 3), (109, .iload_n 1, 1), (110, .iconst 5, 1), (111, .invokestatic 46, 3), (114, .iconst 1, 1), (115, .iastore, 1), (116, .iinc 1 1, 3), (119, .goto (-117), 3), (122, .return_, 1)]
theorem kX8_walkBack_1 : iX8_walkBack_1.all (gdo cX8_walkBack) = true := by decide +kernel
def iX8_hour : List (Nat × Instr × Nat) := [(0, .aload_n 0, 1), (1, .invokevirtual 148, 3), (4, .aload_n 0, 1), (5, .invokevirtual 151, 3), (8, .aload_n 0, 1), (9, .invokevirtual 154, 3), (12, .aload_n 0, 1), (13, .invokevirtual 157, 3), (16, .aload_n 0, 1), (17, .getfield 7, 3), (20, .iconst 1, 1), (21, .dup2, 1), (22, .iaload, 1), (23, .iconst 1, 1), (24, .iadd, 1), (25, .iastore, 1), (26, .return_, 1)]
theorem kX8_hour : iX8_hour.all (gdo cX8_hour) = true := by decide +kernel
def iX8_pass : List (Nat × Instr × Nat) := [(0, .iload_n 1, 1), (1, .i2l, 1), (2, .lconst 1, 1), (3, .ldc2_w 160, 3), (6, .invokestatic 40, 3), (9, .ifCond .ne 9, 3), (12, .aload_n 0, 1), (13, .iconst 1, 1), (14, .invokevirtual 64, 3), (17, .ireturn, 1), (18, .aload_n 0, 1), (19, .getfield 7, 3), (22, .iconst 1, 1), (23, .iaload, 1), (24, .iload_n 1, 1), (25, .iadd, 1), (26, .sipush 10000, 3), (29, .if_icmp .le 9, 3), (32, .aload_n 0, 1), (33, .iconst 2, 1), (34, .invokevirtual 64, 3), (37, .ireturn, 1), (38, .aload_n 0, 1), (39, .invokevirtual 73, 3), (42, .aload_n 0, 1), (43, .getfield 7, 3), (46, .iconst 2, 1), (47, .iaload, 1), (48, .istore_n 2, 1), (49, .iconst 0, 1), (50, .istore_n 3, 1), (51, .iload_n 3, 1), (52, .iload_n 1, 1), (53, .if_icmp .ge 13, 3), (56, .aload_n 0, 1), (57, .invokevirtual 162, 3), (60, .iinc 3 1, 3), (63, .goto (-12), 3), (66, .aload_n 0, 1), (67, .aload_n 0, 1), (68, .getfield 7, 3), (71, .iconst 2, 1), (72, .iaload, 1), (73, .iload_n 2, 1), (74, .isub, 1), (75, .invokevirtual 76, 3), (78, .ireturn, 1)]
theorem kX8_pass : iX8_pass.all (gdo cX8_pass) = true := by decide +kernel
def iX8_teamsOn : List (Nat × Instr × Nat) := [(0, .iconst 0, 1), (1, .istore_n 2, 1), (2, .iconst 0, 1), (3, .istore_n 3, 1), (4, .iload_n 3, 1), (5, .aload_n 0, 1), (6, .getfield 7, 3), (9, .bipush 7, 2), (11, .iaload, 1), (12, .if_icmp .ge 46, 3), (15, .iload_n 2, 1), (16, .aload_n 0, 1), (17, .iload_n 3, 1), (18, .iconst 3, 1), (19, .invokevirtual 98, 3), (22, .ifCond .le 27, 3), (25, .aload_n 0, 1), (26, .iload_n 3, 1), (27, .iconst 2, 1), (28, .invokevirtual 98, 3), (31, .aload_n 0, 1), (32, .iload_n 3, 1), (33, .bipush 10, 2), (35, .invokevirtual 98, 3), (38, .invokestatic 53, 3), (41, .iload_n 1, 1), (42, .if_icmp .ne 7, 3), (45, .iconst 1, 1), (46, .goto 4, 3), (49, .iconst 0, 1), (50, .iadd, 1), (51, .istore_n 2, 1), (52, .iinc 3 1, 3), (55, .goto (-51), 3), (58, .iload_n 2, 1), (59, .ireturn, 1)]
theorem kX8_teamsOn : iX8_teamsOn.all (gdo cX8_teamsOn) = true := by decide +kernel
def iX8_stageOf : List (Nat × Instr × Nat) := [(0, .iload_n 2, 1), (1, .iconst 3, 1), (2, .if_icmp .ge 19, 3), (5, .aload_n 0, 1), (6, .getfield 7, 3), (9, .bipush 9, 2), (11, .iconst 3, 1), (12, .iload_n 1, 1), (13, .imul, 1), (14, .iadd, 1), (15, .iload_n 2, 1), (16, .iadd, 1), (17, .iaload, 1), (18, .goto 40, 3), (21, .iload_n 2, 1), (22, .iconst 3, 1), (23, .if_icmp .ne 14, 3), (26, .aload_n 0, 1), (27, .iload_n 1, 1), (28, .iload_n 1, 1), (29, .iconst 1, 1), (30, .iadd, 1), (31, .invokevirtual 107, 3), (34, .goto 24, 3), (37, .iload_n 2, 1), (38, .iconst 4, 1), (39, .if_icmp .ne 14, 3), (42, .aload_n 0, 1), (43, .iload_n 1, 1), (44, .iconst 1, 1), (45, .iadd, 1), (46, .iload_n 1, 1), (47, .invokevirtual 107, 3), (50, .goto 8, 3), (53, .aload_n 0, 1), (54, .iload_n 1, 1), (55, .invokevirtual 165, 3), (58, .ireturn, 1)]
theorem kX8_stageOf : iX8_stageOf.all (gdo cX8_stageOf) = true := by decide +kernel
def iX8_stage : List (Nat × Instr × Nat) := [(0, .aload_n 0, 1), (1, .iload_n 1, 1), (2, .invokevirtual 60, 3), (5, .ifCond .ne 9, 3), (8, .aload_n 0, 1), (9, .iconst 1, 1), (10, .invokevirtual 64, 3), (13, .ireturn, 1), (14, .iload_n 2, 1), (15, .i2l, 1), (16, .lconst 0, 1), (17, .ldc2_w 71, 3), (20, .invokestatic 40, 3), (23, .ifCond .eq 16, 3), (26, .aload_n 0, 1), (27, .aload_n 0, 1), (28, .iload_n 1, 1), (29, .iload_n 2, 1), (30, .invokevirtual 168, 3), (33, .invokevirtual 76, 3), (36, .goto 8, 3), (39, .aload_n 0, 1), (40, .iconst 2, 1), (41, .invokevirtual 64, 3), (44, .ireturn, 1)]
theorem kX8_stage : iX8_stage.all (gdo cX8_stage) = true := by decide +kernel
def iX8_innOf : List (Nat × Instr × Nat) := [(0, .iload_n 2, 1), (1, .iconst 3, 1), (2, .if_icmp .ge 19, 3), (5, .aload_n 0, 1), (6, .getfield 7, 3), (9, .bipush 30, 2), (11, .iconst 3, 1), (12, .iload_n 1, 1), (13, .imul, 1), (14, .iadd, 1), (15, .iload_n 2, 1), (16, .iadd, 1), (17, .iaload, 1), (18, .goto 37, 3), (21, .iload_n 2, 1), (22, .iconst 5, 1), (23, .if_icmp .ge 14, 3), (26, .aload_n 0, 1), (27, .iload_n 1, 1), (28, .iload_n 2, 1), (29, .iconst 3, 1), (30, .isub, 1), (31, .invokevirtual 101, 3), (34, .goto 21, 3), (37, .iload_n 2, 1), (38, .iconst 5, 1), (39, .if_icmp .ne 11, 3), (42, .aload_n 0, 1), (43, .iload_n 1, 1), (44, .invokevirtual 145, 3), (47, .goto 8, 3), (50, .aload_n 0, 1), (51, .iload_n 1, 1), (52, .invokevirtual 125, 3), (55, .ireturn, 1)]
theorem kX8_innOf : iX8_innOf.all (gdo cX8_innOf) = true := by decide +kernel
def iX8_inn : List (Nat × Instr × Nat) := [(0, .aload_n 0, 1), (1, .iload_n 1, 1), (2, .invokevirtual 79, 3), (5, .ifCond .ne 9, 3), (8, .aload_n 0, 1), (9, .iconst 1, 1), (10, .invokevirtual 64, 3), (13, .ireturn, 1), (14, .iload_n 2, 1), (15, .i2l, 1), (16, .lconst 0, 1), (17, .ldc2_w 82, 3), (20, .invokestatic 40, 3), (23, .ifCond .eq 16, 3), (26, .aload_n 0, 1), (27, .aload_n 0, 1), (28, .iload_n 1, 1), (29, .iload_n 2, 1), (30, .invokevirtual 171, 3), (33, .invokevirtual 76, 3), (36, .goto 8, 3), (39, .aload_n 0, 1), (40, .iconst 2, 1), (41, .invokevirtual 64, 3), (44, .ireturn, 1)]
theorem kX8_inn : iX8_inn.all (gdo cX8_inn) = true := by decide +kernel
def iX8_team : List (Nat × Instr × Nat) := [(0, .aload_n 0, 1), (1, .iload_n 1, 1), (2, .invokevirtual 174, 3), (5, .ifCond .ne 9, 3), (8, .aload_n 0, 1), (9, .iconst 1, 1), (10, .invokevirtual 64, 3), (13, .ireturn, 1), (14, .iload_n 2, 1), (15, .i2l, 1), (16, .lconst 0, 1), (17, .ldc2_w 67, 3), (20, .invokestatic 40, 3), (23, .ifCond .eq 16, 3), (26, .aload_n 0, 1), (27, .aload_n 0, 1), (28, .iload_n 1, 1), (29, .iload_n 2, 1), (30, .invokevirtual 98, 3), (33, .invokevirtual 76, 3), (36, .goto 8, 3), (39, .aload_n 0, 1), (40, .iconst 2, 1), (41, .invokevirtual 64, 3), (44, .ireturn, 1)]
theorem kX8_team : iX8_team.all (gdo cX8_team) = true := by decide +kernel
end
section
def iX8_letter : List (Nat × Instr × Nat) := [(0, .aload_n 0, 1), (1, .iload_n 1, 1), (2, .invokevirtual 177, 3), (5, .ifCond .ne 9, 3), (8, .aload_n 0, 1), (9, .iconst 1, 1), (10, .invokevirtual 64, 3), (13, .ireturn, 1), (14, .iload_n 2, 1), (15, .i2l, 1), (16, .lconst 0, 1), (17, .ldc2_w 180, 3), (20, .invokestatic 40, 3), (23, .ifCond .eq 16, 3), (26, .aload_n 0, 1), (27, .aload_n 0, 1), (28, .iload_n 1, 1), (29, .iload_n 2, 1), (30, .invokevirtual 92, 3), (33, .invokevirtual 76, 3), (36, .goto 8, 3), (39, .aload_n 0, 1), (40, .iconst 2, 1), (41, .invokevirtual 64, 3), (44, .ireturn, 1)]
theorem kX8_letter : iX8_letter.all (gdo cX8_letter) = true := by decide +kernel
def iX8_lettersBy : List (Nat × Instr × Nat) := [(0, .iconst 0, 1), (1, .istore_n 2, 1), (2, .iconst 0, 1), (3, .istore_n 3, 1), (4, .iload_n 3, 1), (5, .aload_n 0, 1), (6, .getfield 7, 3), (9, .bipush 8, 2), (11, .iaload, 1), (12, .if_icmp .ge 47, 3), (15, .iload_n 2, 1), (16, .iload_n 1, 1), (17, .ifCond .eq 21, 3), (20, .aload_n 0, 1), (21, .iload_n 3, 1), (22, .iconst 5, 1), (23, .invokevirtual 92, 3), (26, .iconst (-1), 1), (27, .if_icmp .eq 7, 3), (30, .iconst 1, 1), (31, .goto 20, 3), (34, .iconst 0, 1), (35, .goto 16, 3), (38, .aload_n 0, 1), (39, .iload_n 3, 1), (40, .invokevirtual 104, 3), (43, .ifCond .eq 7, 3), (46, .iconst 1, 1), (47, .goto 4, 3), (50, .iconst 0, 1), (51, .iadd, 1), (52, .istore_n 2, 1), (53, .iinc 3 1, 3), (56, .goto (-52), 3), (59, .iload_n 2, 1), (60, .ireturn, 1)]
theorem kX8_lettersBy : iX8_lettersBy.all (gdo cX8_lettersBy) = true := by decide +kernel
def iX8_valueOf : List (Nat × Instr × Nat) := [(0, .iload_n 1, 1), (1, .tableswitch 105 0 10 #[59, 66, 74, 82, 105, 105, 105, 105, 105, 89, 89], 59), (60, .aload_n 0, 1), (61, .getfield 7, 3), (64, .iconst 0, 1), (65, .iaload, 1), (66, .ireturn, 1), (67, .aload_n 0, 1), (68, .getfield 7, 3), (71, .bipush 7, 2), (73, .iaload, 1), (74, .ireturn, 1), (75, .aload_n 0, 1), (76, .getfield 7, 3), (79, .bipush 8, 2), (81, .iaload, 1), (82, .ireturn, 1), (83, .aload_n 0, 1), (84, .getfield 7, 3), (87, .iconst 1, 1), (88, .iaload, 1), (89, .ireturn, 1), (90, .aload_n 0, 1), (91, .iload_n 1, 1), (92, .bipush 10, 2), (94, .if_icmp .ne 7, 3), (97, .iconst 1, 1), (98, .goto 4, 3), (101, .iconst 0, 1), (102, .invokevirtual 182, 3), (105, .ireturn, 1), (106, .aload_n 0, 1), (107, .getfield 7, 3), (110, .iconst 2, 1), (111, .iload_n 1, 1), (112, .iadd, 1), (113, .iconst 4, 1), (114, .isub, 1), (115, .iaload, 1), (116, .ireturn, 1)]
theorem kX8_valueOf : iX8_valueOf.all (gdo cX8_valueOf) = true := by decide +kernel
def iX8_value : List (Nat × Instr × Nat) := [(0, .iload_n 1, 1), (1, .i2l, 1), (2, .lconst 0, 1), (3, .ldc2_w 186, 3), (6, .invokestatic 40, 3), (9, .ifCond .eq 15, 3), (12, .aload_n 0, 1), (13, .aload_n 0, 1), (14, .iload_n 1, 1), (15, .invokevirtual 188, 3), (18, .invokevirtual 76, 3), (21, .goto 8, 3), (24, .aload_n 0, 1), (25, .iconst 1, 1), (26, .invokevirtual 64, 3), (29, .ireturn, 1)]
theorem kX8_value : iX8_value.all (gdo cX8_value) = true := by decide +kernel
def iX8_why : List (Nat × Instr × Nat) := [(0, .aload_n 0, 1), (1, .iload_n 1, 1), (2, .invokevirtual 177, 3), (5, .ifCond .eq 15, 3), (8, .aload_n 0, 1), (9, .aload_n 0, 1), (10, .iload_n 1, 1), (11, .invokevirtual 131, 3), (14, .invokevirtual 76, 3), (17, .goto 8, 3), (20, .aload_n 0, 1), (21, .iconst 1, 1), (22, .invokevirtual 64, 3), (25, .ireturn, 1)]
theorem kX8_why : iX8_why.all (gdo cX8_why) = true := by decide +kernel
def iX8_hoursTo : List (Nat × Instr × Nat) := [(0, .aload_n 0, 1), (1, .iload_n 1, 1), (2, .invokevirtual 177, 3), (5, .ifCond .ne 9, 3), (8, .aload_n 0, 1), (9, .iconst 1, 1), (10, .invokevirtual 64, 3), (13, .ireturn, 1), (14, .aload_n 0, 1), (15, .invokevirtual 191, 3), (18, .iconst 0, 1), (19, .istore_n 2, 1), (20, .iload_n 2, 1), (21, .sipush 500, 3), (24, .if_icmp .ge 21, 3), (27, .aload_n 0, 1), (28, .iload_n 1, 1), (29, .invokevirtual 95, 3), (32, .ifCond .ne 13, 3), (35, .aload_n 0, 1), (36, .invokevirtual 162, 3), (39, .iinc 2 1, 3), (42, .goto (-22), 3), (45, .aload_n 0, 1), (46, .iload_n 1, 1), (47, .invokevirtual 95, 3), (50, .ifCond .eq 7, 3), (53, .iload_n 2, 1), (54, .goto 4, 3), (57, .iconst (-1), 1), (58, .istore_n 3, 1), (59, .aload_n 0, 1), (60, .invokevirtual 194, 3), (63, .aload_n 0, 1), (64, .iload_n 3, 1), (65, .invokevirtual 76, 3), (68, .ireturn, 1)]
theorem kX8_hoursTo : iX8_hoursTo.all (gdo cX8_hoursTo) = true := by decide +kernel
def iX8_areDelivered : List (Nat × Instr × Nat) := [(0, .aload_n 0, 1), (1, .iconst 0, 1), (2, .invokevirtual 182, 3), (5, .aload_n 0, 1), (6, .iconst 1, 1), (7, .invokevirtual 182, 3), (10, .iadd, 1), (11, .ifCond .ne 7, 3), (14, .iconst 1, 1), (15, .goto 4, 3), (18, .iconst 0, 1), (19, .ireturn, 1)]
theorem kX8_areDelivered : iX8_areDelivered.all (gdo cX8_areDelivered) = true := by decide +kernel
def iX8_toAll : List (Nat × Instr × Nat) := [(0, .iconst 0, 1), (1, .istore_n 1, 1), (2, .iload_n 1, 1), (3, .sipush 500, 3), (6, .if_icmp .ge 20, 3), (9, .aload_n 0, 1), (10, .invokevirtual 197, 3), (13, .ifCond .ne 13, 3), (16, .aload_n 0, 1), (17, .invokevirtual 162, 3), (20, .iinc 1 1, 3), (23, .goto (-21), 3), (26, .aload_n 0, 1), (27, .invokevirtual 197, 3), (30, .ifCond .eq 7, 3), (33, .iload_n 1, 1), (34, .goto 4, 3), (37, .iconst (-1), 1), (38, .ireturn, 1)]
theorem kX8_toAll : iX8_toAll.all (gdo cX8_toAll) = true := by decide +kernel
def iX8_forAll : List (Nat × Instr × Nat) := [(0, .aload_n 0, 1), (1, .invokevirtual 191, 3), (4, .aload_n 0, 1), (5, .invokevirtual 201, 3), (8, .istore_n 1, 1), (9, .aload_n 0, 1), (10, .invokevirtual 194, 3), (13, .iload_n 1, 1), (14, .ireturn, 1)]
theorem kX8_forAll : iX8_forAll.all (gdo cX8_forAll) = true := by decide +kernel
def iX8_hoursToAll : List (Nat × Instr × Nat) := [(0, .aload_n 0, 1), (1, .aload_n 0, 1), (2, .invokevirtual 205, 3), (5, .invokevirtual 76, 3), (8, .ireturn, 1)]
theorem kX8_hoursToAll : iX8_hoursToAll.all (gdo cX8_hoursToAll) = true := by decide +kernel
def iX8_bestInn : List (Nat × Instr × Nat) := [(0, .iconst (-1), 1), (1, .istore_n 1, 1), (2, .sipush 501, 3), (5, .istore_n 2, 1), (6, .iconst 0, 1), (7, .istore_n 3, 1), (8, .iload_n 3, 1), (9, .aload_n 0, 1), (10, .getfield 7, 3), (13, .iconst 0, 1), (14, .iaload, 1), (15, .if_icmp .ge 78, 3), (18, .aload_n 0, 1), (19, .getfield 7, 3), (22, .bipush 7, 2), (24, .iaload, 1), (25, .bipush 10, 2), (27, .if_icmp .ge 66, 3), (30, .aload_n 0, 1), (31, .invokevirtual 191, 3), (34, .aload_n 0, 1), (35, .iload_n 3, 1), (36, .iconst 0, 1), (37, .invokevirtual 88, 3), (40, .aload_n 0, 1), (41, .invokevirtual 201, 3), (44, .istore 4, 2), (46, .aload_n 0, 1), (47, .invokevirtual 194, 3), (50, .iload 4, 2), (52, .iconst (-1), 1), (53, .if_icmp .eq 13, 3), (56, .iload 4, 2), (58, .iload_n 2, 1), (59, .if_icmp .ge 7, 3), (62, .iload_n 3, 1), (63, .goto 4, 3), (66, .iload_n 1, 1), (67, .istore_n 1, 1), (68, .iload 4, 2), (70, .iconst (-1), 1), (71, .if_icmp .eq 14, 3), (74, .iload 4, 2), (76, .iload_n 2, 1), (77, .if_icmp .ge 8, 3), (80, .iload 4, 2), (82, .goto 4, 3), (85, .iload_n 2, 1), (86, .istore_n 2, 1), (87, .iinc 3 1, 3), (90, .goto (-82), 3), (93, .aload_n 0, 1), (94, .iload_n 1, 1), (95, .invokevirtual 76, 3), (98, .ireturn, 1)]
theorem kX8_bestInn : iX8_bestInn.all (gdo cX8_bestInn) = true := by decide +kernel
def iX8_way : List (Nat × Instr × Nat) := [(0, .aload_n 0, 1), (1, .iload_n 1, 1), (2, .invokevirtual 79, 3), (5, .ifCond .eq 11, 3), (8, .aload_n 0, 1), (9, .iload_n 2, 1), (10, .invokevirtual 79, 3), (13, .ifCond .ne 9, 3), (16, .aload_n 0, 1), (17, .iconst 1, 1), (18, .invokevirtual 64, 3), (21, .ireturn, 1), (22, .iconst 0, 1), (23, .istore_n 3, 1), (24, .iload_n 1, 1), (25, .istore 4, 2), (27, .iload 4, 2), (29, .iload_n 2, 1), (30, .if_icmp .eq 32, 3), (33, .iload_n 3, 1), (34, .aload_n 0, 1), (35, .iload 4, 2), (37, .iload 4, 2), (39, .iload_n 2, 1), (40, .invokestatic 116, 3), (43, .invokestatic 53, 3), (46, .invokevirtual 56, 3), (49, .iadd, 1), (50, .istore_n 3, 1), (51, .iload 4, 2), (53, .iload_n 2, 1), (54, .invokestatic 116, 3), (57, .istore 4, 2), (59, .goto (-32), 3), (62, .aload_n 0, 1), (63, .iload_n 3, 1), (64, .invokevirtual 76, 3), (67, .ireturn, 1)]
theorem kX8_way : iX8_way.all (gdo cX8_way) = true := by decide +kernel
def iX8_effortHome : List (Nat × Instr × Nat) := [(0, .aload_n 0, 1), (1, .iload_n 1, 1), (2, .invokevirtual 174, 3), (5, .ifCond .ne 9, 3), (8, .aload_n 0, 1), (9, .iconst 1, 1), (10, .invokevirtual 64, 3), (13, .ireturn, 1), (14, .iconst 0, 1), (15, .istore_n 2, 1), (16, .aload_n 0, 1), (17, .iload_n 1, 1), (18, .iconst 0, 1), (19, .invokevirtual 98, 3), (22, .istore_n 3, 1), (23, .aload_n 0, 1), (24, .iload_n 1, 1), (25, .iconst 2, 1), (26, .invokevirtual 98, 3), (29, .istore 4, 2), (31, .iload 4, 2), (33, .iload_n 3, 1), (34, .if_icmp .eq 29, 3), (37, .iload_n 2, 1), (38, .aload_n 0, 1), (39, .iload 4, 2), (41, .iload 4, 2), (43, .iload_n 3, 1), (44, .invokestatic 116, 3), (47, .invokevirtual 107, 3), (50, .iadd, 1), (51, .istore_n 2, 1), (52, .iload 4, 2), (54, .iload_n 3, 1), (55, .invokestatic 116, 3), (58, .istore 4, 2), (60, .goto (-29), 3), (63, .aload_n 0, 1), (64, .iload_n 2, 1), (65, .invokevirtual 76, 3), (68, .ireturn, 1)]
theorem kX8_effortHome : iX8_effortHome.all (gdo cX8_effortHome) = true := by decide +kernel
def iX8_meanTiredness : List (Nat × Instr × Nat) := [(0, .aload_n 0, 1), (1, .iconst 0, 1), (2, .putfield 33, 3), (5, .dconst 0, 1), (6, .dstore_n 1, 1), (7, .iconst 0, 1), (8, .istore_n 3, 1), (9, .iload_n 3, 1), (10, .aload_n 0, 1), (11, .getfield 7, 3), (14, .bipush 7, 2), (16, .iaload, 1), (17, .if_icmp .ge 19, 3), (20, .dload_n 1, 1), (21, .aload_n 0, 1), (22, .iload_n 3, 1), (23, .iconst 1, 1), (24, .invokevirtual 98, 3), (27, .i2d, 1), (28, .dadd, 1), (29, .dstore_n 1, 1), (30, .iinc 3 1, 3), (33, .goto (-24), 3), (36, .aload_n 0, 1), (37, .getfield 7, 3), (40, .bipush 7, 2), (42, .iaload, 1), (43, .i2d, 1), (44, .dstore_n 3, 1), (45, .aload_n 0, 1), (46, .getfield 7, 3), (49, .bipush 7, 2), (51, .iaload, 1), (52, .ifCond .ne 7, 3), (55, .dconst 0, 1), (56, .goto 6, 3), (59, .dload_n 1, 1), (60, .dload_n 3, 1), (61, .ddiv, 1), (62, .dreturn, 1)]
theorem kX8_meanTiredness : iX8_meanTiredness.all (gdo cX8_meanTiredness) = true := by decide +kernel
def iX8_append : List (Nat × Instr × Nat) := [(0, .iload_n 1, 1), (1, .i2l, 1), (2, .lconst 0, 1), (3, .ldc2_w 208, 3), (6, .invokestatic 40, 3), (9, .ifCond .ne 9, 3), (12, .aload_n 0, 1), (13, .iconst 1, 1), (14, .invokevirtual 64, 3), (17, .ireturn, 1), (18, .aload_n 0, 1), (19, .getfield 210, 3), (22, .bipush 90, 2), (24, .if_icmp .ne 9, 3), (27, .aload_n 0, 1), (28, .iconst 2, 1), (29, .invokevirtual 64, 3), (32, .ireturn, 1), (33, .aload_n 0, 1), (34, .getfield 23, 3), (37, .aload_n 0, 1), (38, .getfield 210, 3), (41, .iload_n 1, 1), (42, .iastore, 1), (43, .aload_n 0, 1), (44, .dup, 1), (45, .getfield 210, 3), (48, .iconst 1, 1), (49, .iadd, 1), (50, .putfield 210, 3), (53, .aload_n 0, 1), (54, .aload_n 0, 1), (55, .getfield 210, 3), (58, .invokevirtual 76, 3), (61, .ireturn, 1)]
theorem kX8_append : iX8_append.all (gdo cX8_append) = true := by decide +kernel
def iX8_clearText : List (Nat × Instr × Nat) := [(0, .aload_n 0, 1), (1, .getfield 210, 3), (4, .istore_n 1, 1), (5, .aload_n 0, 1), (6, .iconst 0, 1), (7, .putfield 210, 3), (10, .aload_n 0, 1), (11, .iload_n 1, 1), (12, .invokevirtual 76, 3), (15, .ireturn, 1)]
theorem kX8_clearText : iX8_clearText.all (gdo cX8_clearText) = true := by decide +kernel
def iX8_here : List (Nat × Instr × Nat) := [(0, .aload_n 0, 1), (1, .getfield 213, 3), (4, .aload_n 0, 1), (5, .getfield 210, 3), (8, .if_icmp .ge 15, 3), (11, .aload_n 0, 1), (12, .getfield 23, 3), (15, .aload_n 0, 1), (16, .getfield 213, 3), (19, .iaload, 1), (20, .goto 4, 3), (23, .iconst (-1), 1), (24, .ireturn, 1)]
theorem kX8_here : iX8_here.all (gdo cX8_here) = true := by decide +kernel
def iX8_readsStage : List (Nat × Instr × Nat) := [(0, .aload_n 0, 1), (1, .getfield 216, 3), (4, .bipush 7, 2), (6, .if_icmp .eq 20, 3), (9, .aload_n 0, 1), (10, .invokevirtual 219, 3), (13, .i2l, 1), (14, .ldc2_w 222, 3), (17, .ldc2_w 224, 3), (20, .invokestatic 40, 3), (23, .ifCond .ne 5, 3), (26, .iconst 0, 1), (27, .ireturn, 1), (28, .aload_n 0, 1), (29, .getfield 26, 3), (32, .iconst 2, 1), (33, .aload_n 0, 1), (34, .getfield 216, 3), (37, .imul, 1), (38, .aload_n 0, 1), (39, .invokevirtual 219, 3), (42, .bipush 48, 2), (44, .isub, 1), (45, .iastore, 1), (46, .aload_n 0, 1), (47, .getfield 26, 3), (50, .iconst 2, 1), (51, .aload_n 0, 1), (52, .getfield 216, 3), (55, .imul, 1), (56, .iconst 1, 1), (57, .iadd, 1), (58, .iconst 0, 1), (59, .iastore, 1), (60, .aload_n 0, 1), (61, .dup, 1), (62, .getfield 213, 3), (65, .iconst 1, 1), (66, .iadd, 1), (67, .putfield 213, 3), (70, .aload_n 0, 1), (71, .invokevirtual 219, 3), (74, .bipush 43, 2), (76, .if_icmp .eq 12, 3), (79, .aload_n 0, 1), (80, .invokevirtual 219, 3), (83, .bipush 45, 2), (85, .if_icmp .ne 79, 3), (88, .aload_n 0, 1), (89, .invokevirtual 219, 3), (92, .bipush 43, 2), (94, .if_icmp .ne 7, 3), (97, .iconst 1, 1), (98, .goto 4, 3), (101, .iconst (-1), 1), (102, .istore_n 1, 1), (103, .aload_n 0, 1), (104, .dup, 1), (105, .getfield 213, 3), (108, .iconst 1, 1)]
theorem kX8_readsStage : iX8_readsStage.all (gdo cX8_readsStage) = true := by decide +kernel
def iX8_readsStage_1 : List (Nat × Instr × Nat) := [(109, .iadd, 1), (110, .putfield 213, 3), (113, .aload_n 0, 1), (114, .invokevirtual 219, 3), (117, .i2l, 1), (118, .ldc2_w 222, 3), (121, .ldc2_w 226, 3), (124, .invokestatic 40, 3), (127, .ifCond .ne 5, 3), (130, .iconst 0, 1), (131, .ireturn, 1), (132, .aload_n 0, 1), (133, .getfield 26, 3), (136, .iconst 2, 1), (137, .aload_n 0, 1), (138, .getfield 216, 3), (141, .imul, 1), (142, .iconst 1, 1), (143, .iadd, 1), (144, .iload_n 1, 1), (145, .aload_n 0, 1), (146, .invokevirtual 219, 3), (149, .bipush 48, 2), (151, .isub, 1), (152, .imul, 1), (153, .iastore, 1), (154, .aload_n 0, 1), (155, .dup, 1), (156, .getfield 213, 3), (159, .iconst 1, 1), (160, .iadd, 1), (161, .putfield 213, 3), (164, .aload_n 0, 1), (165, .invokevirtual 219, 3), (168, .bipush 59, 2), (170, .if_icmp .ne 7, 3), (173, .iconst 1, 1), (174, .goto 4, 3), (177, .iconst 0, 1), (178, .istore_n 1, 1), (179, .aload_n 0, 1), (180, .dup, 1), (181, .getfield 213, 3), (184, .iload_n 1, 1), (185, .ifCond .eq 7, 3), (188, .iconst 1, 1), (189, .goto 4, 3), (192, .iconst 0, 1), (193, .iadd, 1), (194, .putfield 213, 3), (197, .aload_n 0, 1), (198, .dup, 1), (199, .getfield 216, 3), (202, .iload_n 1, 1), (203, .ifCond .eq 7, 3), (206, .iconst 1, 1), (207, .goto 4, 3), (210, .iconst 0, 1), (211, .iadd, 1), (212, .putfield 216, 3)]
theorem kX8_readsStage_1 : iX8_readsStage_1.all (gdo cX8_readsStage) = true := by decide +kernel
def iX8_readsStage_2 : List (Nat × Instr × Nat) := [(215, .iload_n 1, 1), (216, .ireturn, 1)]
theorem kX8_readsStage_2 : iX8_readsStage_2.all (gdo cX8_readsStage) = true := by decide +kernel
def iX8_readsText : List (Nat × Instr × Nat) := [(0, .aload_n 0, 1), (1, .iconst 0, 1), (2, .putfield 213, 3), (5, .aload_n 0, 1), (6, .iconst 0, 1), (7, .putfield 216, 3), (10, .aload_n 0, 1), (11, .invokevirtual 228, 3), (14, .istore_n 1, 1), (15, .iload_n 1, 1), (16, .ifCond .eq 22, 3), (19, .aload_n 0, 1), (20, .getfield 213, 3), (23, .aload_n 0, 1), (24, .getfield 210, 3), (27, .if_icmp .ge 11, 3), (30, .aload_n 0, 1), (31, .invokevirtual 228, 3), (34, .istore_n 1, 1), (35, .goto (-20), 3), (38, .iload_n 1, 1), (39, .ireturn, 1)]
theorem kX8_readsText : iX8_readsText.all (gdo cX8_readsText) = true := by decide +kernel
def iX8_parse : List (Nat × Instr × Nat) := [(0, .aload_n 0, 1), (1, .invokevirtual 231, 3), (4, .ifCond .ne 15, 3), (7, .aload_n 0, 1), (8, .bipush (-10), 2), (10, .aload_n 0, 1), (11, .getfield 213, 3), (14, .isub, 1), (15, .invokevirtual 76, 3), (18, .ireturn, 1), (19, .aload_n 0, 1), (20, .invokevirtual 73, 3), (23, .aload_n 0, 1), (24, .aload_n 0, 1), (25, .getfield 216, 3), (28, .iconst 1, 1), (29, .iadd, 1), (30, .invokevirtual 29, 3), (33, .iconst 0, 1), (34, .istore_n 1, 1), (35, .iload_n 1, 1), (36, .aload_n 0, 1), (37, .getfield 216, 3), (40, .if_icmp .ge 51, 3), (43, .aload_n 0, 1), (44, .getfield 7, 3), (47, .bipush 9, 2), (49, .iconst 3, 1), (50, .iload_n 1, 1), (51, .imul, 1), (52, .iadd, 1), (53, .aload_n 0, 1), (54, .getfield 26, 3), (57, .iconst 2, 1), (58, .iload_n 1, 1), (59, .imul, 1), (60, .iaload, 1), (61, .iastore, 1), (62, .aload_n 0, 1), (63, .getfield 7, 3), (66, .bipush 9, 2), (68, .iconst 3, 1), (69, .iload_n 1, 1), (70, .imul, 1), (71, .iadd, 1), (72, .iconst 1, 1), (73, .iadd, 1), (74, .aload_n 0, 1), (75, .getfield 26, 3), (78, .iconst 2, 1), (79, .iload_n 1, 1), (80, .imul, 1), (81, .iconst 1, 1), (82, .iadd, 1), (83, .iaload, 1), (84, .iastore, 1), (85, .iinc 1 1, 3), (88, .goto (-53), 3), (91, .aload_n 0, 1), (92, .aload_n 0, 1)]
theorem kX8_parse : iX8_parse.all (gdo cX8_parse) = true := by decide +kernel
def iX8_parse_1 : List (Nat × Instr × Nat) := [(93, .getfield 7, 3), (96, .iconst 0, 1), (97, .iaload, 1), (98, .invokevirtual 76, 3), (101, .ireturn, 1)]
theorem kX8_parse_1 : iX8_parse_1.all (gdo cX8_parse) = true := by decide +kernel
def iX8_undo : List (Nat × Instr × Nat) := [(0, .aload_n 0, 1), (1, .getfield 37, 3), (4, .ifCond .ne 9, 3), (7, .aload_n 0, 1), (8, .iconst 1, 1), (9, .invokevirtual 64, 3), (12, .ireturn, 1), (13, .aload_n 0, 1), (14, .dup, 1), (15, .getfield 37, 3), (18, .iconst 1, 1), (19, .isub, 1), (20, .putfield 37, 3), (23, .iconst 0, 1), (24, .istore_n 1, 1), (25, .iload_n 1, 1), (26, .sipush 260, 3), (29, .if_icmp .ge 30, 3), (32, .aload_n 0, 1), (33, .getfield 7, 3), (36, .iload_n 1, 1), (37, .aload_n 0, 1), (38, .getfield 13, 3), (41, .sipush 260, 3), (44, .aload_n 0, 1), (45, .getfield 37, 3), (48, .imul, 1), (49, .iload_n 1, 1), (50, .iadd, 1), (51, .iaload, 1), (52, .iastore, 1), (53, .iinc 1 1, 3), (56, .goto (-31), 3), (59, .aload_n 0, 1), (60, .aload_n 0, 1), (61, .getfield 37, 3), (64, .invokevirtual 76, 3), (67, .ireturn, 1)]
theorem kX8_undo : iX8_undo.all (gdo cX8_undo) = true := by decide +kernel
def iX8_digest : List (Nat × Instr × Nat) := [(0, .aload_n 0, 1), (1, .iconst 0, 1), (2, .putfield 33, 3), (5, .ldc2_w 234, 3), (8, .aload_n 0, 1), (9, .getfield 210, 3), (12, .i2l, 1), (13, .ladd, 1), (14, .lstore_n 1, 1), (15, .iconst 0, 1), (16, .istore_n 3, 1), (17, .iload_n 3, 1), (18, .bipush 11, 2), (20, .if_icmp .ge 22, 3), (23, .ldc2_w 236, 3), (26, .lload_n 1, 1), (27, .lmul, 1), (28, .aload_n 0, 1), (29, .iload_n 3, 1), (30, .invokevirtual 188, 3), (33, .i2l, 1), (34, .ladd, 1), (35, .lstore_n 1, 1), (36, .iinc 3 1, 3), (39, .goto (-22), 3), (42, .iconst 0, 1), (43, .istore_n 3, 1), (44, .iload_n 3, 1), (45, .bipush 6, 2), (47, .aload_n 0, 1), (48, .getfield 7, 3), (51, .iconst 0, 1), (52, .iaload, 1), (53, .iconst 1, 1), (54, .isub, 1), (55, .imul, 1), (56, .if_icmp .ge 29, 3), (59, .ldc2_w 236, 3), (62, .lload_n 1, 1), (63, .lmul, 1), (64, .aload_n 0, 1), (65, .iload_n 3, 1), (66, .bipush 6, 2), (68, .idiv, 1), (69, .iload_n 3, 1), (70, .bipush 6, 2), (72, .irem, 1), (73, .invokevirtual 168, 3), (76, .i2l, 1), (77, .ladd, 1), (78, .lstore_n 1, 1), (79, .iinc 3 1, 3), (82, .goto (-38), 3), (85, .iconst 0, 1), (86, .istore_n 3, 1), (87, .iload_n 3, 1), (88, .bipush 7, 2), (90, .aload_n 0, 1), (91, .getfield 7, 3), (94, .iconst 0, 1)]
theorem kX8_digest : iX8_digest.all (gdo cX8_digest) = true := by decide +kernel
def iX8_digest_1 : List (Nat × Instr × Nat) := [(95, .iaload, 1), (96, .imul, 1), (97, .if_icmp .ge 29, 3), (100, .ldc2_w 236, 3), (103, .lload_n 1, 1), (104, .lmul, 1), (105, .aload_n 0, 1), (106, .iload_n 3, 1), (107, .bipush 7, 2), (109, .idiv, 1), (110, .iload_n 3, 1), (111, .bipush 7, 2), (113, .irem, 1), (114, .invokevirtual 171, 3), (117, .i2l, 1), (118, .ladd, 1), (119, .lstore_n 1, 1), (120, .iinc 3 1, 3), (123, .goto (-36), 3), (126, .iconst 0, 1), (127, .istore_n 3, 1), (128, .iload_n 3, 1), (129, .bipush 10, 2), (131, .aload_n 0, 1), (132, .getfield 7, 3), (135, .bipush 7, 2), (137, .iaload, 1), (138, .imul, 1), (139, .if_icmp .ge 29, 3), (142, .ldc2_w 236, 3), (145, .lload_n 1, 1), (146, .lmul, 1), (147, .aload_n 0, 1), (148, .iload_n 3, 1), (149, .bipush 10, 2), (151, .idiv, 1), (152, .iload_n 3, 1), (153, .bipush 10, 2), (155, .irem, 1), (156, .invokevirtual 98, 3), (159, .i2l, 1), (160, .ladd, 1), (161, .lstore_n 1, 1), (162, .iinc 3 1, 3), (165, .goto (-37), 3), (168, .iconst 0, 1), (169, .istore_n 3, 1), (170, .iload_n 3, 1), (171, .aload_n 0, 1), (172, .getfield 7, 3), (175, .bipush 8, 2), (177, .iaload, 1), (178, .if_icmp .ge 53, 3), (181, .iconst 0, 1), (182, .istore 4, 2), (184, .iload 4, 2), (186, .bipush 8, 2), (188, .if_icmp .ge 24, 3), (191, .ldc2_w 236, 3), (194, .lload_n 1, 1)]
theorem kX8_digest_1 : iX8_digest_1.all (gdo cX8_digest) = true := by decide +kernel
def iX8_digest_2 : List (Nat × Instr × Nat) := [(195, .lmul, 1), (196, .aload_n 0, 1), (197, .iload_n 3, 1), (198, .iload 4, 2), (200, .invokevirtual 92, 3), (203, .i2l, 1), (204, .ladd, 1), (205, .lstore_n 1, 1), (206, .iinc 4 1, 3), (209, .goto (-25), 3), (212, .ldc2_w 236, 3), (215, .lload_n 1, 1), (216, .lmul, 1), (217, .aload_n 0, 1), (218, .iload_n 3, 1), (219, .invokevirtual 131, 3), (222, .i2l, 1), (223, .ladd, 1), (224, .lstore_n 1, 1), (225, .iinc 3 1, 3), (228, .goto (-58), 3), (231, .ldc2_w 236, 3), (234, .ldc2_w 236, 3), (237, .lload_n 1, 1), (238, .lmul, 1), (239, .aload_n 0, 1), (240, .invokevirtual 205, 3), (243, .i2l, 1), (244, .ladd, 1), (245, .lmul, 1), (246, .aload_n 0, 1), (247, .getfield 37, 3), (250, .i2l, 1), (251, .ladd, 1), (252, .lreturn, 1)]
theorem kX8_digest_2 : iX8_digest_2.all (gdo cX8_digest) = true := by decide +kernel
def iL_setStage : List (Nat × Instr × Nat) := [(0, .aload 5, 2), (2, .iconst 0, 1), (3, .aload_n 0, 1), (4, .iload_n 1, 1), (5, .iload_n 2, 1), (6, .iload_n 3, 1), (7, .iload 4, 2), (9, .invokevirtual 7, 3), (12, .i2l, 1), (13, .lastore, 1), (14, .goto 11, 3), (17, .astore 6, 2), (19, .iconst 1, 1), (20, .ireturn, 1), (21, .astore 6, 2), (23, .iconst 2, 1), (24, .ireturn, 1), (25, .iconst 0, 1), (26, .ireturn, 1)]
theorem kL_setStage : iL_setStage.all (gdo cL_setStage) = true := by decide +kernel
def iL_setInn : List (Nat × Instr × Nat) := [(0, .aload 5, 2), (2, .iconst 0, 1), (3, .aload_n 0, 1), (4, .iload_n 1, 1), (5, .iload_n 2, 1), (6, .iload_n 3, 1), (7, .iload 4, 2), (9, .invokevirtual 17, 3), (12, .i2l, 1), (13, .lastore, 1), (14, .goto 11, 3), (17, .astore 6, 2), (19, .iconst 1, 1), (20, .ireturn, 1), (21, .astore 6, 2), (23, .iconst 2, 1), (24, .ireturn, 1), (25, .iconst 0, 1), (26, .ireturn, 1)]
theorem kL_setInn : iL_setInn.all (gdo cL_setInn) = true := by decide +kernel
def iL_addTeam : List (Nat × Instr × Nat) := [(0, .aload_n 3, 1), (1, .iconst 0, 1), (2, .aload_n 0, 1), (3, .iload_n 1, 1), (4, .iload_n 2, 1), (5, .invokevirtual 20, 3), (8, .i2l, 1), (9, .lastore, 1), (10, .goto 15, 3), (13, .astore 4, 2), (15, .iconst 1, 1), (16, .ireturn, 1), (17, .astore 4, 2), (19, .iconst 2, 1), (20, .ireturn, 1), (21, .astore 4, 2), (23, .iconst 3, 1), (24, .ireturn, 1), (25, .iconst 0, 1), (26, .ireturn, 1)]
theorem kL_addTeam : iL_addTeam.all (gdo cL_addTeam) = true := by decide +kernel
def iL_give : List (Nat × Instr × Nat) := [(0, .aload 4, 2), (2, .iconst 0, 1), (3, .aload_n 0, 1), (4, .iload_n 1, 1), (5, .iload_n 2, 1), (6, .iload_n 3, 1), (7, .invokevirtual 26, 3), (10, .i2l, 1), (11, .lastore, 1), (12, .goto 15, 3), (15, .astore 5, 2), (17, .iconst 1, 1), (18, .ireturn, 1), (19, .astore 5, 2), (21, .iconst 2, 1), (22, .ireturn, 1), (23, .astore 5, 2), (25, .iconst 3, 1), (26, .ireturn, 1), (27, .iconst 0, 1), (28, .ireturn, 1)]
theorem kL_give : iL_give.all (gdo cL_give) = true := by decide +kernel
def iL_pass : List (Nat × Instr × Nat) := [(0, .aload_n 2, 1), (1, .iconst 0, 1), (2, .aload_n 0, 1), (3, .iload_n 1, 1), (4, .invokevirtual 30, 3), (7, .i2l, 1), (8, .lastore, 1), (9, .goto 9, 3), (12, .astore_n 3, 1), (13, .iconst 1, 1), (14, .ireturn, 1), (15, .astore_n 3, 1), (16, .iconst 2, 1), (17, .ireturn, 1), (18, .iconst 0, 1), (19, .ireturn, 1)]
theorem kL_pass : iL_pass.all (gdo cL_pass) = true := by decide +kernel
def iL_stage : List (Nat × Instr × Nat) := [(0, .aload_n 3, 1), (1, .iconst 0, 1), (2, .aload_n 0, 1), (3, .iload_n 1, 1), (4, .iload_n 2, 1), (5, .invokevirtual 34, 3), (8, .i2l, 1), (9, .lastore, 1), (10, .goto 11, 3), (13, .astore 4, 2), (15, .iconst 1, 1), (16, .ireturn, 1), (17, .astore 4, 2), (19, .iconst 2, 1), (20, .ireturn, 1), (21, .iconst 0, 1), (22, .ireturn, 1)]
theorem kL_stage : iL_stage.all (gdo cL_stage) = true := by decide +kernel
def iL_inn : List (Nat × Instr × Nat) := [(0, .aload_n 3, 1), (1, .iconst 0, 1), (2, .aload_n 0, 1), (3, .iload_n 1, 1), (4, .iload_n 2, 1), (5, .invokevirtual 37, 3), (8, .i2l, 1), (9, .lastore, 1), (10, .goto 11, 3), (13, .astore 4, 2), (15, .iconst 1, 1), (16, .ireturn, 1), (17, .astore 4, 2), (19, .iconst 2, 1), (20, .ireturn, 1), (21, .iconst 0, 1), (22, .ireturn, 1)]
theorem kL_inn : iL_inn.all (gdo cL_inn) = true := by decide +kernel
def iL_team : List (Nat × Instr × Nat) := [(0, .aload_n 3, 1), (1, .iconst 0, 1), (2, .aload_n 0, 1), (3, .iload_n 1, 1), (4, .iload_n 2, 1), (5, .invokevirtual 40, 3), (8, .i2l, 1), (9, .lastore, 1), (10, .goto 11, 3), (13, .astore 4, 2), (15, .iconst 1, 1), (16, .ireturn, 1), (17, .astore 4, 2), (19, .iconst 2, 1), (20, .ireturn, 1), (21, .iconst 0, 1), (22, .ireturn, 1)]
theorem kL_team : iL_team.all (gdo cL_team) = true := by decide +kernel
def iL_letter : List (Nat × Instr × Nat) := [(0, .aload_n 3, 1), (1, .iconst 0, 1), (2, .aload_n 0, 1), (3, .iload_n 1, 1), (4, .iload_n 2, 1), (5, .invokevirtual 43, 3), (8, .i2l, 1), (9, .lastore, 1), (10, .goto 11, 3), (13, .astore 4, 2), (15, .iconst 1, 1), (16, .ireturn, 1), (17, .astore 4, 2), (19, .iconst 2, 1), (20, .ireturn, 1), (21, .iconst 0, 1), (22, .ireturn, 1)]
theorem kL_letter : iL_letter.all (gdo cL_letter) = true := by decide +kernel
def iL_value : List (Nat × Instr × Nat) := [(0, .aload_n 2, 1), (1, .iconst 0, 1), (2, .aload_n 0, 1), (3, .iload_n 1, 1), (4, .invokevirtual 46, 3), (7, .i2l, 1), (8, .lastore, 1), (9, .goto 6, 3), (12, .astore_n 3, 1), (13, .iconst 1, 1), (14, .ireturn, 1), (15, .iconst 0, 1), (16, .ireturn, 1)]
theorem kL_value : iL_value.all (gdo cL_value) = true := by decide +kernel
def iL_why : List (Nat × Instr × Nat) := [(0, .aload_n 2, 1), (1, .iconst 0, 1), (2, .aload_n 0, 1), (3, .iload_n 1, 1), (4, .invokevirtual 49, 3), (7, .i2l, 1), (8, .lastore, 1), (9, .goto 6, 3), (12, .astore_n 3, 1), (13, .iconst 1, 1), (14, .ireturn, 1), (15, .iconst 0, 1), (16, .ireturn, 1)]
theorem kL_why : iL_why.all (gdo cL_why) = true := by decide +kernel
def iL_hoursTo : List (Nat × Instr × Nat) := [(0, .aload_n 2, 1), (1, .iconst 0, 1), (2, .aload_n 0, 1), (3, .iload_n 1, 1), (4, .invokevirtual 52, 3), (7, .i2l, 1), (8, .lastore, 1), (9, .goto 6, 3), (12, .astore_n 3, 1), (13, .iconst 1, 1), (14, .ireturn, 1), (15, .iconst 0, 1), (16, .ireturn, 1)]
theorem kL_hoursTo : iL_hoursTo.all (gdo cL_hoursTo) = true := by decide +kernel
def iL_way : List (Nat × Instr × Nat) := [(0, .aload_n 3, 1), (1, .iconst 0, 1), (2, .aload_n 0, 1), (3, .iload_n 1, 1), (4, .iload_n 2, 1), (5, .invokevirtual 55, 3), (8, .i2l, 1), (9, .lastore, 1), (10, .goto 7, 3), (13, .astore 4, 2), (15, .iconst 1, 1), (16, .ireturn, 1), (17, .iconst 0, 1), (18, .ireturn, 1)]
theorem kL_way : iL_way.all (gdo cL_way) = true := by decide +kernel
def iL_effortHome : List (Nat × Instr × Nat) := [(0, .aload_n 2, 1), (1, .iconst 0, 1), (2, .aload_n 0, 1), (3, .iload_n 1, 1), (4, .invokevirtual 58, 3), (7, .i2l, 1), (8, .lastore, 1), (9, .goto 6, 3), (12, .astore_n 3, 1), (13, .iconst 1, 1), (14, .ireturn, 1), (15, .iconst 0, 1), (16, .ireturn, 1)]
theorem kL_effortHome : iL_effortHome.all (gdo cL_effortHome) = true := by decide +kernel
def iL_append : List (Nat × Instr × Nat) := [(0, .aload_n 2, 1), (1, .iconst 0, 1), (2, .aload_n 0, 1), (3, .iload_n 1, 1), (4, .invokevirtual 61, 3), (7, .i2l, 1), (8, .lastore, 1), (9, .goto 9, 3), (12, .astore_n 3, 1), (13, .iconst 1, 1), (14, .ireturn, 1), (15, .astore_n 3, 1), (16, .iconst 2, 1), (17, .ireturn, 1), (18, .iconst 0, 1), (19, .ireturn, 1)]
theorem kL_append : iL_append.all (gdo cL_append) = true := by decide +kernel
def iL_undo : List (Nat × Instr × Nat) := [(0, .aload_n 1, 1), (1, .iconst 0, 1), (2, .aload_n 0, 1), (3, .invokevirtual 64, 3), (6, .i2l, 1), (7, .lastore, 1), (8, .goto 6, 3), (11, .astore_n 2, 1), (12, .iconst 1, 1), (13, .ireturn, 1), (14, .iconst 0, 1), (15, .ireturn, 1)]
theorem kL_undo : iL_undo.all (gdo cL_undo) = true := by decide +kernel
def iL_law : List (Nat × Instr × Nat) := [(0, .new 8, 3), (3, .dup, 1), (4, .invokespecial 68, 3), (7, .astore_n 1, 1), (8, .new 69, 3), (11, .dup, 1), (12, .invokespecial 71, 3), (15, .astore_n 2, 1), (16, .iconst 1, 1), (17, .newarray .long, 2), (19, .astore_n 3, 1), (20, .iconst 0, 1), (21, .istore 4, 2), (23, .iload 4, 2), (25, .aload_n 0, 1), (26, .arraylength, 1), (27, .iconst 5, 1), (28, .isub, 1), (29, .if_icmp .gt 1341, 3), (32, .aload_n 0, 1), (33, .iload 4, 2), (35, .iaload, 1), (36, .bipush 31, 2), (38, .iand, 1), (39, .tableswitch 1325 0 22 #[105, 213, 321, 389, 485, 498, 554, 622, 690, 758, 826, 882, 938, 994, 1007, 1020, 1088, 1144, 1185, 1241, 1254, 1267, 1311], 105), (144, .aload_n 1, 1), (145, .aload_n 0, 1), (146, .iload 4, 2), (148, .iconst 1, 1), (149, .iadd, 1), (150, .iaload, 1), (151, .aload_n 0, 1), (152, .iload 4, 2), (154, .iconst 2, 1), (155, .iadd, 1), (156, .iaload, 1), (157, .aload_n 0, 1), (158, .iload 4, 2), (160, .iconst 3, 1), (161, .iadd, 1), (162, .iaload, 1), (163, .aload_n 0, 1), (164, .iload 4, 2), (166, .iconst 4, 1), (167, .iadd, 1), (168, .iaload, 1), (169, .ifCond .eq 7, 3), (172, .iconst 1, 1), (173, .goto 4, 3), (176, .iconst 0, 1), (177, .aload_n 3, 1), (178, .invokestatic 72, 3), (181, .istore 5, 2), (183, .aload_n 2, 1), (184, .aload_n 0, 1), (185, .iload 4, 2), (187, .iconst 1, 1), (188, .iadd, 1), (189, .iaload, 1), (190, .aload_n 0, 1)]
theorem kL_law : iL_law.all (gdo cL_law) = true := by decide +kernel
def iL_law_1 : List (Nat × Instr × Nat) := [(191, .iload 4, 2), (193, .iconst 2, 1), (194, .iadd, 1), (195, .iaload, 1), (196, .aload_n 0, 1), (197, .iload 4, 2), (199, .iconst 3, 1), (200, .iadd, 1), (201, .iaload, 1), (202, .aload_n 0, 1), (203, .iload 4, 2), (205, .iconst 4, 1), (206, .iadd, 1), (207, .iaload, 1), (208, .ifCond .eq 7, 3), (211, .iconst 1, 1), (212, .goto 4, 3), (215, .iconst 0, 1), (216, .invokevirtual 77, 3), (219, .istore 6, 2), (221, .aload_n 2, 1), (222, .invokevirtual 78, 3), (225, .iload 5, 2), (227, .if_icmp .eq 5, 3), (230, .iconst 0, 1), (231, .ireturn, 1), (232, .iload 5, 2), (234, .ifCond .ne 15, 3), (237, .aload_n 3, 1), (238, .iconst 0, 1), (239, .laload, 1), (240, .iload 6, 2), (242, .i2l, 1), (243, .lcmp, 1), (244, .ifCond .eq 5, 3), (247, .iconst 0, 1), (248, .ireturn, 1), (249, .goto 1115, 3), (252, .aload_n 1, 1), (253, .aload_n 0, 1), (254, .iload 4, 2), (256, .iconst 1, 1), (257, .iadd, 1), (258, .iaload, 1), (259, .aload_n 0, 1), (260, .iload 4, 2), (262, .iconst 2, 1), (263, .iadd, 1), (264, .iaload, 1), (265, .aload_n 0, 1), (266, .iload 4, 2), (268, .iconst 3, 1), (269, .iadd, 1), (270, .iaload, 1), (271, .aload_n 0, 1), (272, .iload 4, 2), (274, .iconst 4, 1), (275, .iadd, 1), (276, .iaload, 1), (277, .ifCond .eq 7, 3)]
theorem kL_law_1 : iL_law_1.all (gdo cL_law) = true := by decide +kernel
def iL_law_2 : List (Nat × Instr × Nat) := [(280, .iconst 1, 1), (281, .goto 4, 3), (284, .iconst 0, 1), (285, .aload_n 3, 1), (286, .invokestatic 81, 3), (289, .istore 5, 2), (291, .aload_n 2, 1), (292, .aload_n 0, 1), (293, .iload 4, 2), (295, .iconst 1, 1), (296, .iadd, 1), (297, .iaload, 1), (298, .aload_n 0, 1), (299, .iload 4, 2), (301, .iconst 2, 1), (302, .iadd, 1), (303, .iaload, 1), (304, .aload_n 0, 1), (305, .iload 4, 2), (307, .iconst 3, 1), (308, .iadd, 1), (309, .iaload, 1), (310, .aload_n 0, 1), (311, .iload 4, 2), (313, .iconst 4, 1), (314, .iadd, 1), (315, .iaload, 1), (316, .ifCond .eq 7, 3), (319, .iconst 1, 1), (320, .goto 4, 3), (323, .iconst 0, 1), (324, .invokevirtual 83, 3), (327, .istore 6, 2), (329, .aload_n 2, 1), (330, .invokevirtual 78, 3), (333, .iload 5, 2), (335, .if_icmp .eq 5, 3), (338, .iconst 0, 1), (339, .ireturn, 1), (340, .iload 5, 2), (342, .ifCond .ne 15, 3), (345, .aload_n 3, 1), (346, .iconst 0, 1), (347, .laload, 1), (348, .iload 6, 2), (350, .i2l, 1), (351, .lcmp, 1), (352, .ifCond .eq 5, 3), (355, .iconst 0, 1), (356, .ireturn, 1), (357, .goto 1007, 3), (360, .aload_n 1, 1), (361, .aload_n 0, 1), (362, .iload 4, 2), (364, .iconst 1, 1), (365, .iadd, 1), (366, .iaload, 1), (367, .aload_n 0, 1), (368, .iload 4, 2), (370, .iconst 2, 1)]
theorem kL_law_2 : iL_law_2.all (gdo cL_law) = true := by decide +kernel
def iL_law_3 : List (Nat × Instr × Nat) := [(371, .iadd, 1), (372, .iaload, 1), (373, .aload_n 3, 1), (374, .invokestatic 84, 3), (377, .istore 5, 2), (379, .aload_n 2, 1), (380, .aload_n 0, 1), (381, .iload 4, 2), (383, .iconst 1, 1), (384, .iadd, 1), (385, .iaload, 1), (386, .aload_n 0, 1), (387, .iload 4, 2), (389, .iconst 2, 1), (390, .iadd, 1), (391, .iaload, 1), (392, .invokevirtual 87, 3), (395, .istore 6, 2), (397, .aload_n 2, 1), (398, .invokevirtual 78, 3), (401, .iload 5, 2), (403, .if_icmp .eq 5, 3), (406, .iconst 0, 1), (407, .ireturn, 1), (408, .iload 5, 2), (410, .ifCond .ne 15, 3), (413, .aload_n 3, 1), (414, .iconst 0, 1), (415, .laload, 1), (416, .iload 6, 2), (418, .i2l, 1), (419, .lcmp, 1), (420, .ifCond .eq 5, 3), (423, .iconst 0, 1), (424, .ireturn, 1), (425, .goto 939, 3), (428, .aload_n 1, 1), (429, .aload_n 0, 1), (430, .iload 4, 2), (432, .iconst 1, 1), (433, .iadd, 1), (434, .iaload, 1), (435, .aload_n 0, 1), (436, .iload 4, 2), (438, .iconst 2, 1), (439, .iadd, 1), (440, .iaload, 1), (441, .aload_n 0, 1), (442, .iload 4, 2), (444, .iconst 3, 1), (445, .iadd, 1), (446, .iaload, 1), (447, .ifCond .eq 7, 3), (450, .iconst 1, 1), (451, .goto 4, 3), (454, .iconst 0, 1), (455, .aload_n 3, 1), (456, .invokestatic 88, 3), (459, .istore 5, 2), (461, .aload_n 2, 1)]
theorem kL_law_3 : iL_law_3.all (gdo cL_law) = true := by decide +kernel
def iL_law_4 : List (Nat × Instr × Nat) := [(462, .aload_n 0, 1), (463, .iload 4, 2), (465, .iconst 1, 1), (466, .iadd, 1), (467, .iaload, 1), (468, .aload_n 0, 1), (469, .iload 4, 2), (471, .iconst 2, 1), (472, .iadd, 1), (473, .iaload, 1), (474, .aload_n 0, 1), (475, .iload 4, 2), (477, .iconst 3, 1), (478, .iadd, 1), (479, .iaload, 1), (480, .ifCond .eq 7, 3), (483, .iconst 1, 1), (484, .goto 4, 3), (487, .iconst 0, 1), (488, .invokevirtual 91, 3), (491, .istore 6, 2), (493, .aload_n 2, 1), (494, .invokevirtual 78, 3), (497, .iload 5, 2), (499, .if_icmp .eq 5, 3), (502, .iconst 0, 1), (503, .ireturn, 1), (504, .iload 5, 2), (506, .ifCond .ne 15, 3), (509, .aload_n 3, 1), (510, .iconst 0, 1), (511, .laload, 1), (512, .iload 6, 2), (514, .i2l, 1), (515, .lcmp, 1), (516, .ifCond .eq 5, 3), (519, .iconst 0, 1), (520, .ireturn, 1), (521, .goto 843, 3), (524, .aload_n 1, 1), (525, .invokevirtual 92, 3), (528, .aload_n 2, 1), (529, .invokevirtual 95, 3), (532, .if_icmp .eq 832, 3), (535, .iconst 0, 1), (536, .ireturn, 1), (537, .aload_n 1, 1), (538, .aload_n 0, 1), (539, .iload 4, 2), (541, .iconst 1, 1), (542, .iadd, 1), (543, .iaload, 1), (544, .aload_n 3, 1), (545, .invokestatic 96, 3), (548, .istore 5, 2), (550, .aload_n 2, 1), (551, .aload_n 0, 1), (552, .iload 4, 2), (554, .iconst 1, 1), (555, .iadd, 1)]
theorem kL_law_4 : iL_law_4.all (gdo cL_law) = true := by decide +kernel
def iL_law_5 : List (Nat × Instr × Nat) := [(556, .iaload, 1), (557, .invokevirtual 99, 3), (560, .istore 6, 2), (562, .aload_n 2, 1), (563, .invokevirtual 78, 3), (566, .iload 5, 2), (568, .if_icmp .eq 5, 3), (571, .iconst 0, 1), (572, .ireturn, 1), (573, .iload 5, 2), (575, .ifCond .ne 15, 3), (578, .aload_n 3, 1), (579, .iconst 0, 1), (580, .laload, 1), (581, .iload 6, 2), (583, .i2l, 1), (584, .lcmp, 1), (585, .ifCond .eq 5, 3), (588, .iconst 0, 1), (589, .ireturn, 1), (590, .goto 774, 3), (593, .aload_n 1, 1), (594, .aload_n 0, 1), (595, .iload 4, 2), (597, .iconst 1, 1), (598, .iadd, 1), (599, .iaload, 1), (600, .aload_n 0, 1), (601, .iload 4, 2), (603, .iconst 2, 1), (604, .iadd, 1), (605, .iaload, 1), (606, .aload_n 3, 1), (607, .invokestatic 100, 3), (610, .istore 5, 2), (612, .aload_n 2, 1), (613, .aload_n 0, 1), (614, .iload 4, 2), (616, .iconst 1, 1), (617, .iadd, 1), (618, .iaload, 1), (619, .aload_n 0, 1), (620, .iload 4, 2), (622, .iconst 2, 1), (623, .iadd, 1), (624, .iaload, 1), (625, .invokevirtual 102, 3), (628, .istore 6, 2), (630, .aload_n 2, 1), (631, .invokevirtual 78, 3), (634, .iload 5, 2), (636, .if_icmp .eq 5, 3), (639, .iconst 0, 1), (640, .ireturn, 1), (641, .iload 5, 2), (643, .ifCond .ne 15, 3), (646, .aload_n 3, 1), (647, .iconst 0, 1), (648, .laload, 1), (649, .iload 6, 2)]
theorem kL_law_5 : iL_law_5.all (gdo cL_law) = true := by decide +kernel
def iL_law_6 : List (Nat × Instr × Nat) := [(651, .i2l, 1), (652, .lcmp, 1), (653, .ifCond .eq 5, 3), (656, .iconst 0, 1), (657, .ireturn, 1), (658, .goto 706, 3), (661, .aload_n 1, 1), (662, .aload_n 0, 1), (663, .iload 4, 2), (665, .iconst 1, 1), (666, .iadd, 1), (667, .iaload, 1), (668, .aload_n 0, 1), (669, .iload 4, 2), (671, .iconst 2, 1), (672, .iadd, 1), (673, .iaload, 1), (674, .aload_n 3, 1), (675, .invokestatic 103, 3), (678, .istore 5, 2), (680, .aload_n 2, 1), (681, .aload_n 0, 1), (682, .iload 4, 2), (684, .iconst 1, 1), (685, .iadd, 1), (686, .iaload, 1), (687, .aload_n 0, 1), (688, .iload 4, 2), (690, .iconst 2, 1), (691, .iadd, 1), (692, .iaload, 1), (693, .invokevirtual 105, 3), (696, .istore 6, 2), (698, .aload_n 2, 1), (699, .invokevirtual 78, 3), (702, .iload 5, 2), (704, .if_icmp .eq 5, 3), (707, .iconst 0, 1), (708, .ireturn, 1), (709, .iload 5, 2), (711, .ifCond .ne 15, 3), (714, .aload_n 3, 1), (715, .iconst 0, 1), (716, .laload, 1), (717, .iload 6, 2), (719, .i2l, 1), (720, .lcmp, 1), (721, .ifCond .eq 5, 3), (724, .iconst 0, 1), (725, .ireturn, 1), (726, .goto 638, 3), (729, .aload_n 1, 1), (730, .aload_n 0, 1), (731, .iload 4, 2), (733, .iconst 1, 1), (734, .iadd, 1), (735, .iaload, 1), (736, .aload_n 0, 1), (737, .iload 4, 2), (739, .iconst 2, 1)]
theorem kL_law_6 : iL_law_6.all (gdo cL_law) = true := by decide +kernel
def iL_law_7 : List (Nat × Instr × Nat) := [(740, .iadd, 1), (741, .iaload, 1), (742, .aload_n 3, 1), (743, .invokestatic 106, 3), (746, .istore 5, 2), (748, .aload_n 2, 1), (749, .aload_n 0, 1), (750, .iload 4, 2), (752, .iconst 1, 1), (753, .iadd, 1), (754, .iaload, 1), (755, .aload_n 0, 1), (756, .iload 4, 2), (758, .iconst 2, 1), (759, .iadd, 1), (760, .iaload, 1), (761, .invokevirtual 108, 3), (764, .istore 6, 2), (766, .aload_n 2, 1), (767, .invokevirtual 78, 3), (770, .iload 5, 2), (772, .if_icmp .eq 5, 3), (775, .iconst 0, 1), (776, .ireturn, 1), (777, .iload 5, 2), (779, .ifCond .ne 15, 3), (782, .aload_n 3, 1), (783, .iconst 0, 1), (784, .laload, 1), (785, .iload 6, 2), (787, .i2l, 1), (788, .lcmp, 1), (789, .ifCond .eq 5, 3), (792, .iconst 0, 1), (793, .ireturn, 1), (794, .goto 570, 3), (797, .aload_n 1, 1), (798, .aload_n 0, 1), (799, .iload 4, 2), (801, .iconst 1, 1), (802, .iadd, 1), (803, .iaload, 1), (804, .aload_n 0, 1), (805, .iload 4, 2), (807, .iconst 2, 1), (808, .iadd, 1), (809, .iaload, 1), (810, .aload_n 3, 1), (811, .invokestatic 109, 3), (814, .istore 5, 2), (816, .aload_n 2, 1), (817, .aload_n 0, 1), (818, .iload 4, 2), (820, .iconst 1, 1), (821, .iadd, 1), (822, .iaload, 1), (823, .aload_n 0, 1), (824, .iload 4, 2), (826, .iconst 2, 1), (827, .iadd, 1)]
theorem kL_law_7 : iL_law_7.all (gdo cL_law) = true := by decide +kernel
def iL_law_8 : List (Nat × Instr × Nat) := [(828, .iaload, 1), (829, .invokevirtual 111, 3), (832, .istore 6, 2), (834, .aload_n 2, 1), (835, .invokevirtual 78, 3), (838, .iload 5, 2), (840, .if_icmp .eq 5, 3), (843, .iconst 0, 1), (844, .ireturn, 1), (845, .iload 5, 2), (847, .ifCond .ne 15, 3), (850, .aload_n 3, 1), (851, .iconst 0, 1), (852, .laload, 1), (853, .iload 6, 2), (855, .i2l, 1), (856, .lcmp, 1), (857, .ifCond .eq 5, 3), (860, .iconst 0, 1), (861, .ireturn, 1), (862, .goto 502, 3), (865, .aload_n 1, 1), (866, .aload_n 0, 1), (867, .iload 4, 2), (869, .iconst 1, 1), (870, .iadd, 1), (871, .iaload, 1), (872, .aload_n 3, 1), (873, .invokestatic 112, 3), (876, .istore 5, 2), (878, .aload_n 2, 1), (879, .aload_n 0, 1), (880, .iload 4, 2), (882, .iconst 1, 1), (883, .iadd, 1), (884, .iaload, 1), (885, .invokevirtual 114, 3), (888, .istore 6, 2), (890, .aload_n 2, 1), (891, .invokevirtual 78, 3), (894, .iload 5, 2), (896, .if_icmp .eq 5, 3), (899, .iconst 0, 1), (900, .ireturn, 1), (901, .iload 5, 2), (903, .ifCond .ne 15, 3), (906, .aload_n 3, 1), (907, .iconst 0, 1), (908, .laload, 1), (909, .iload 6, 2), (911, .i2l, 1), (912, .lcmp, 1), (913, .ifCond .eq 5, 3), (916, .iconst 0, 1), (917, .ireturn, 1), (918, .goto 446, 3), (921, .aload_n 1, 1), (922, .aload_n 0, 1), (923, .iload 4, 2), (925, .iconst 1, 1)]
theorem kL_law_8 : iL_law_8.all (gdo cL_law) = true := by decide +kernel
def iL_law_9 : List (Nat × Instr × Nat) := [(926, .iadd, 1), (927, .iaload, 1), (928, .aload_n 3, 1), (929, .invokestatic 115, 3), (932, .istore 5, 2), (934, .aload_n 2, 1), (935, .aload_n 0, 1), (936, .iload 4, 2), (938, .iconst 1, 1), (939, .iadd, 1), (940, .iaload, 1), (941, .invokevirtual 117, 3), (944, .istore 6, 2), (946, .aload_n 2, 1), (947, .invokevirtual 78, 3), (950, .iload 5, 2), (952, .if_icmp .eq 5, 3), (955, .iconst 0, 1), (956, .ireturn, 1), (957, .iload 5, 2), (959, .ifCond .ne 15, 3), (962, .aload_n 3, 1), (963, .iconst 0, 1), (964, .laload, 1), (965, .iload 6, 2), (967, .i2l, 1), (968, .lcmp, 1), (969, .ifCond .eq 5, 3), (972, .iconst 0, 1), (973, .ireturn, 1), (974, .goto 390, 3), (977, .aload_n 1, 1), (978, .aload_n 0, 1), (979, .iload 4, 2), (981, .iconst 1, 1), (982, .iadd, 1), (983, .iaload, 1), (984, .aload_n 3, 1), (985, .invokestatic 118, 3), (988, .istore 5, 2), (990, .aload_n 2, 1), (991, .aload_n 0, 1), (992, .iload 4, 2), (994, .iconst 1, 1), (995, .iadd, 1), (996, .iaload, 1), (997, .invokevirtual 120, 3), (1000, .istore 6, 2), (1002, .aload_n 2, 1), (1003, .invokevirtual 78, 3), (1006, .iload 5, 2), (1008, .if_icmp .eq 5, 3), (1011, .iconst 0, 1), (1012, .ireturn, 1), (1013, .iload 5, 2), (1015, .ifCond .ne 15, 3), (1018, .aload_n 3, 1), (1019, .iconst 0, 1), (1020, .laload, 1), (1021, .iload 6, 2)]
theorem kL_law_9 : iL_law_9.all (gdo cL_law) = true := by decide +kernel
def iL_law_10 : List (Nat × Instr × Nat) := [(1023, .i2l, 1), (1024, .lcmp, 1), (1025, .ifCond .eq 5, 3), (1028, .iconst 0, 1), (1029, .ireturn, 1), (1030, .goto 334, 3), (1033, .aload_n 1, 1), (1034, .invokevirtual 121, 3), (1037, .aload_n 2, 1), (1038, .invokevirtual 124, 3), (1041, .if_icmp .eq 323, 3), (1044, .iconst 0, 1), (1045, .ireturn, 1), (1046, .aload_n 1, 1), (1047, .invokevirtual 125, 3), (1050, .aload_n 2, 1), (1051, .invokevirtual 128, 3), (1054, .if_icmp .eq 310, 3), (1057, .iconst 0, 1), (1058, .ireturn, 1), (1059, .aload_n 1, 1), (1060, .aload_n 0, 1), (1061, .iload 4, 2), (1063, .iconst 1, 1), (1064, .iadd, 1), (1065, .iaload, 1), (1066, .aload_n 0, 1), (1067, .iload 4, 2), (1069, .iconst 2, 1), (1070, .iadd, 1), (1071, .iaload, 1), (1072, .aload_n 3, 1), (1073, .invokestatic 129, 3), (1076, .istore 5, 2), (1078, .aload_n 2, 1), (1079, .aload_n 0, 1), (1080, .iload 4, 2), (1082, .iconst 1, 1), (1083, .iadd, 1), (1084, .iaload, 1), (1085, .aload_n 0, 1), (1086, .iload 4, 2), (1088, .iconst 2, 1), (1089, .iadd, 1), (1090, .iaload, 1), (1091, .invokevirtual 131, 3), (1094, .istore 6, 2), (1096, .aload_n 2, 1), (1097, .invokevirtual 78, 3), (1100, .iload 5, 2), (1102, .if_icmp .eq 5, 3), (1105, .iconst 0, 1), (1106, .ireturn, 1), (1107, .iload 5, 2), (1109, .ifCond .ne 15, 3), (1112, .aload_n 3, 1), (1113, .iconst 0, 1), (1114, .laload, 1), (1115, .iload 6, 2), (1117, .i2l, 1)]
theorem kL_law_10 : iL_law_10.all (gdo cL_law) = true := by decide +kernel
def iL_law_11 : List (Nat × Instr × Nat) := [(1118, .lcmp, 1), (1119, .ifCond .eq 5, 3), (1122, .iconst 0, 1), (1123, .ireturn, 1), (1124, .goto 240, 3), (1127, .aload_n 1, 1), (1128, .aload_n 0, 1), (1129, .iload 4, 2), (1131, .iconst 1, 1), (1132, .iadd, 1), (1133, .iaload, 1), (1134, .aload_n 3, 1), (1135, .invokestatic 132, 3), (1138, .istore 5, 2), (1140, .aload_n 2, 1), (1141, .aload_n 0, 1), (1142, .iload 4, 2), (1144, .iconst 1, 1), (1145, .iadd, 1), (1146, .iaload, 1), (1147, .invokevirtual 134, 3), (1150, .istore 6, 2), (1152, .aload_n 2, 1), (1153, .invokevirtual 78, 3), (1156, .iload 5, 2), (1158, .if_icmp .eq 5, 3), (1161, .iconst 0, 1), (1162, .ireturn, 1), (1163, .iload 5, 2), (1165, .ifCond .ne 15, 3), (1168, .aload_n 3, 1), (1169, .iconst 0, 1), (1170, .laload, 1), (1171, .iload 6, 2), (1173, .i2l, 1), (1174, .lcmp, 1), (1175, .ifCond .eq 5, 3), (1178, .iconst 0, 1), (1179, .ireturn, 1), (1180, .goto 184, 3), (1183, .aload_n 1, 1), (1184, .invokevirtual 135, 3), (1187, .dstore 5, 2), (1189, .aload_n 2, 1), (1190, .invokevirtual 139, 3), (1193, .dstore 7, 2), (1195, .dload 5, 2), (1197, .dload 7, 2), (1199, .dcmp .l, 1), (1200, .ifCond .eq 21, 3), (1203, .dload 5, 2), (1205, .dload 5, 2), (1207, .dcmp .l, 1), (1208, .ifCond .eq 11, 3), (1211, .dload 7, 2), (1213, .dload 7, 2), (1215, .dcmp .l, 1), (1216, .ifCond .ne 5, 3), (1219, .iconst 0, 1), (1220, .ireturn, 1)]
theorem kL_law_11 : iL_law_11.all (gdo cL_law) = true := by decide +kernel
def iL_law_12 : List (Nat × Instr × Nat) := [(1221, .goto 143, 3), (1224, .aload_n 1, 1), (1225, .aload_n 0, 1), (1226, .iload 4, 2), (1228, .iconst 1, 1), (1229, .iadd, 1), (1230, .iaload, 1), (1231, .aload_n 3, 1), (1232, .invokestatic 140, 3), (1235, .istore 5, 2), (1237, .aload_n 2, 1), (1238, .aload_n 0, 1), (1239, .iload 4, 2), (1241, .iconst 1, 1), (1242, .iadd, 1), (1243, .iaload, 1), (1244, .invokevirtual 142, 3), (1247, .istore 6, 2), (1249, .aload_n 2, 1), (1250, .invokevirtual 78, 3), (1253, .iload 5, 2), (1255, .if_icmp .eq 5, 3), (1258, .iconst 0, 1), (1259, .ireturn, 1), (1260, .iload 5, 2), (1262, .ifCond .ne 15, 3), (1265, .aload_n 3, 1), (1266, .iconst 0, 1), (1267, .laload, 1), (1268, .iload 6, 2), (1270, .i2l, 1), (1271, .lcmp, 1), (1272, .ifCond .eq 5, 3), (1275, .iconst 0, 1), (1276, .ireturn, 1), (1277, .goto 87, 3), (1280, .aload_n 1, 1), (1281, .invokevirtual 143, 3), (1284, .aload_n 2, 1), (1285, .invokevirtual 146, 3), (1288, .if_icmp .eq 76, 3), (1291, .iconst 0, 1), (1292, .ireturn, 1), (1293, .aload_n 1, 1), (1294, .invokevirtual 147, 3), (1297, .aload_n 2, 1), (1298, .invokevirtual 150, 3), (1301, .if_icmp .eq 63, 3), (1304, .iconst 0, 1), (1305, .ireturn, 1), (1306, .aload_n 1, 1), (1307, .aload_n 3, 1), (1308, .invokestatic 151, 3), (1311, .istore 5, 2), (1313, .aload_n 2, 1), (1314, .invokevirtual 154, 3), (1317, .istore 6, 2), (1319, .aload_n 2, 1), (1320, .invokevirtual 78, 3), (1323, .iload 5, 2)]
theorem kL_law_12 : iL_law_12.all (gdo cL_law) = true := by decide +kernel
def iL_law_13 : List (Nat × Instr × Nat) := [(1325, .if_icmp .eq 5, 3), (1328, .iconst 0, 1), (1329, .ireturn, 1), (1330, .iload 5, 2), (1332, .ifCond .ne 15, 3), (1335, .aload_n 3, 1), (1336, .iconst 0, 1), (1337, .laload, 1), (1338, .iload 6, 2), (1340, .i2l, 1), (1341, .lcmp, 1), (1342, .ifCond .eq 5, 3), (1345, .iconst 0, 1), (1346, .ireturn, 1), (1347, .goto 17, 3), (1350, .aload_n 1, 1), (1351, .invokevirtual 155, 3), (1354, .aload_n 2, 1), (1355, .invokevirtual 159, 3), (1358, .lcmp, 1), (1359, .ifCond .eq 5, 3), (1362, .iconst 0, 1), (1363, .ireturn, 1), (1364, .iinc 4 5, 3), (1367, .goto (-1344), 3), (1370, .iconst 1, 1), (1371, .ireturn, 1)]
theorem kL_law_13 : iL_law_13.all (gdo cL_law) = true := by decide +kernel
end
section
/-! THE WORLD: every object and array of the run, at fixed addresses; all that they hold is one function of kind, number and place -/
abbrev GS : Type := Nat → Int → Int → Int
def gup (G : GS) (k : Nat) (o f v : Int) : GS := fun k1 o1 f1 => if k1 = k ∧ o1 = o ∧ f1 = f then v else G k1 o1 f1
abbrev vI (z : Int) : Value := .int (Int32.ofInt z)
abbrev vJ (z : Int) : Value := .long (Int64.ofInt z)
abbrev inR (z : Int) : Prop := -2147483648 ≤ z ∧ z ≤ 2147483647
/-- the classes' numbers and slots, the array classes by kind, the addresses, the cells that may change -/
abbrev gEnv : Type := va_G × (Nat → ClassId) × (Nat → Int → Nat) × (Nat → Prop)
abbrev eD (E : gEnv) : va_G := E.1
abbrev eC (E : gEnv) : Nat → ClassId := E.2.1
abbrev eA (E : gEnv) : Nat → Int → Nat := E.2.2.1
abbrev eF (E : gEnv) : Nat → Prop := E.2.2.2
/-- how many of each kind -/
def gCt (k : Nat) : Nat := match k with
  | 1 => 48
  | 2 => 72
  | 3 => 6
  | 5 => 42
  | 6 => 60
  | 10 => 5
  | 14 => 6
  | 15 => 6
  | 16 => 6
  | 17 => 6
  | _ => 1
/-- how many fields -/
def gN (k : Nat) : Nat := match k with
  | 0 => 2
  | 1 => 3
  | 2 => 8
  | 3 => 13
  | 4 => 3
  | 5 => 3
  | 6 => 12
  | 7 => 4
  | _ => 11
def gLen (o : Int) : Nat := if o = 0 then 260 else if o = 1 then 1040 else if o = 2 then 260 else if o = 3 then 90 else 14
/-- the fields that hold a reference, and to what -/
def gRef (k : Nat) (o : Int) (f : Nat) : Option (Nat × Int) := match k, f with
  | 0, 0 => some (12, 0)
  | 3, 0 => some (14, o)
  | 3, 1 => some (15, o)
  | 3, 2 => some (16, o)
  | 3, 3 => some (17, o)
  | 4, 0 => some (9, 0)
  | 7, 0 => some (3, 0)
  | 7, 1 => some (3, 1)
  | 7, 2 => some (0, 0)
  | 7, 3 => some (4, 0)
  | 8, 0 => some (10, 0)
  | 8, 1 => some (10, 1)
  | 8, 2 => some (10, 2)
  | 8, 5 => some (11, 0)
  | 8, 6 => some (10, 3)
  | 8, 9 => some (10, 4)
  | _, _ => none
def gFld (E : gEnv) (G : GS) (k : Nat) (o : Int) (f : Nat) : Value := match gRef k o f with
  | some t => .ref (eA E t.1 t.2)
  | none => vI (G k o f)
abbrev gRs (f : Nat → Option Nat) : (Nat → Int32) ⊕ (Nat → Int64) ⊕ (Nat → UInt32) ⊕ (Nat → UInt64) ⊕ (Nat → Option Nat) := .inr (.inr (.inr (.inr f)))
def gCell (E : gEnv) (G : GS) (k : Nat) (o : Int) : va_E := match k with
  | 9 => .inl (eC E 9, 90, .inl (fun j => Int32.ofInt (G 9 o j)))
  | 10 => .inl (eC E 10, gLen o, .inl (fun j => Int32.ofInt (G 10 o j)))
  | 11 => .inl (eC E 11, 12, .inl (fun j => Int32.ofInt (G 11 o j)))
  | 12 => .inl (eC E 12, 4, gRs (fun j => some (eA E 3 (G 12 o j))))
  | 13 => .inl (eC E 13, 1, .inr (.inl (fun j => Int64.ofInt (G 13 o j))))
  | 14 => .inl (eC E 14, 7, gRs (fun j => some (eA E 5 (7 * o + j))))
  | 15 => .inl (eC E 15, 8, gRs (fun j => some (eA E 1 (8 * o + j))))
  | 16 => .inl (eC E 16, 10, gRs (fun j => some (eA E 6 (10 * o + j))))
  | 17 => .inl (eC E 17, 12, gRs (fun j => some (eA E 2 (12 * o + j))))
  | k => .inr (k, (List.range (gN k)).map (gFld E G k o))
def gIds : List (Nat × Int) := (List.range 18).flatMap fun k => (List.range (gCt k)).map fun i : Nat => (k, Int.ofNat i)
def gOk (k : Nat) (o : Int) : Prop := k < 18 ∧ 0 ≤ o ∧ o < gCt k
set_option maxRecDepth 100000 in
theorem gIds_nodup : gIds.Nodup := by decide +kernel
theorem gOk_mem {k : Nat} {o : Int} (h : gOk k o) : (k, o) ∈ gIds := by
  refine List.mem_flatMap.mpr ⟨k, List.mem_range.mpr h.1, List.mem_map.mpr ⟨o.toNat, List.mem_range.mpr ?_, ?_⟩⟩
  · have := h.2.1; have := h.2.2; omega
  · show (k, ((o.toNat : Nat) : Int)) = (k, o)
    rw [Int.toNat_of_nonneg h.2.1]
theorem gOk_of_mem {q : Nat × Int} (h : q ∈ gIds) : gOk q.1 q.2 := by
  obtain ⟨k, hk, h2⟩ := List.mem_flatMap.mp h
  obtain ⟨i, hi, rfl⟩ := List.mem_map.mp h2
  have h1 := List.mem_range.mp hk
  have h3 := List.mem_range.mp hi
  exact ⟨h1, by show (0 : Int) ≤ (i : Int); omega, by show (i : Int) < gCt k; omega⟩
def wl (E : gEnv) (G : GS) : va_W := gIds.map (fun q => (eA E q.1 q.2, gCell E G q.1 q.2))
def gP (E : gEnv) (G : GS) (H : Heap) : Prop := va_P (eD E) vwCl (wl E G) H
/-- the addresses are apart, and cells that may change -/
def gDis (E : gEnv) : Prop := (∀ (i j : Nat) (p q : Nat × Int), gIds[i]? = some p → gIds[j]? = some q → eA E p.1 p.2 = eA E q.1 q.2 → i = j) ∧ ∀ p ∈ gIds, eF E (eA E p.1 p.2)
theorem gD_of {E : gEnv} (G : GS) (h : gDis E) : va_D (eF E) (wl E G) := by
  have at' : ∀ (k : Nat) (q : Nat × va_E), (wl E G)[k]? = some q → ∃ p, gIds[k]? = some p ∧ q.1 = eA E p.1 p.2 := by
    intro k q hk
    unfold wl at hk
    rw [List.getElem?_map] at hk
    cases hp : gIds[k]? with
    | none => rw [hp] at hk; cases hk
    | some p => rw [hp] at hk; cases hk; exact ⟨p, rfl, rfl⟩
  refine ⟨fun i j p q hi hj hpq => ?_, fun k q hk => ?_⟩
  · obtain ⟨a, ha, ea⟩ := at' i p hi
    obtain ⟨b, hb, eb⟩ := at' j q hj
    exact h.1 i j a b ha hb (by rw [← ea, ← eb]; exact hpq)
  · obtain ⟨a, ha, ea⟩ := at' k q hk
    rw [ea]
    exact h.2 a (List.mem_of_getElem? ha)
theorem wl_at (E : gEnv) (G : GS) {k : Nat} {o : Int} (h : gOk k o) : ∃ q0 : Nat, gIds[q0]? = some (k, o) ∧ (wl E G)[q0]? = some (eA E k o, gCell E G k o) := by
  obtain ⟨q0, h0⟩ := List.getElem?_of_mem (gOk_mem h)
  exact ⟨q0, h0, by unfold wl; rw [List.getElem?_map, h0]; rfl⟩
theorem wl_set {E : gEnv} {G G1 : GS} {k q0 : Nat} {o : Int} (hq : gIds[q0]? = some (k, o)) {x : va_E} (hx : gCell E G1 k o = x) (hne : ∀ (k' : Nat) (o' : Int), (k', o') ≠ (k, o) → gCell E G1 k' o' = gCell E G k' o') : (wl E G).set q0 (eA E k o, x) = wl E G1 := by
  subst hx
  have hl := (List.getElem?_eq_some_iff.mp hq).1
  refine List.ext_getElem? fun i => ?_
  unfold wl
  rw [List.getElem?_set]
  by_cases hi : q0 = i
  · subst hi
    rw [if_pos rfl, if_pos (by rw [List.length_map]; exact hl), List.getElem?_map, hq]
    rfl
  · rw [if_neg hi, List.getElem?_map, List.getElem?_map]
    cases hg : gIds[i]? with
    | none => rfl
    | some p =>
      have hp : (p.1, p.2) ≠ (k, o) := fun e => hi ((List.getElem?_inj hl gIds_nodup).mp (hq.trans (by rw [hg, ← e])))
      show some (eA E p.1 p.2, gCell E G p.1 p.2) = some (eA E p.1 p.2, gCell E G1 p.1 p.2)
      rw [hne _ _ hp]
theorem gCell_congr {E : gEnv} {G G1 : GS} {k : Nat} {o : Int} (h : ∀ f, G1 k o f = G k o f) : gCell E G1 k o = gCell E G k o := by
  unfold gCell
  split <;> simp [h, gFld]
theorem gup_ne {G : GS} {k k' : Nat} {o o' f v : Int} (h : (k', o') ≠ (k, o)) (f' : Int) : gup G k o f v k' o' f' = G k' o' f' := by
  unfold gup
  rw [if_neg]
  rintro ⟨rfl, rfl, -⟩
  exact h rfl
theorem gup_same {G : GS} {k : Nat} {o f v : Int} : gup G k o f v k o f = v := by
  unfold gup
  rw [if_pos ⟨rfl, rfl, rfl⟩]
theorem gup_nf {G : GS} {k : Nat} {o f f' v : Int} (h : f' ≠ f) : gup G k o f v k o f' = G k o f' := by
  unfold gup
  rw [if_neg fun e => h e.2.2]
theorem gCell_put {E : gEnv} {G : GS} {k : Nat} {o : Int} {f : Nat} {v : Int} (hk : k < 9) (hr : gRef k o f = none) : gCell E (gup G k o f v) k o = .inr (k, ((List.range (gN k)).map (gFld E G k o)).set f (vI v)) := by
  have e1 : ∀ G1 : GS, gCell E G1 k o = .inr (k, (List.range (gN k)).map (gFld E G1 k o)) := by
    intro G1
    match k, hk with
    | 0, _ => rfl
    | 1, _ => rfl
    | 2, _ => rfl
    | 3, _ => rfl
    | 4, _ => rfl
    | 5, _ => rfl
    | 6, _ => rfl
    | 7, _ => rfl
    | 8, _ => rfl
  rw [e1]
  congr 2
  refine List.ext_getElem? fun i => ?_
  rw [List.getElem?_set, List.getElem?_map, List.getElem?_map]
  by_cases hi : f = i
  · subst hi
    rw [if_pos rfl, List.length_map, List.length_range]
    by_cases hf : f < gN k
    · rw [if_pos hf, List.getElem?_range hf]
      show some (gFld E _ k o f) = some (vI v)
      unfold gFld
      rw [hr]
      show some (vI (gup G k o f v k o f)) = _
      rw [gup_same]
    · rw [if_neg hf, List.getElem?_eq_none (by rw [List.length_range]; omega)]
      rfl
  · rw [if_neg hi]
    cases hx : (List.range (gN k))[i]? with
    | none => rfl
    | some j =>
      have hj : j = i := by
        obtain ⟨hl, he⟩ := List.getElem?_eq_some_iff.mp hx
        rw [List.getElem_range] at he
        exact he.symm
      subst hj
      show some (gFld E _ k o j) = some (gFld E G k o j)
      unfold gFld
      cases gRef k o j with
      | some t => rfl
      | none =>
        show some (vI (gup G k o f v k o j)) = some (vI (G k o j))
        rw [gup_nf (by omega)]
theorem gUp_arr {α : Type} {w : Int → α} {G : GS} {k : Nat} {o i v : Int} (h0 : 0 ≤ i) : (fun j : Nat => w (gup G k o i v k o j)) = (fun j : Nat => if j = i.toNat then w v else w (G k o j)) := by
  funext j
  by_cases h : j = i.toNat
  · rw [if_pos h]
    have : (j : Int) = i := by omega
    rw [this, gup_same]
  · rw [if_neg h, gup_nf (by omega)]
-- what never changes behind the heap: the tables' words, the links between nest mates, the constants
def gFace : List Cond := lw_tbl.filter fun w => w.onTables && w.keepsFace
def gNest : List (String × Nat × MethodName × String) := [(RX3, 35, yX5_init, RX7), (RX3, 36, yX1_init, RX7), (RX3, 37, yX6_init, RX7), (RX3, 38, yX2_init, RX7), (RX7, 28, yX4_init, RX7), (RX3, 196, yX7_nextInn, RX7), (RX3, 203, yX7_stageBetween, RX7), (RX6, 53, yX7_stageBetween, RX7), (RX3, 273, yX7_oneIf, RX7), (RX6, 65, yX7_oneIf, RX7), (RX2, 44, yX7_oneIf, RX7)]
def gNcs : List (String × String) := [("java/lang/IllegalArgumentException", "java/lang/IllegalStateException"), ("java/lang/IllegalArgumentException", "java/lang/IndexOutOfBoundsException"), ("java/lang/IllegalStateException", "java/lang/IllegalArgumentException"), ("java/lang/IllegalStateException", "java/lang/IndexOutOfBoundsException"), ("java/lang/IndexOutOfBoundsException", "java/lang/IllegalArgumentException"), ("java/lang/IndexOutOfBoundsException", "java/lang/IllegalStateException")]
def gStr : List (String × Nat × String) := [(RX7, 210, "there is no such number"), (RX7, 213, "a value is out of range"), (RX7, 215, "there is no room for one more"), (RX7, 84, "a letter goes to another inn"), (RX7, 105, "the hour would be too late"), (RX7, 189, "there is no saved state")]
def gTys (E : gEnv) : List (ClassId × FieldType) := [(eC E 9, .byte), (eC E 10, .int), (eC E 11, .boolean), (eC E 12, .object RX3), (eC E 13, .long), (eC E 14, .object RX5), (eC E 15, .object RX1), (eC E 16, .object RX6), (eC E 17, .object RX2)]
def gX (A : Nat → Prop) (U : State) : Prop := (∀ w ∈ gFace, w.before #[] U = true) ∧ (∀ q ∈ gNest, va_Nw (.methodLinkNest q.1 q.2.1 q.2.2.1 q.2.2.2) U) ∧ (∀ q ∈ gNcs, va_Nc q.1 q.2 U) ∧ (∀ q ∈ gStr, ∃ a, vk_R q.1 q.2.1 q.2.2 a U) ∧ vx_Zq Bundle.tN "UNASSIGNED_STACK" Bundle.steD A U U.heap ∧ vx_Zq Bundle.tN "SUPPRESSED_SENTINEL" Bundle.listD A U U.heap
theorem gX.next {A : Nat → Prop} {s U : State} (h : gX A s) (hW : s.WarmedH U.vm) (hk : ∀ q : Nat, q < s.heap.size → ¬ A q → U.heap[q]? = s.heap[q]?) : gX A U := by
  obtain ⟨h1, h2, h3, h4, h5, h6⟩ := h
  refine ⟨fun w hw => ?_, fun q hq => va_Nw.warmM hW (h2 q hq), fun q hq => (h3 q hq).moved hW.alike, fun q hq => ?_, (h5.kept hk).moved hW.alike, (h6.kept hk).moved hW.alike⟩
  · have hb := (List.mem_filter.mp hw).2
    simp only [Bool.and_eq_true] at hb
    exact va_tabs hb.1 (rfl : (s.setVm U.vm).vm = U.vm) (Cond.rides hW.wide hb.2 (h1 w hw))
  · obtain ⟨a, ha⟩ := h4 q hq
    exact ⟨a, ha.warm hW⟩
def gK (E : gEnv) (U : State) : Prop := va_K (eD E) vwCl (gTys E) U ∧ gDis E ∧ (∀ q, U.heap.size ≤ q → eF E q) ∧ gX (eF E) U
theorem gK.next {E : gEnv} {s U : State} (h : gK E s) (hW : s.WarmedH U.vm) (hs : s.heap.size ≤ U.heap.size) (hk : ∀ q : Nat, q < s.heap.size → ¬ eF E q → U.heap[q]? = s.heap[q]?) : gK E U :=
  ⟨va_K.moved hW.alike h.1, h.2.1, fun q hq => h.2.2.1 q (Nat.le_trans hs hq), h.2.2.2.next hW hk⟩
def gW (E : gEnv) (G : GS) (U : State) : Prop := gP E G U.heap ∧ gK E U
/-- what holds all through a walk -/
def gC (p : Program) (s : State) (m : MethodId) (args : Array Value) (meth : Method) (c : Code) (own : String) (cc : ByteArray) (nL : Nat) (ret : Option FieldType) (E : gEnv) : Prop :=
  p.tables.exec = Jvm.exec ∧ c.code = cc ∧ meth.sig.returnType = ret ∧ c.maxLocals = nL ∧ s.vm.findClass own = some m.cls ∧ (∀ w ∈ gWords, w.before args s = true) ∧ meth.locks = false ∧ gK E s
/-- what holds at a point of it -/
def gH (E : gEnv) (s : State) (G : GS) (H : Heap) (locs : List Loc) : Prop := gP E G H ∧ va_S (eF E) s.heap H locs
end
section
/-! ROWS over the world: an instruction, a call, an end; numbers are integers, their machine words their images -/
theorem i_of_le {x : Int} (h : inR x) : (Int32.ofInt x).toInt = x := Int32.toInt_ofInt_of_le (by have := h.1; omega) (by have := h.2; omega)
theorem i_lt {x y : Int} (hx : inR x) (hy : inR y) : Int32.ofInt x < Int32.ofInt y ↔ x < y := by rw [Int32.lt_iff_toInt_lt, i_of_le hx, i_of_le hy]
theorem i_le {x y : Int} (hx : inR x) (hy : inR y) : Int32.ofInt x ≤ Int32.ofInt y ↔ x ≤ y := by rw [Int32.le_iff_toInt_le, i_of_le hx, i_of_le hy]
theorem i_eq {x y : Int} (hx : inR x) (hy : inR y) : Int32.ofInt x = Int32.ofInt y ↔ x = y := ⟨fun h => by rw [← i_of_le hx, ← i_of_le hy, h], fun h => by rw [h]⟩
theorem i_clamp {x : Int} (h : inR x) : (Int32.ofInt x).toNatClampNeg = x.toNat := by rw [Int32.toNatClampNeg, i_of_le h]
theorem i_in {x : Int} {n : Nat} (h0 : 0 ≤ x) (h1 : x < n) (hn : n < 2147483648) : vp_in (Int32.ofInt x) n := by
  have hr : inR x := ⟨by omega, by omega⟩
  rw [vp_in_iff, i_of_le hr]
  exact ⟨h0, h1⟩
def gd {α : Type} (z : Int) (k : Option α) : Option α := if inR z then k else none
def ga {α : Type} (z n : Int) (k : Option α) : Option α := if 0 ≤ z ∧ z < n then k else none
def gb {α : Type} (z : Int) (k : Option α) : Option α := if z = 0 ∨ z = 1 then k else none
def gy {α : Type} (z : Int) (k : Option α) : Option α := if -128 ≤ z ∧ z ≤ 127 then k else none
def bnd {α β : Type} (o : Option (GS × α)) (k : GS → α → Option β) : Option β := match o with
  | some q => k q.1 q.2
  | none => none
def bn1 {α β : Type} (o : Option α) (k : α → Option β) : Option β := match o with
  | some q => k q
  | none => none
theorem gd_s {α : Type} {z : Int} {k : Option α} {r : α} (h : gd z k = some r) : inR z ∧ k = some r := by
  unfold gd at h
  split at h
  · exact ⟨by assumption, h⟩
  · cases h
theorem ga_s {α : Type} {z n : Int} {k : Option α} {r : α} (h : ga z n k = some r) : (0 ≤ z ∧ z < n) ∧ k = some r := by
  unfold ga at h
  split at h
  · exact ⟨by assumption, h⟩
  · cases h
theorem gb_s {α : Type} {z : Int} {k : Option α} {r : α} (h : gb z k = some r) : (z = 0 ∨ z = 1) ∧ k = some r := by
  unfold gb at h
  split at h
  · exact ⟨by assumption, h⟩
  · cases h
theorem gy_s {α : Type} {z : Int} {k : Option α} {r : α} (h : gy z k = some r) : (-128 ≤ z ∧ z ≤ 127) ∧ k = some r := by
  unfold gy at h
  split at h
  · exact ⟨by assumption, h⟩
  · cases h
theorem bnd_s {α β : Type} {o : Option (GS × α)} {k : GS → α → Option β} {r : β} (h : bnd o k = some r) : ∃ g v, o = some (g, v) ∧ k g v = some r := by
  cases o with
  | none => cases h
  | some q => exact ⟨q.1, q.2, rfl, h⟩
theorem bn1_s {α β : Type} {o : Option α} {k : α → Option β} {r : β} (h : bn1 o k = some r) : ∃ v, o = some v ∧ k v = some r := by
  cases o with
  | none => cases h
  | some q => exact ⟨q, rfl, h⟩
theorem ifp {α : Type} {c : Prop} [Decidable c] {a b x : α} (h : c) (e : (if c then a else b) = x) : a = x := by rwa [if_pos h] at e
theorem ifn {α : Type} {c : Prop} [Decidable c] {a b x : α} (h : ¬ c) (e : (if c then a else b) = x) : b = x := by rwa [if_neg h] at e
theorem gok14 {r : Int} (h : gOk 3 r) : gOk 14 r := h |> fun h => ⟨by decide, h.2.1, h.2.2⟩
theorem gok15 {r : Int} (h : gOk 3 r) : gOk 15 r := ⟨by decide, h.2.1, h.2.2⟩
theorem gok16 {r : Int} (h : gOk 3 r) : gOk 16 r := ⟨by decide, h.2.1, h.2.2⟩
theorem gok17 {r : Int} (h : gOk 3 r) : gOk 17 r := ⟨by decide, h.2.1, h.2.2⟩
theorem gok5 {r i : Int} (h : gOk 14 r) (hi : 0 ≤ i ∧ i < 7) : gOk 5 (7 * r + i) := by
  obtain ⟨-, h1, h2⟩ := h
  have e : ((gCt 14 : Nat) : Int) = 6 := rfl
  rw [e] at h2
  exact ⟨by decide, by omega, by show 7 * r + i < 42; omega⟩
theorem gok1 {r i : Int} (h : gOk 15 r) (hi : 0 ≤ i ∧ i < 8) : gOk 1 (8 * r + i) := by
  obtain ⟨-, h1, h2⟩ := h
  have e : ((gCt 15 : Nat) : Int) = 6 := rfl
  rw [e] at h2
  exact ⟨by decide, by omega, by show 8 * r + i < 48; omega⟩
theorem gok6 {r i : Int} (h : gOk 16 r) (hi : 0 ≤ i ∧ i < 10) : gOk 6 (10 * r + i) := by
  obtain ⟨-, h1, h2⟩ := h
  have e : ((gCt 16 : Nat) : Int) = 6 := rfl
  rw [e] at h2
  exact ⟨by decide, by omega, by show 10 * r + i < 60; omega⟩
theorem gok2 {r i : Int} (h : gOk 17 r) (hi : 0 ≤ i ∧ i < 12) : gOk 2 (12 * r + i) := by
  obtain ⟨-, h1, h2⟩ := h
  have e : ((gCt 17 : Nat) : Int) = 6 := rfl
  rw [e] at h2
  exact ⟨by decide, by omega, by show 12 * r + i < 72; omega⟩
theorem gok3 {r : Int} (h : 0 ≤ r ∧ r < 6) : gOk 3 r := ⟨by decide, h.1, h.2⟩
theorem gok0 {k : Nat} (h : k < 18) (h1 : 0 < gCt k) : gOk k 0 := ⟨h, Int.le_refl 0, by exact_mod_cast h1⟩
section GROW
variable {p : Program} {l : Launch} {e : Env} {R : Room} {s : State} {m : MethodId} {args : Array Value} {below : List Frame} {meth : Method} {c : Code} {H : Heap} {locs : List Loc} {cells slots : Nat} {Q : State → Prop}
variable {pc : Nat} {ls : Array Slot} {rest : List Value} {own : String} {cc : ByteArray} {nL : Nat} {ret : Option FieldType} {E : gEnv} {G : GS}
theorem g_iconst (C : gC p s m args meth c own cc nL ret E) {n : Int} (hd : decode cc pc = .ok (.iconst n, 1)) (kk : W p l e R s m args below meth c H locs cells slots Q (F0 m (pc + 1) ls (vI n :: rest))) : W p l e R s m args below meth c H locs cells slots Q (F0 m pc ls (rest)) := lv_iconst C.1 C.2.1 hd rfl kk
theorem g_bipush (C : gC p s m args meth c own cc nL ret E) {n : Int} (hd : decode cc pc = .ok (.bipush n, 2)) (hv : (Int8.ofInt n).toInt32 = Int32.ofInt n := by rfl) (kk : W p l e R s m args below meth c H locs cells slots Q (F0 m (pc + 2) ls (vI n :: rest))) : W p l e R s m args below meth c H locs cells slots Q (F0 m pc ls (rest)) := lv_bipush C.1 C.2.1 hd hv kk
theorem g_sipush (C : gC p s m args meth c own cc nL ret E) {n : Int} (hd : decode cc pc = .ok (.sipush n, 3)) (hv : (Int16.ofInt n).toInt32 = Int32.ofInt n := by rfl) (kk : W p l e R s m args below meth c H locs cells slots Q (F0 m (pc + 3) ls (vI n :: rest))) : W p l e R s m args below meth c H locs cells slots Q (F0 m pc ls (rest)) := lv_sipush C.1 C.2.1 hd hv kk
theorem g_iadd (C : gC p s m args meth c own cc nL ret E) {x y : Int} (hd : decode cc pc = .ok (.iadd, 1)) (kk : W p l e R s m args below meth c H locs cells slots Q (F0 m (pc + 1) ls (vI (x + y) :: rest))) : W p l e R s m args below meth c H locs cells slots Q (F0 m pc ls (vI y :: vI x :: rest)) := lv_iadd C.1 C.2.1 hd (by rw [← Int32.ofInt_add]; exact kk)
theorem g_isub (C : gC p s m args meth c own cc nL ret E) {x y : Int} (hd : decode cc pc = .ok (.isub, 1)) (kk : W p l e R s m args below meth c H locs cells slots Q (F0 m (pc + 1) ls (vI (x - y) :: rest))) : W p l e R s m args below meth c H locs cells slots Q (F0 m pc ls (vI y :: vI x :: rest)) := lv_isub C.1 C.2.1 hd (by rw [← Int32.ofInt_sub]; exact kk)
theorem g_imul (C : gC p s m args meth c own cc nL ret E) {x y : Int} (hd : decode cc pc = .ok (.imul, 1)) (kk : W p l e R s m args below meth c H locs cells slots Q (F0 m (pc + 1) ls (vI (x * y) :: rest))) : W p l e R s m args below meth c H locs cells slots Q (F0 m pc ls (vI y :: vI x :: rest)) := lv_imul C.1 C.2.1 hd (by rw [← Int32.ofInt_mul]; exact kk)
theorem g_ineg (C : gC p s m args meth c own cc nL ret E) {x : Int} (hd : decode cc pc = .ok (.ineg, 1)) (kk : W p l e R s m args below meth c H locs cells slots Q (F0 m (pc + 1) ls (vI (-x) :: rest))) : W p l e R s m args below meth c H locs cells slots Q (F0 m pc ls (vI x :: rest)) := lv_ineg C.1 C.2.1 hd (by rw [← Int32.ofInt_neg]; exact kk)
theorem i_div {x y : Int} (hx : 0 ≤ x) (hx2 : inR x) (hy : 0 < y) (hy2 : inR y) : Int32.ofInt x / Int32.ofInt y = Int32.ofInt (x / y) := by
  refine Int32.toInt_inj.mp ?_
  have e1 := i_of_le hx2
  have e2 := i_of_le hy2
  have h0 : 0 ≤ x / y := Int.ediv_nonneg hx (by omega)
  have h1 : x / y ≤ x := Int.ediv_le_self y hx
  have hx3 := hx2.2
  rw [Int32.toInt_div_of_ne_right _ _ (fun q => absurd (show (Int32.ofInt y).toInt = -1 by rw [q]; rfl) (by omega)), e1, e2, i_of_le ⟨by omega, by omega⟩, Int.tdiv_eq_ediv_of_nonneg hx]
theorem g_idiv (C : gC p s m args meth c own cc nL ret E) {x y : Int} (hx : 0 ≤ x) (hx2 : inR x) (hy : 0 < y) (hy2 : inR y) (hd : decode cc pc = .ok (.idiv, 1)) (kk : W p l e R s m args below meth c H locs cells slots Q (F0 m (pc + 1) ls (vI (x / y) :: rest))) : W p l e R s m args below meth c H locs cells slots Q (F0 m pc ls (vI y :: vI x :: rest)) := lv_idiv C.1 C.2.1 hd (fun q => by have := (i_eq hy2 (y := 0) (by decide)).mp q; omega) (by rw [i_div hx hx2 hy hy2]; exact kk)
theorem g_irem (C : gC p s m args meth c own cc nL ret E) {x y : Int} (hx : 0 ≤ x) (hx2 : inR x) (hy : 0 < y) (hy2 : inR y) (hd : decode cc pc = .ok (.irem, 1)) (kk : W p l e R s m args below meth c H locs cells slots Q (F0 m (pc + 1) ls (vI (x % y) :: rest))) : W p l e R s m args below meth c H locs cells slots Q (F0 m pc ls (vI y :: vI x :: rest)) := lv_irem C.1 C.2.1 hd (fun q => by have := (i_eq hy2 (y := 0) (by decide)).mp q; omega) (by rw [i_div hx hx2 hy hy2, ← Int32.ofInt_mul, ← Int32.ofInt_sub, show x - x / y * y = x % y by rw [Int.emod_def, Int.mul_comm]]; exact kk)
theorem g_ladd (C : gC p s m args meth c own cc nL ret E) {x y : Int} (hd : decode cc pc = .ok (.ladd, 1)) (kk : W p l e R s m args below meth c H locs cells slots Q (F0 m (pc + 1) ls (vJ (x + y) :: rest))) : W p l e R s m args below meth c H locs cells slots Q (F0 m pc ls (vJ y :: vJ x :: rest)) := lv_ladd C.1 C.2.1 hd (by rw [← Int64.ofInt_add]; exact kk)
theorem g_lsub (C : gC p s m args meth c own cc nL ret E) {x y : Int} (hd : decode cc pc = .ok (.lsub, 1)) (kk : W p l e R s m args below meth c H locs cells slots Q (F0 m (pc + 1) ls (vJ (x - y) :: rest))) : W p l e R s m args below meth c H locs cells slots Q (F0 m pc ls (vJ y :: vJ x :: rest)) := lv_lsub C.1 C.2.1 hd (by rw [← Int64.ofInt_sub]; exact kk)
theorem g_lmul (C : gC p s m args meth c own cc nL ret E) {x y : Int} (hd : decode cc pc = .ok (.lmul, 1)) (kk : W p l e R s m args below meth c H locs cells slots Q (F0 m (pc + 1) ls (vJ (x * y) :: rest))) : W p l e R s m args below meth c H locs cells slots Q (F0 m pc ls (vJ y :: vJ x :: rest)) := lv_lmul C.1 C.2.1 hd (by rw [← Int64.ofInt_mul]; exact kk)
theorem g_lconst (C : gC p s m args meth c own cc nL ret E) {n : Fin 2} {z : Int} (hd : decode cc pc = .ok (.lconst n, 1)) (hz : Int64.ofNat (n : Nat) = Int64.ofInt z) (kk : W p l e R s m args below meth c H locs cells slots Q (F0 m (pc + 1) ls (vJ z :: rest))) : W p l e R s m args below meth c H locs cells slots Q (F0 m pc ls (rest)) := lv_lconst C.1 C.2.1 hd hz kk
def bm (z : Int) : Int := z.bmod 4294967296
theorem bm_in {z : Int} (h : inR z) : bm z = z := Int.bmod_eq_of_le (by have := h.1; omega) (by have := h.2; omega)
theorem i_l (z : Int) : (Int32.ofInt z).toInt64 = Int64.ofInt (bm z) := by rw [← Int64.ofInt_int32ToInt, Int32.toInt_ofInt]; rfl
theorem g_i2l (C : gC p s m args meth c own cc nL ret E) {x : Int} (hd : decode cc pc = .ok (.i2l, 1)) (kk : W p l e R s m args below meth c H locs cells slots Q (F0 m (pc + 1) ls (vJ (bm x) :: rest))) : W p l e R s m args below meth c H locs cells slots Q (F0 m pc ls (vI x :: rest)) := lv_i2l C.1 C.2.1 hd (i_l x) kk
theorem g_ldc2 (C : gC p s m args meth c own cc nL ret E) {ix : Nat} {n : Int} {v : Int64} (hw : Cond.constantLong own ix v ∈ gWords) (hv : v = Int64.ofInt n) (hd : decode cc pc = .ok (.ldc2_w ix, 3)) (kk : W p l e R s m args below meth c H locs cells slots Q (F0 m (pc + 3) ls (vJ n :: rest))) : W p l e R s m args below meth c H locs cells slots Q (F0 m pc ls (rest)) := lv_ldc2 C.1 C.2.1 C.2.2.2.2.1 (C.2.2.2.2.2.1 _ hw) hd (by rw [hv]; exact kk)
theorem i_b {x : Int} (h : -128 ≤ x ∧ x ≤ 127) : (Int32.ofInt x).toInt8.toInt32 = Int32.ofInt x := by rw [Int32.toInt8_ofInt, ← Int32.ofInt_int8ToInt, Int8.toInt_ofInt_of_le (by omega) (by omega)]
theorem g_i2b (C : gC p s m args meth c own cc nL ret E) {x : Int} (hx : -128 ≤ x ∧ x ≤ 127) (hd : decode cc pc = .ok (.i2b, 1)) (kk : W p l e R s m args below meth c H locs cells slots Q (F0 m (pc + 1) ls (vI x :: rest))) : W p l e R s m args below meth c H locs cells slots Q (F0 m pc ls (vI x :: rest)) := lv_i2b C.1 C.2.1 hd (i_b hx) kk
theorem g_iload_n (C : gC p s m args meth c own cc nL ret E) {k : Fin 4} {i : Nat} {x : Int} {lv : List (Nat × Value)} (hl : lv_has ls nL lv) (j : Nat) (hj : lv[j]? = some (i, vI x)) (hi : (k : Nat) = i) (hd : decode cc pc = .ok (.iload_n k, 1)) (kk : W p l e R s m args below meth c H locs cells slots Q (F0 m (pc + 1) ls (vI x :: rest))) : W p l e R s m args below meth c H locs cells slots Q (F0 m pc ls (rest)) := lv_iload_n C.1 C.2.1 hd hi (lv_at hl j hj) kk
theorem g_iload (C : gC p s m args meth c own cc nL ret E) {i : Nat} {x : Int} {lv : List (Nat × Value)} (hl : lv_has ls nL lv) (j : Nat) (hj : lv[j]? = some (i, vI x)) (hd : decode cc pc = .ok (.iload i, 2)) (kk : W p l e R s m args below meth c H locs cells slots Q (F0 m (pc + 2) ls (vI x :: rest))) : W p l e R s m args below meth c H locs cells slots Q (F0 m pc ls (rest)) := lv_iload C.1 C.2.1 hd (lv_at hl j hj) kk
theorem g_lload_n (C : gC p s m args meth c own cc nL ret E) {k : Fin 4} {i : Nat} {x : Int} {lv : List (Nat × Value)} (hl : lv_has ls nL lv) (j : Nat) (hj : lv[j]? = some (i, vJ x)) (hi : (k : Nat) = i) (hd : decode cc pc = .ok (.lload_n k, 1)) (kk : W p l e R s m args below meth c H locs cells slots Q (F0 m (pc + 1) ls (vJ x :: rest))) : W p l e R s m args below meth c H locs cells slots Q (F0 m pc ls (rest)) := lv_lload_n C.1 C.2.1 hd hi (lv_at hl j hj) kk
theorem g_lload (C : gC p s m args meth c own cc nL ret E) {i : Nat} {x : Int} {lv : List (Nat × Value)} (hl : lv_has ls nL lv) (j : Nat) (hj : lv[j]? = some (i, vJ x)) (hd : decode cc pc = .ok (.lload i, 2)) (kk : W p l e R s m args below meth c H locs cells slots Q (F0 m (pc + 2) ls (vJ x :: rest))) : W p l e R s m args below meth c H locs cells slots Q (F0 m pc ls (rest)) := lv_lload C.1 C.2.1 hd (lv_at hl j hj) kk
theorem g_aload_n (C : gC p s m args meth c own cc nL ret E) {k : Fin 4} {i x : Nat} {lv : List (Nat × Value)} (hl : lv_has ls nL lv) (j : Nat) (hj : lv[j]? = some (i, .ref x)) (hi : (k : Nat) = i) (hd : decode cc pc = .ok (.aload_n k, 1)) (kk : W p l e R s m args below meth c H locs cells slots Q (F0 m (pc + 1) ls (.ref x :: rest))) : W p l e R s m args below meth c H locs cells slots Q (F0 m pc ls (rest)) := lv_aload_n C.1 C.2.1 hd hi (lv_at hl j hj) kk
theorem g_aload (C : gC p s m args meth c own cc nL ret E) {i x : Nat} {lv : List (Nat × Value)} (hl : lv_has ls nL lv) (j : Nat) (hj : lv[j]? = some (i, .ref x)) (hd : decode cc pc = .ok (.aload i, 2)) (kk : W p l e R s m args below meth c H locs cells slots Q (F0 m (pc + 2) ls (.ref x :: rest))) : W p l e R s m args below meth c H locs cells slots Q (F0 m pc ls (rest)) := lv_aload C.1 C.2.1 hd (lv_at hl j hj) kk
theorem g_istore_n (C : gC p s m args meth c own cc nL ret E) {k : Fin 4} {i : Nat} {x : Int} {lv : List (Nat × Value)} (lv1 : List (Nat × Value)) (hl : lv_has ls nL lv) (hi : (k : Nat) = i) (hn : i < nL) (he : (i, vI x) :: lv.filter (fun q => !(q.1 == i) && !(q.1 + 1 == i && q.2.category == 2)) = lv1) (hd : decode cc pc = .ok (.istore_n k, 1)) (kk : ∀ ls, lv_has ls nL lv1 → W p l e R s m args below meth c H locs cells slots Q (F0 m (pc + 1) ls (rest))) : W p l e R s m args below meth c H locs cells slots Q (F0 m pc ls (vI x :: rest)) := lv_istore_n C.1 C.2.1 hd hi hl hn he kk
theorem g_istore (C : gC p s m args meth c own cc nL ret E) {i : Nat} {x : Int} {lv : List (Nat × Value)} (lv1 : List (Nat × Value)) (hl : lv_has ls nL lv) (hn : i < nL) (he : (i, vI x) :: lv.filter (fun q => !(q.1 == i) && !(q.1 + 1 == i && q.2.category == 2)) = lv1) (hd : decode cc pc = .ok (.istore i, 2)) (kk : ∀ ls, lv_has ls nL lv1 → W p l e R s m args below meth c H locs cells slots Q (F0 m (pc + 2) ls (rest))) : W p l e R s m args below meth c H locs cells slots Q (F0 m pc ls (vI x :: rest)) := lv_istore C.1 C.2.1 hd hl hn he kk
theorem g_astore_n (C : gC p s m args meth c own cc nL ret E) {k : Fin 4} {i : Nat} {x : Nat} {lv : List (Nat × Value)} (lv1 : List (Nat × Value)) (hl : lv_has ls nL lv) (hi : (k : Nat) = i) (hn : i < nL) (he : (i, .ref x) :: lv.filter (fun q => !(q.1 == i) && !(q.1 + 1 == i && q.2.category == 2)) = lv1) (hd : decode cc pc = .ok (.astore_n k, 1)) (kk : ∀ ls, lv_has ls nL lv1 → W p l e R s m args below meth c H locs cells slots Q (F0 m (pc + 1) ls (rest))) : W p l e R s m args below meth c H locs cells slots Q (F0 m pc ls (.ref x :: rest)) := lv_astore_n C.1 C.2.1 hd hi hl hn he kk
theorem g_astore (C : gC p s m args meth c own cc nL ret E) {i : Nat} {x : Nat} {lv : List (Nat × Value)} (lv1 : List (Nat × Value)) (hl : lv_has ls nL lv) (hn : i < nL) (he : (i, .ref x) :: lv.filter (fun q => !(q.1 == i) && !(q.1 + 1 == i && q.2.category == 2)) = lv1) (hd : decode cc pc = .ok (.astore i, 2)) (kk : ∀ ls, lv_has ls nL lv1 → W p l e R s m args below meth c H locs cells slots Q (F0 m (pc + 2) ls (rest))) : W p l e R s m args below meth c H locs cells slots Q (F0 m pc ls (.ref x :: rest)) := lv_astore C.1 C.2.1 hd hl hn he kk
theorem g_lstore_n (C : gC p s m args meth c own cc nL ret E) {k : Fin 4} {i : Nat} {x : Int} {lv : List (Nat × Value)} (lv1 : List (Nat × Value)) (hl : lv_has ls nL lv) (hi : (k : Nat) = i) (hn : i + 1 < nL) (he : (i, vJ x) :: lv.filter (fun q => !(q.1 == i) && (!(q.1 == i + 1) && !(q.1 + 1 == i && q.2.category == 2))) = lv1) (hd : decode cc pc = .ok (.lstore_n k, 1)) (kk : ∀ ls, lv_has ls nL lv1 → W p l e R s m args below meth c H locs cells slots Q (F0 m (pc + 1) ls (rest))) : W p l e R s m args below meth c H locs cells slots Q (F0 m pc ls (vJ x :: rest)) := lv_lstore_n C.1 C.2.1 hd hi hl hn he kk
theorem g_lstore (C : gC p s m args meth c own cc nL ret E) {i : Nat} {x : Int} {lv : List (Nat × Value)} (lv1 : List (Nat × Value)) (hl : lv_has ls nL lv) (hn : i + 1 < nL) (he : (i, vJ x) :: lv.filter (fun q => !(q.1 == i) && (!(q.1 == i + 1) && !(q.1 + 1 == i && q.2.category == 2))) = lv1) (hd : decode cc pc = .ok (.lstore i, 2)) (kk : ∀ ls, lv_has ls nL lv1 → W p l e R s m args below meth c H locs cells slots Q (F0 m (pc + 2) ls (rest))) : W p l e R s m args below meth c H locs cells slots Q (F0 m pc ls (vJ x :: rest)) := lv_lstore C.1 C.2.1 hd hl hn he kk
theorem g_iinc (C : gC p s m args meth c own cc nL ret E) {i k : Nat} {n x : Int} {lv : List (Nat × Value)} (lv1 : List (Nat × Value)) (hl : lv_has ls nL lv) (hk : lv[k]? = some (i, vI x)) (hn : i < nL) (he : (i, vI (x + n)) :: lv.filter (fun q => !(q.1 == i) && !(q.1 + 1 == i && q.2.category == 2)) = lv1) (hd : decode cc pc = .ok (.iinc i n, 3)) (kk : ∀ ls, lv_has ls nL lv1 → W p l e R s m args below meth c H locs cells slots Q (F0 m (pc + 3) ls (rest))) : W p l e R s m args below meth c H locs cells slots Q (F0 m pc ls (rest)) := lv_iinc C.1 C.2.1 hd hl hk (Int32.ofInt_add x n).symm hn he kk
theorem g_icmp_eq (C : gC p s m args meth c own cc nL ret E) {x y : Int} {off : Int} {tgt : Nat} (hx : inR x) (hy : inR y) (ht : (pc : Int) + off = (tgt : Int)) (hd : decode cc pc = .ok (.if_icmp .eq off, 3)) (kt : x = y → W p l e R s m args below meth c H locs cells slots Q (F0 m tgt ls (rest))) (kf : ¬ (x = y) → W p l e R s m args below meth c H locs cells slots Q (F0 m (pc + 3) ls (rest))) : W p l e R s m args below meth c H locs cells slots Q (F0 m pc ls (vI y :: vI x :: rest)) := lv_icmp_eq C.1 C.2.1 hd ht (fun q => kt ((i_eq hx hy).mp q)) (fun q => kf (fun z => q ((i_eq hx hy).mpr z)))
theorem g_if_eq (C : gC p s m args meth c own cc nL ret E) {x : Int} {off : Int} {tgt : Nat} (hx : inR x) (ht : (pc : Int) + off = (tgt : Int)) (hd : decode cc pc = .ok (.ifCond .eq off, 3)) (kt : x = 0 → W p l e R s m args below meth c H locs cells slots Q (F0 m tgt ls (rest))) (kf : ¬ (x = 0) → W p l e R s m args below meth c H locs cells slots Q (F0 m (pc + 3) ls (rest))) : W p l e R s m args below meth c H locs cells slots Q (F0 m pc ls (vI x :: rest)) := by
  have hy : inR 0 := by decide
  exact lv_if_eq C.1 C.2.1 hd ht (fun q => kt ((i_eq hx hy).mp q)) (fun q => kf (fun z => q ((i_eq hx hy).mpr z)))
theorem g_icmp_ne (C : gC p s m args meth c own cc nL ret E) {x y : Int} {off : Int} {tgt : Nat} (hx : inR x) (hy : inR y) (ht : (pc : Int) + off = (tgt : Int)) (hd : decode cc pc = .ok (.if_icmp .ne off, 3)) (kt : x = y → W p l e R s m args below meth c H locs cells slots Q (F0 m (pc + 3) ls (rest))) (kf : ¬ (x = y) → W p l e R s m args below meth c H locs cells slots Q (F0 m tgt ls (rest))) : W p l e R s m args below meth c H locs cells slots Q (F0 m pc ls (vI y :: vI x :: rest)) := lv_icmp_ne C.1 C.2.1 hd ht (fun q => kf (fun z => q ((i_eq hx hy).mpr z))) (fun q => kt ((i_eq hx hy).mp q))
theorem g_if_ne (C : gC p s m args meth c own cc nL ret E) {x : Int} {off : Int} {tgt : Nat} (hx : inR x) (ht : (pc : Int) + off = (tgt : Int)) (hd : decode cc pc = .ok (.ifCond .ne off, 3)) (kt : x = 0 → W p l e R s m args below meth c H locs cells slots Q (F0 m (pc + 3) ls (rest))) (kf : ¬ (x = 0) → W p l e R s m args below meth c H locs cells slots Q (F0 m tgt ls (rest))) : W p l e R s m args below meth c H locs cells slots Q (F0 m pc ls (vI x :: rest)) := by
  have hy : inR 0 := by decide
  exact lv_if_ne C.1 C.2.1 hd ht (fun q => kf (fun z => q ((i_eq hx hy).mpr z))) (fun q => kt ((i_eq hx hy).mp q))
theorem g_icmp_lt (C : gC p s m args meth c own cc nL ret E) {x y : Int} {off : Int} {tgt : Nat} (hx : inR x) (hy : inR y) (ht : (pc : Int) + off = (tgt : Int)) (hd : decode cc pc = .ok (.if_icmp .lt off, 3)) (kt : x < y → W p l e R s m args below meth c H locs cells slots Q (F0 m tgt ls (rest))) (kf : ¬ (x < y) → W p l e R s m args below meth c H locs cells slots Q (F0 m (pc + 3) ls (rest))) : W p l e R s m args below meth c H locs cells slots Q (F0 m pc ls (vI y :: vI x :: rest)) := lv_icmp_lt C.1 C.2.1 hd ht (fun q => kt ((i_lt hx hy).mp q)) (fun q => kf (fun z => q ((i_lt hx hy).mpr z)))
theorem g_if_lt (C : gC p s m args meth c own cc nL ret E) {x : Int} {off : Int} {tgt : Nat} (hx : inR x) (ht : (pc : Int) + off = (tgt : Int)) (hd : decode cc pc = .ok (.ifCond .lt off, 3)) (kt : x < 0 → W p l e R s m args below meth c H locs cells slots Q (F0 m tgt ls (rest))) (kf : ¬ (x < 0) → W p l e R s m args below meth c H locs cells slots Q (F0 m (pc + 3) ls (rest))) : W p l e R s m args below meth c H locs cells slots Q (F0 m pc ls (vI x :: rest)) := by
  have hy : inR 0 := by decide
  exact lv_if_lt C.1 C.2.1 hd ht (fun q => kt ((i_lt hx hy).mp q)) (fun q => kf (fun z => q ((i_lt hx hy).mpr z)))
theorem g_icmp_ge (C : gC p s m args meth c own cc nL ret E) {x y : Int} {off : Int} {tgt : Nat} (hx : inR x) (hy : inR y) (ht : (pc : Int) + off = (tgt : Int)) (hd : decode cc pc = .ok (.if_icmp .ge off, 3)) (kt : x < y → W p l e R s m args below meth c H locs cells slots Q (F0 m (pc + 3) ls (rest))) (kf : ¬ (x < y) → W p l e R s m args below meth c H locs cells slots Q (F0 m tgt ls (rest))) : W p l e R s m args below meth c H locs cells slots Q (F0 m pc ls (vI y :: vI x :: rest)) := lv_icmp_ge C.1 C.2.1 hd ht (fun q => kf (Int.not_lt.mpr ((i_le hy hx).mp q))) (fun q => kt (Int.not_le.mp (fun z => q ((i_le hy hx).mpr z))))
theorem g_if_ge (C : gC p s m args meth c own cc nL ret E) {x : Int} {off : Int} {tgt : Nat} (hx : inR x) (ht : (pc : Int) + off = (tgt : Int)) (hd : decode cc pc = .ok (.ifCond .ge off, 3)) (kt : x < 0 → W p l e R s m args below meth c H locs cells slots Q (F0 m (pc + 3) ls (rest))) (kf : ¬ (x < 0) → W p l e R s m args below meth c H locs cells slots Q (F0 m tgt ls (rest))) : W p l e R s m args below meth c H locs cells slots Q (F0 m pc ls (vI x :: rest)) := by
  have hy : inR 0 := by decide
  exact lv_if_ge C.1 C.2.1 hd ht (fun q => kf (Int.not_lt.mpr ((i_le hy hx).mp q))) (fun q => kt (Int.not_le.mp (fun z => q ((i_le hy hx).mpr z))))
theorem g_icmp_gt (C : gC p s m args meth c own cc nL ret E) {x y : Int} {off : Int} {tgt : Nat} (hx : inR x) (hy : inR y) (ht : (pc : Int) + off = (tgt : Int)) (hd : decode cc pc = .ok (.if_icmp .gt off, 3)) (kt : y < x → W p l e R s m args below meth c H locs cells slots Q (F0 m tgt ls (rest))) (kf : ¬ (y < x) → W p l e R s m args below meth c H locs cells slots Q (F0 m (pc + 3) ls (rest))) : W p l e R s m args below meth c H locs cells slots Q (F0 m pc ls (vI y :: vI x :: rest)) := lv_icmp_gt C.1 C.2.1 hd ht (fun q => kt ((i_lt hy hx).mp q)) (fun q => kf (fun z => q ((i_lt hy hx).mpr z)))
theorem g_if_gt (C : gC p s m args meth c own cc nL ret E) {x : Int} {off : Int} {tgt : Nat} (hx : inR x) (ht : (pc : Int) + off = (tgt : Int)) (hd : decode cc pc = .ok (.ifCond .gt off, 3)) (kt : 0 < x → W p l e R s m args below meth c H locs cells slots Q (F0 m tgt ls (rest))) (kf : ¬ (0 < x) → W p l e R s m args below meth c H locs cells slots Q (F0 m (pc + 3) ls (rest))) : W p l e R s m args below meth c H locs cells slots Q (F0 m pc ls (vI x :: rest)) := by
  have hy : inR 0 := by decide
  exact lv_if_gt C.1 C.2.1 hd ht (fun q => kt ((i_lt hy hx).mp q)) (fun q => kf (fun z => q ((i_lt hy hx).mpr z)))
theorem g_icmp_le (C : gC p s m args meth c own cc nL ret E) {x y : Int} {off : Int} {tgt : Nat} (hx : inR x) (hy : inR y) (ht : (pc : Int) + off = (tgt : Int)) (hd : decode cc pc = .ok (.if_icmp .le off, 3)) (kt : y < x → W p l e R s m args below meth c H locs cells slots Q (F0 m (pc + 3) ls (rest))) (kf : ¬ (y < x) → W p l e R s m args below meth c H locs cells slots Q (F0 m tgt ls (rest))) : W p l e R s m args below meth c H locs cells slots Q (F0 m pc ls (vI y :: vI x :: rest)) := lv_icmp_le C.1 C.2.1 hd ht (fun q => kf (Int.not_lt.mpr ((i_le hx hy).mp q))) (fun q => kt (Int.not_le.mp (fun z => q ((i_le hx hy).mpr z))))
theorem g_if_le (C : gC p s m args meth c own cc nL ret E) {x : Int} {off : Int} {tgt : Nat} (hx : inR x) (ht : (pc : Int) + off = (tgt : Int)) (hd : decode cc pc = .ok (.ifCond .le off, 3)) (kt : 0 < x → W p l e R s m args below meth c H locs cells slots Q (F0 m (pc + 3) ls (rest))) (kf : ¬ (0 < x) → W p l e R s m args below meth c H locs cells slots Q (F0 m tgt ls (rest))) : W p l e R s m args below meth c H locs cells slots Q (F0 m pc ls (vI x :: rest)) := by
  have hy : inR 0 := by decide
  exact lv_if_le C.1 C.2.1 hd ht (fun q => kf (Int.not_lt.mpr ((i_le hx hy).mp q))) (fun q => kt (Int.not_le.mp (fun z => q ((i_le hx hy).mpr z))))
theorem g_goto (C : gC p s m args meth c own cc nL ret E) {off : Int} {tgt : Nat} (ht : (pc : Int) + off = (tgt : Int)) (hd : decode cc pc = .ok (.goto off, 3)) (kk : W p l e R s m args below meth c H locs cells slots Q (F0 m tgt ls (rest))) : W p l e R s m args below meth c H locs cells slots Q (F0 m pc ls (rest)) := lv_goto C.1 C.2.1 hd ht kk
theorem g_tableOut (C : gC p s m args meth c own cc nL ret E) {dflt lo hi : Int} {offs : Array Int} {len : Nat} {x : Int} {tgt : Nat} (hx : inR x) (h : x < lo ∨ hi < x) (ht : (pc : Int) + dflt = (tgt : Int)) (hd : decode cc pc = .ok (.tableswitch dflt lo hi offs, len)) (kk : W p l e R s m args below meth c H locs cells slots Q (F0 m tgt ls (rest))) : W p l e R s m args below meth c H locs cells slots Q (F0 m pc ls (vI x :: rest)) := lv_tableOut C.1 C.2.1 hd (by rw [i_of_le hx]; exact h) ht kk
theorem g_tableIn (C : gC p s m args meth c own cc nL ret E) {dflt lo hi : Int} {offs : Array Int} {len : Nat} {x n : Int} {off : Int} {tgt : Nat} (hx : x = n) (hr : inR n) (h1 : ¬ n < lo) (h2 : ¬ hi < n) (ho : offs[(n - lo).toNat]? = some off) (ht : (pc : Int) + off = (tgt : Int)) (hd : decode cc pc = .ok (.tableswitch dflt lo hi offs, len)) (kk : W p l e R s m args below meth c H locs cells slots Q (F0 m tgt ls (rest))) : W p l e R s m args below meth c H locs cells slots Q (F0 m pc ls (vI x :: rest)) := by
  subst hx
  exact lv_tableIn C.1 C.2.1 hd (by rw [i_of_le hr]; exact h1) (by rw [i_of_le hr]; exact h2) (by rw [i_of_le hr]; exact ho) ht kk
theorem g_dup (C : gC p s m args meth c own cc nL ret E) {v : Value} (hv : v.category = 1) (hd : decode cc pc = .ok (.dup, 1)) (kk : W p l e R s m args below meth c H locs cells slots Q (F0 m (pc + 1) ls (v :: v :: rest))) : W p l e R s m args below meth c H locs cells slots Q (F0 m pc ls (v :: rest)) := lv_dup C.1 C.2.1 hd hv kk
theorem g_pop (C : gC p s m args meth c own cc nL ret E) {v : Value} (hv : v.category = 1) (hd : decode cc pc = .ok (.pop, 1)) (kk : W p l e R s m args below meth c H locs cells slots Q (F0 m (pc + 1) ls (rest))) : W p l e R s m args below meth c H locs cells slots Q (F0 m pc ls (v :: rest)) := lv_pop C.1 C.2.1 hd hv kk
theorem g_dup2 (C : gC p s m args meth c own cc nL ret E) {v w : Value} (hv : v.category = 1) (hw : w.category = 1) (hd : decode cc pc = .ok (.dup2, 1)) (kk : W p l e R s m args below meth c H locs cells slots Q (F0 m (pc + 1) ls (v :: w :: v :: w :: rest))) : W p l e R s m args below meth c H locs cells slots Q (F0 m pc ls (v :: w :: rest)) := lv_dup2_11 C.1 C.2.1 hd hv hw kk
theorem gCell_get {k : Nat} {o : Int} (hk : k < 9) : gCell E G k o = .inr (k, (List.range (gN k)).map (gFld E G k o)) := by
  match k, hk with
  | 0, _ => rfl
  | 1, _ => rfl
  | 2, _ => rfl
  | 3, _ => rfl
  | 4, _ => rfl
  | 5, _ => rfl
  | 6, _ => rfl
  | 7, _ => rfl
  | 8, _ => rfl
theorem gLay {k : Nat} {C : String} {T : u_T} {N : Nat} (hc : vwCl[k]? = some (C, T, N)) : N = gN k ∧ ∀ w ∈ u_ws C T N, w ∈ gWords := by
  match k, hc with
  | 0, hc => cases hc; exact ⟨rfl, gLay0⟩
  | 1, hc => cases hc; exact ⟨rfl, gLay1⟩
  | 2, hc => cases hc; exact ⟨rfl, gLay2⟩
  | 3, hc => cases hc; exact ⟨rfl, gLay3⟩
  | 4, hc => cases hc; exact ⟨rfl, gLay4⟩
  | 5, hc => cases hc; exact ⟨rfl, gLay5⟩
  | 6, hc => cases hc; exact ⟨rfl, gLay6⟩
  | 7, hc => cases hc; exact ⟨rfl, gLay7⟩
  | 8, hc => cases hc; exact ⟨rfl, gLay8⟩
  | k + 9, hc => simp [vwCl] at hc
theorem g_get (C : gC p s m args meth c own cc nL ret E) (h : gH E s G H locs) {k : Nat} {o : Int} (ho : gOk k o) {CN ref : String} {T : u_T} {N ix : Nat} (hc : vwCl[k]? = some (CN, T, N)) (f : Nat) (hf : f < N) (hk9 : k < 9) (hw : Cond.fieldLink own ix ref (T f).2.1 (T f).2.2.1 ∈ gWords) (hr : (T f).1 = ref) {v : Value} (hv : gFld E G k o f = v) (hd : decode cc pc = .ok (.getfield ix, 3)) (kk : W p l e R s m args below meth c H locs cells slots Q (F0 m (pc + 3) ls (v :: rest))) : W p l e R s m args below meth c H locs cells slots Q (F0 m pc ls (.ref (eA E k o) :: rest)) := by
  obtain ⟨q0, h0, h1⟩ := wl_at E G ho
  rw [gCell_get hk9] at h1
  obtain ⟨hN, hin⟩ := gLay hc
  subst hr
  refine va_get (D := eD E) (Ts := gWords) C.1 C.2.1 C.2.2.2.2.2.1 hin C.2.2.2.2.1 C.2.2.2.2.2.2.2.1 h.1 q0 h1 hc f hf (C.2.2.2.2.2.1 _ hw) (fun _ z => z) (v := v) ?_ hd kk
  rw [List.getElem?_map, List.getElem?_range (by rw [← hN]; exact hf)]
  exact congrArg some hv
theorem gNm {k : Nat} {C : String} {T : u_T} {N : Nat} (hc : vwCl[k]? = some (C, T, N)) : ∃ ty : Nat → FieldType, (∀ k, k < N → parseFieldDescriptor (T k).2.2.1 = some (ty k)) ∧ ∀ a, a < N → ∀ b, b < N → a ≠ b → (T a).2.1 ≠ (T b).2.1 := by
  match k, hc with
  | 0, hc => cases hc; exact ⟨_, tyX0_ok, nmX0⟩
  | 1, hc => cases hc; exact ⟨_, tyX1_ok, nmX1⟩
  | 2, hc => cases hc; exact ⟨_, tyX2_ok, nmX2⟩
  | 3, hc => cases hc; exact ⟨_, tyX3_ok, nmX3⟩
  | 4, hc => cases hc; exact ⟨_, tyX4_ok, nmX4⟩
  | 5, hc => cases hc; exact ⟨_, tyX5_ok, nmX5⟩
  | 6, hc => cases hc; exact ⟨_, tyX6_ok, nmX6⟩
  | 7, hc => cases hc; exact ⟨_, tyX7_ok, nmX7⟩
  | 8, hc => cases hc; exact ⟨_, tyX8_ok, nmX8⟩
  | k + 9, hc => simp [vwCl] at hc
theorem g_put (C : gC p s m args meth c own cc nL ret E) (h : gH E s G H locs) {k : Nat} {o : Int} (ho : gOk k o) {CN ref : String} {T : u_T} {N ix : Nat} (hc : vwCl[k]? = some (CN, T, N)) (f : Nat) (hf : f < N) (hk9 : k < 9) (hw : Cond.fieldLink own ix ref (T f).2.1 (T f).2.2.1 ∈ gWords) (hr : (T f).1 = ref) (hfin : (T f).2.2.2 = false) (href : gRef k o f = none) {ty : FieldType} (hty : parseFieldDescriptor (T f).2.2.1 = some ty) {z : Int} (hn : narrow ty (vI z) = vI z) (hfit : fits ty (vI z) = true) (hd : decode cc pc = .ok (.putfield ix, 3)) (kk : ∀ (H : Heap) (locs : List Loc), gH E s (gup G k o f z) H locs → W p l e R s m args below meth c H locs cells slots Q (F0 m (pc + 3) ls (rest))) : W p l e R s m args below meth c H locs cells slots Q (F0 m pc ls (vI z :: .ref (eA E k o) :: rest)) := by
  obtain ⟨q0, h0, h1⟩ := wl_at E G ho
  rw [gCell_get hk9] at h1
  obtain ⟨hN, hin⟩ := gLay hc
  obtain ⟨ty0, hty0, hnm⟩ := gNm hc
  subst hr
  refine va_put (D := eD E) (Ts := gWords) C.1 C.2.1 C.2.2.2.2.2.1 hin ty0 hty0 hnm C.2.2.2.2.1 C.2.2.2.2.2.2.2.1 h.1 (gD_of G C.2.2.2.2.2.2.2.2.1) h.2 q0 h1 hc f hf (C.2.2.2.2.2.1 _ hw) (fun _ z => z) hfin hty hn hfit (by rw [List.length_map, List.length_range, ← hN]; exact hf) hd (fun H1 locs1 hP _ hS => kk H1 locs1 ⟨?_, hS⟩)
  rw [wl_set h0 (gCell_put hk9 href) (fun k' o' hne => gCell_congr (fun f' => gup_ne hne f'))] at hP
  exact hP
theorem g_putZ (C : gC p s m args meth c own cc nL ret E) (h : gH E s G H locs) {k : Nat} {o : Int} (ho : gOk k o) {CN ref : String} {T : u_T} {N ix : Nat} (hc : vwCl[k]? = some (CN, T, N)) (f : Nat) (hf : f < N) (hk9 : k < 9) (hw : Cond.fieldLink own ix ref (T f).2.1 (T f).2.2.1 ∈ gWords) (hr : (T f).1 = ref) (hfin : (T f).2.2.2 = false) (href : gRef k o f = none) (hty : parseFieldDescriptor (T f).2.2.1 = some .boolean) {z : Int} (hz : z = 0 ∨ z = 1) (hd : decode cc pc = .ok (.putfield ix, 3)) (kk : ∀ (H : Heap) (locs : List Loc), gH E s (gup G k o f z) H locs → W p l e R s m args below meth c H locs cells slots Q (F0 m (pc + 3) ls (rest))) : W p l e R s m args below meth c H locs cells slots Q (F0 m pc ls (vI z :: .ref (eA E k o) :: rest)) := by
  have hb : narrow .boolean (vI z) = vI z ∧ fits .boolean (vI z) = true := by rcases hz with rfl | rfl <;> exact ⟨by rfl, by rfl⟩
  exact g_put C h ho hc f hf hk9 hw hr hfin href hty hb.1 hb.2 hd kk
theorem gCL {k : Nat} {x : ClassId × (Nat × ((Nat → Int32) ⊕ (Nat → Int64) ⊕ (Nat → UInt32) ⊕ (Nat → UInt64) ⊕ (Nat → Option Nat)))} {o : Int} (ho : gOk k o) (hx : gCell E G k o = .inl x) : ∃ q0 : Nat, gIds[q0]? = some (k, o) ∧ (wl E G)[q0]? = some (eA E k o, .inl x) := by
  obtain ⟨q0, h0, h1⟩ := wl_at E G ho
  rw [hx] at h1
  exact ⟨q0, h0, h1⟩
theorem i_cl {x : Int} {n : Nat} (h : 0 ≤ x ∧ x < n) (hn : n < 2147483648) : (((Int32.ofInt x).toNatClampNeg : Nat) : Int) = x := by
  rw [i_clamp ⟨by omega, by omega⟩, Int.toNat_of_nonneg h.1]
theorem g_iald (C : gC p s m args meth c own cc nL ret E) (h : gH E s G H locs) {o : Int} (ho : gOk 10 o) {i : Int} {n : Nat} (hn : gLen o = n) (hn2 : n < 2147483648) (hi : 0 ≤ i ∧ i < n) (hd : decode cc pc = .ok (.iaload, 1)) (kk : W p l e R s m args below meth c H locs cells slots Q (F0 m (pc + 1) ls (vI (G 10 o i) :: rest))) : W p l e R s m args below meth c H locs cells slots Q (F0 m pc ls (vI i :: .ref (eA E 10 o) :: rest)) := by
  obtain ⟨q0, h0, h1⟩ := gCL (E := E) (G := G) ho rfl
  subst hn
  refine va_iald (D := eD E) C.1 C.2.1 C.2.2.2.2.2.2.2.1 h.1 q0 1 h1 rfl (i_in hi.1 hi.2 hn2) hd ?_
  rw [i_cl hi hn2]
  exact kk
theorem g_bald (C : gC p s m args meth c own cc nL ret E) (h : gH E s G H locs) {o : Int} (ho : gOk 9 o) {i : Int} {n : Nat} (hn : 90 = n) (hn2 : n < 2147483648) (hi : 0 ≤ i ∧ i < n) (hd : decode cc pc = .ok (.baload, 1)) (kk : W p l e R s m args below meth c H locs cells slots Q (F0 m (pc + 1) ls (vI (G 9 o i) :: rest))) : W p l e R s m args below meth c H locs cells slots Q (F0 m pc ls (vI i :: .ref (eA E 9 o) :: rest)) := by
  obtain ⟨q0, h0, h1⟩ := gCL (E := E) (G := G) ho rfl
  subst hn
  refine va_bald (D := eD E) C.1 C.2.1 C.2.2.2.2.2.2.2.1 h.1 q0 0 h1 rfl (i_in hi.1 hi.2 hn2) hd ?_
  rw [i_cl hi hn2]
  exact kk
theorem g_zald (C : gC p s m args meth c own cc nL ret E) (h : gH E s G H locs) {o : Int} (ho : gOk 11 o) {i : Int} {n : Nat} (hn : 12 = n) (hn2 : n < 2147483648) (hi : 0 ≤ i ∧ i < n) (hd : decode cc pc = .ok (.baload, 1)) (kk : W p l e R s m args below meth c H locs cells slots Q (F0 m (pc + 1) ls (vI (G 11 o i) :: rest))) : W p l e R s m args below meth c H locs cells slots Q (F0 m pc ls (vI i :: .ref (eA E 11 o) :: rest)) := by
  obtain ⟨q0, h0, h1⟩ := gCL (E := E) (G := G) ho rfl
  subst hn
  refine va_zald (D := eD E) C.1 C.2.1 C.2.2.2.2.2.2.2.1 h.1 q0 2 h1 rfl (i_in hi.1 hi.2 hn2) hd ?_
  rw [i_cl hi hn2]
  exact kk
theorem g_lald (C : gC p s m args meth c own cc nL ret E) (h : gH E s G H locs) {o : Int} (ho : gOk 13 o) {i : Int} (hi : 0 ≤ i ∧ i < (1 : Nat)) (hd : decode cc pc = .ok (.laload, 1)) (kk : W p l e R s m args below meth c H locs cells slots Q (F0 m (pc + 1) ls (vJ (G 13 o i) :: rest))) : W p l e R s m args below meth c H locs cells slots Q (F0 m pc ls (vI i :: .ref (eA E 13 o) :: rest)) := by
  obtain ⟨q0, h0, h1⟩ := gCL (E := E) (G := G) ho rfl
  refine va_lald (D := eD E) C.1 C.2.1 C.2.2.2.2.2.2.2.1 h.1 q0 4 h1 rfl (i_in hi.1 hi.2 (by decide)) hd ?_
  rw [i_cl hi (by decide)]
  exact kk
theorem g_ald14 (C : gC p s m args meth c own cc nL ret E) (h : gH E s G H locs) {o : Int} (ho : gOk 14 o) {i : Int} (hi : 0 ≤ i ∧ i < 7) (hd : decode cc pc = .ok (.aaload, 1)) (kk : W p l e R s m args below meth c H locs cells slots Q (F0 m (pc + 1) ls (.ref (eA E 5 (7 * o + i)) :: rest))) : W p l e R s m args below meth c H locs cells slots Q (F0 m pc ls (vI i :: .ref (eA E 14 o) :: rest)) := by
  obtain ⟨q0, h0, h1⟩ := gCL (E := E) (G := G) ho rfl
  refine va_aldq (D := eD E) C.1 C.2.1 C.2.2.2.2.2.2.2.1 h.1 q0 5 h1 rfl (i_in hi.1 hi.2 (by decide)) hd ?_
  show W p l e R s m args below meth c H locs cells slots Q (F0 m (pc + 1) ls (.ref (eA E 5 (7 * o + (((Int32.ofInt i).toNatClampNeg : Nat) : Int))) :: rest))
  rw [i_cl (n := 7) hi (by decide)]
  exact kk
theorem g_ald15 (C : gC p s m args meth c own cc nL ret E) (h : gH E s G H locs) {o : Int} (ho : gOk 15 o) {i : Int} (hi : 0 ≤ i ∧ i < 8) (hd : decode cc pc = .ok (.aaload, 1)) (kk : W p l e R s m args below meth c H locs cells slots Q (F0 m (pc + 1) ls (.ref (eA E 1 (8 * o + i)) :: rest))) : W p l e R s m args below meth c H locs cells slots Q (F0 m pc ls (vI i :: .ref (eA E 15 o) :: rest)) := by
  obtain ⟨q0, h0, h1⟩ := gCL (E := E) (G := G) ho rfl
  refine va_aldq (D := eD E) C.1 C.2.1 C.2.2.2.2.2.2.2.1 h.1 q0 6 h1 rfl (i_in hi.1 hi.2 (by decide)) hd ?_
  show W p l e R s m args below meth c H locs cells slots Q (F0 m (pc + 1) ls (.ref (eA E 1 (8 * o + (((Int32.ofInt i).toNatClampNeg : Nat) : Int))) :: rest))
  rw [i_cl (n := 8) hi (by decide)]
  exact kk
theorem g_ald16 (C : gC p s m args meth c own cc nL ret E) (h : gH E s G H locs) {o : Int} (ho : gOk 16 o) {i : Int} (hi : 0 ≤ i ∧ i < 10) (hd : decode cc pc = .ok (.aaload, 1)) (kk : W p l e R s m args below meth c H locs cells slots Q (F0 m (pc + 1) ls (.ref (eA E 6 (10 * o + i)) :: rest))) : W p l e R s m args below meth c H locs cells slots Q (F0 m pc ls (vI i :: .ref (eA E 16 o) :: rest)) := by
  obtain ⟨q0, h0, h1⟩ := gCL (E := E) (G := G) ho rfl
  refine va_aldq (D := eD E) C.1 C.2.1 C.2.2.2.2.2.2.2.1 h.1 q0 7 h1 rfl (i_in hi.1 hi.2 (by decide)) hd ?_
  show W p l e R s m args below meth c H locs cells slots Q (F0 m (pc + 1) ls (.ref (eA E 6 (10 * o + (((Int32.ofInt i).toNatClampNeg : Nat) : Int))) :: rest))
  rw [i_cl (n := 10) hi (by decide)]
  exact kk
theorem g_ald17 (C : gC p s m args meth c own cc nL ret E) (h : gH E s G H locs) {o : Int} (ho : gOk 17 o) {i : Int} (hi : 0 ≤ i ∧ i < 12) (hd : decode cc pc = .ok (.aaload, 1)) (kk : W p l e R s m args below meth c H locs cells slots Q (F0 m (pc + 1) ls (.ref (eA E 2 (12 * o + i)) :: rest))) : W p l e R s m args below meth c H locs cells slots Q (F0 m pc ls (vI i :: .ref (eA E 17 o) :: rest)) := by
  obtain ⟨q0, h0, h1⟩ := gCL (E := E) (G := G) ho rfl
  refine va_aldq (D := eD E) C.1 C.2.1 C.2.2.2.2.2.2.2.1 h.1 q0 8 h1 rfl (i_in hi.1 hi.2 (by decide)) hd ?_
  show W p l e R s m args below meth c H locs cells slots Q (F0 m (pc + 1) ls (.ref (eA E 2 (12 * o + (((Int32.ofInt i).toNatClampNeg : Nat) : Int))) :: rest))
  rw [i_cl (n := 12) hi (by decide)]
  exact kk
theorem g_ald12 (C : gC p s m args meth c own cc nL ret E) (h : gH E s G H locs) {o : Int} (ho : gOk 12 o) {i : Int} (hi : 0 ≤ i ∧ i < 4) (hd : decode cc pc = .ok (.aaload, 1)) (kk : W p l e R s m args below meth c H locs cells slots Q (F0 m (pc + 1) ls (.ref (eA E 3 (G 12 o i)) :: rest))) : W p l e R s m args below meth c H locs cells slots Q (F0 m pc ls (vI i :: .ref (eA E 12 o) :: rest)) := by
  obtain ⟨q0, h0, h1⟩ := gCL (E := E) (G := G) ho rfl
  refine va_aldq (D := eD E) C.1 C.2.1 C.2.2.2.2.2.2.2.1 h.1 q0 3 h1 rfl (i_in hi.1 hi.2 (by decide)) hd ?_
  show W p l e R s m args below meth c H locs cells slots Q (F0 m (pc + 1) ls (.ref (eA E 3 (G 12 o (((Int32.ofInt i).toNatClampNeg : Nat) : Int))) :: rest))
  rw [i_cl (n := 4) hi (by decide)]
  exact kk
theorem upd_eq (f : Nat → Int32) (k : Nat) (x : Int32) : upd f k x = fun j => if j = k then x else f j := rfl
theorem updL_eq (f : Nat → Int64) (k : Nat) (x : Int64) : vp_updL f k x = fun j => if j = k then x else f j := rfl
theorem va_up_eq {α : Type} (f : Nat → α) (k : Nat) (x : α) : va_up f k x = fun j => if j = k then x else f j := rfl
theorem g_iast (C : gC p s m args meth c own cc nL ret E) (h : gH E s G H locs) {o : Int} (ho : gOk 10 o) {i z : Int} {n : Nat} (hn : gLen o = n) (hn2 : n < 2147483648) (hi : 0 ≤ i ∧ i < n) (hd : decode cc pc = .ok (.iastore, 1)) (kk : ∀ (H : Heap) (locs : List Loc), gH E s (gup G 10 o i z) H locs → W p l e R s m args below meth c H locs cells slots Q (F0 m (pc + 1) ls (rest))) : W p l e R s m args below meth c H locs cells slots Q (F0 m pc ls (vI z :: vI i :: .ref (eA E 10 o) :: rest)) := by
  obtain ⟨q0, h0, h1⟩ := gCL (E := E) (G := G) ho rfl
  subst hn
  refine va_iast (D := eD E) C.1 C.2.1 C.2.2.2.2.2.2.2.1 h.1 (gD_of G C.2.2.2.2.2.2.2.2.1) h.2 q0 1 h1 rfl (i_in hi.1 hi.2 hn2) hd (fun H1 locs1 hP _ hS => kk H1 locs1 ⟨?_, hS⟩)
  rw [i_clamp ⟨by omega, by omega⟩, upd_eq, ← gUp_arr (w := Int32.ofInt) hi.1] at hP
  have e9 := wl_set (E := E) (G := G) (G1 := gup G 10 o i z) h0 rfl (fun k' o' hne => gCell_congr (fun f' => gup_ne hne f'))
  show va_P (eD E) vwCl (wl E (gup G 10 o i z)) H1
  rw [← e9]
  exact hP
theorem g_bast (C : gC p s m args meth c own cc nL ret E) (h : gH E s G H locs) {o : Int} (ho : gOk 9 o) {i z : Int} {n : Nat} (hn : 90 = n) (hn2 : n < 2147483648) (hi : 0 ≤ i ∧ i < n) (hz : -128 ≤ z ∧ z ≤ 127) (hd : decode cc pc = .ok (.bastore, 1)) (kk : ∀ (H : Heap) (locs : List Loc), gH E s (gup G 9 o i z) H locs → W p l e R s m args below meth c H locs cells slots Q (F0 m (pc + 1) ls (rest))) : W p l e R s m args below meth c H locs cells slots Q (F0 m pc ls (vI z :: vI i :: .ref (eA E 9 o) :: rest)) := by
  obtain ⟨q0, h0, h1⟩ := gCL (E := E) (G := G) ho rfl
  subst hn
  refine va_bast (D := eD E) C.1 C.2.1 C.2.2.2.2.2.2.2.1 h.1 (gD_of G C.2.2.2.2.2.2.2.2.1) h.2 q0 0 h1 rfl (i_in hi.1 hi.2 hn2) hd (fun H1 locs1 hP _ hS => kk H1 locs1 ⟨?_, hS⟩)
  rw [show vp_nar .byte (Int32.ofInt z) = Int32.ofInt z by rw [vp_nar_byte]; exact i_b hz] at hP
  rw [i_clamp ⟨by omega, by omega⟩, upd_eq, ← gUp_arr (w := Int32.ofInt) hi.1] at hP
  have e9 := wl_set (E := E) (G := G) (G1 := gup G 9 o i z) h0 rfl (fun k' o' hne => gCell_congr (fun f' => gup_ne hne f'))
  show va_P (eD E) vwCl (wl E (gup G 9 o i z)) H1
  rw [← e9]
  exact hP
theorem g_zast (C : gC p s m args meth c own cc nL ret E) (h : gH E s G H locs) {o : Int} (ho : gOk 11 o) {i z : Int} {n : Nat} (hn : 12 = n) (hn2 : n < 2147483648) (hi : 0 ≤ i ∧ i < n) (hz : z = 0 ∨ z = 1) (hd : decode cc pc = .ok (.bastore, 1)) (kk : ∀ (H : Heap) (locs : List Loc), gH E s (gup G 11 o i z) H locs → W p l e R s m args below meth c H locs cells slots Q (F0 m (pc + 1) ls (rest))) : W p l e R s m args below meth c H locs cells slots Q (F0 m pc ls (vI z :: vI i :: .ref (eA E 11 o) :: rest)) := by
  obtain ⟨q0, h0, h1⟩ := gCL (E := E) (G := G) ho rfl
  subst hn
  refine va_zast (D := eD E) C.1 C.2.1 C.2.2.2.2.2.2.2.1 h.1 (gD_of G C.2.2.2.2.2.2.2.2.1) h.2 q0 2 h1 rfl (i_in hi.1 hi.2 hn2) hd (fun H1 locs1 hP _ hS => kk H1 locs1 ⟨?_, hS⟩)
  rw [show vp_nar .boolean (Int32.ofInt z) = Int32.ofInt z by rcases hz with rfl | rfl <;> rfl] at hP
  rw [i_clamp ⟨by omega, by omega⟩, upd_eq, ← gUp_arr (w := Int32.ofInt) hi.1] at hP
  have e9 := wl_set (E := E) (G := G) (G1 := gup G 11 o i z) h0 rfl (fun k' o' hne => gCell_congr (fun f' => gup_ne hne f'))
  show va_P (eD E) vwCl (wl E (gup G 11 o i z)) H1
  rw [← e9]
  exact hP
theorem g_last (C : gC p s m args meth c own cc nL ret E) (h : gH E s G H locs) {o : Int} (ho : gOk 13 o) {i z : Int} (hi : 0 ≤ i ∧ i < (1 : Nat)) (hd : decode cc pc = .ok (.lastore, 1)) (kk : ∀ (H : Heap) (locs : List Loc), gH E s (gup G 13 o i z) H locs → W p l e R s m args below meth c H locs cells slots Q (F0 m (pc + 1) ls (rest))) : W p l e R s m args below meth c H locs cells slots Q (F0 m pc ls (vJ z :: vI i :: .ref (eA E 13 o) :: rest)) := by
  obtain ⟨q0, h0, h1⟩ := gCL (E := E) (G := G) ho rfl
  refine va_last (D := eD E) C.1 C.2.1 C.2.2.2.2.2.2.2.1 h.1 (gD_of G C.2.2.2.2.2.2.2.2.1) h.2 q0 4 h1 rfl (i_in hi.1 hi.2 (by decide)) hd (fun H1 locs1 hP _ hS => kk H1 locs1 ⟨?_, hS⟩)
  rw [i_clamp ⟨by omega, by omega⟩, updL_eq, ← gUp_arr (w := Int64.ofInt) hi.1] at hP
  have e9 := wl_set (E := E) (G := G) (G1 := gup G 13 o i z) h0 rfl (fun k' o' hne => gCell_congr (fun f' => gup_ne hne f'))
  show va_P (eD E) vwCl (wl E (gup G 13 o i z)) H1
  rw [← e9]
  exact hP
theorem g_ast12 (C : gC p s m args meth c own cc nL ret E) (h : gH E s G H locs) {o : Int} (ho : gOk 12 o) {i z : Int} (hz : gOk 3 z) (hi : 0 ≤ i ∧ i < 4) (hd : decode cc pc = .ok (.aastore, 1)) (kk : ∀ (H : Heap) (locs : List Loc), gH E s (gup G 12 o i z) H locs → W p l e R s m args below meth c H locs cells slots Q (F0 m (pc + 1) ls (rest))) : W p l e R s m args below meth c H locs cells slots Q (F0 m pc ls (.ref (eA E 3 z) :: vI i :: .ref (eA E 12 o) :: rest)) := by
  obtain ⟨q0, h0, h1⟩ := gCL (E := E) (G := G) ho rfl
  obtain ⟨q1, g0, g1⟩ := wl_at E G hz
  rw [gCell_get (by decide)] at g1
  refine va_astq (D := eD E) (r := (RX3, TX3, 13)) C.1 C.2.1 C.2.2.2.2.2.2.2.1 h.1 (gD_of G C.2.2.2.2.2.2.2.2.1) h.2 q0 3 q1 3 h1 rfl g1 rfl (i_in hi.1 hi.2 (by decide)) hd (fun H1 locs1 hP _ hS => kk H1 locs1 ⟨?_, hS⟩)
  rw [i_clamp ⟨by omega, by omega⟩, va_up_eq, ← gUp_arr (w := fun z => some (eA E 3 z)) hi.1] at hP
  have e9 := wl_set (E := E) (G := G) (G1 := gup G 12 o i z) h0 rfl (fun k' o' hne => gCell_congr (fun f' => gup_ne hne f'))
  show va_P (eD E) vwCl (wl E (gup G 12 o i z)) H1
  rw [← e9]
  exact hP
end GROW
end
section
/-! ENTRY, ENDS, CALLS over the world -/
def gQi (E : gEnv) (G : GS) (r : Int) : Array Value → State → Outcome → State → Prop := va_Qi (fun (x : Int32) (u : GS) => x = Int32.ofInt r ∧ u = G) (fun u t => gW E u t) (eF E)
def gQl (E : gEnv) (G : GS) (r : Int) : Array Value → State → Outcome → State → Prop := va_Ql (fun (x : Int64) (u : GS) => x = Int64.ofInt r ∧ u = G) (fun u t => gW E u t) (eF E)
def gQd (E : gEnv) (G : GS) (r : UInt64) : Array Value → State → Outcome → State → Prop := va_Qd (fun (x : UInt64) (u : GS) => x = r ∧ u = G) (fun u t => gW E u t) (eF E)
def gQv (E : gEnv) (G : GS) : Array Value → State → Outcome → State → Prop := va_Qv (fun (u : GS) => u = G) (fun u t => gW E u t) (eF E)
abbrev gRm (f lo mc ms : Nat) : Room := { frames := f, cells := mc, slots := ms, locals := lo }
/-- a method's contract over the world -/
def gMet (l : Launch) (y : MethodName) (b : ByteArray) (nL : Nat) (ret : Option FieldType) (f lo mc ms : Nat) (As : List Value) (E : gEnv) (G : GS) (Qc : Array Value → State → Outcome → State → Prop) : Prop :=
  Met l y (.code y b nL ret :: gWords) (gRm f lo mc ms) (va_Pc As (gW E G)) Qc mc ms (eF E)
theorem gW_blind {As : List Value} {E : gEnv} {G : GS} : FrameBlind (va_Pc As (gW E G)) := fun a U g mk q => ⟨q.1, q.2.1, q.2.2.next (U := U.calling g mk a) (State.WarmedH.refl U) (Nat.le_refl _) (fun _ _ _ => rfl)⟩
theorem g_met {l : Launch} {y : MethodName} {b : ByteArray} {nL : Nat} {ret : Option FieldType} {f lo mc ms : Nat} {As : List Value} {E : gEnv} {G : GS} {Qc : Array Value → State → Outcome → State → Prop}
    (hy : plainName y.cls = true) (hn : (lg_sl As).length ≤ nL)
    (body : ∀ (p : Program) (e : Env) (s : State) (m : MethodId) (below : List Frame) (meth : Method) (c : Code), gC p s m As.toArray meth c y.cls b nL ret E → ∀ (H : Heap) (locs : List Loc), gH E s G H locs → ∀ ls, lv_has ls nL (lv_args 0 As) → W p l e (gRm f lo mc ms) s m As.toArray below meth c H locs 0 0 (MQ below Qc As.toArray s mc ms (eF E)) (F0 m 0 ls [])) :
    gMet l y b nL ret f lo mc ms As E G Qc := by
  refine Met.ofW (cc := b) (maxL := nL) (ret := ret) hy rfl ?_
  intro p e s m args below meth c s₁ B hml hv
  obtain ⟨rfl, hP, hK⟩ := hv
  have hts := atoms_spec B.pre
  rw [lg_entry_eq]
  exact body p e s m below meth c ⟨B.exec, B.bytes, B.returns, hml, findClass_of_methodNamed B.named, fun w hw => hts w (List.mem_cons_of_mem _ hw), B.notSynchronized, hK⟩ s.heap [] ⟨hP, va_S.rf⟩ _ (lv_entry As hn)
section GCALL
variable {p : Program} {l : Launch} {e : Env} {R : Room} {s : State} {m : MethodId} {args : Array Value} {below : List Frame} {meth : Method} {c : Code} {H : Heap} {locs : List Loc} {cells slots : Nat} {Q : State → Prop}
variable {pc : Nat} {ls : Array Slot} {rest st : List Value} {own : String} {cc : ByteArray} {nL : Nat} {ret : Option FieldType} {E : gEnv} {G G1 : GS}
theorem gEnd (C : gC p s m args meth c own cc nL ret E) (h : gH E s G H locs) {t : State} (ht : t.heap = H) (hW : s.WarmedH t.vm) : gW E G t :=
  ⟨by rw [ht]; exact h.1, C.2.2.2.2.2.2.2.next hW (by rw [ht]; exact h.2.1) (fun q h1 h2 => by rw [ht]; exact h.2.2.1 q h1 h2)⟩
theorem g_iret (C : gC p s m args meth c own cc nL (some .int) E) (h : gH E s G H locs) {r r1 : Int} (he : some (G, r) = some (G1, r1)) (hd : decode cc pc = .ok (.ireturn, 1)) : W p l e R s m args below meth c H locs cells slots (MQ below (gQi E G1 r1) args s cells slots (eF E)) (F0 m pc ls [vI r]) := by
  cases he
  exact W.iret C.1 C.2.1 C.2.2.1 (fun t ht hW => ⟨⟨_, G, rfl, ⟨rfl, rfl⟩, gEnd C h ht hW⟩, h.2.F ht⟩) h.2.2.2 hd C.2.2.2.2.2.2.1
theorem g_zret (C : gC p s m args meth c own cc nL (some .boolean) E) (h : gH E s G H locs) {r r1 : Int} (hz : r = 0 ∨ r = 1) (he : some (G, r) = some (G1, r1)) (hd : decode cc pc = .ok (.ireturn, 1)) : W p l e R s m args below meth c H locs cells slots (MQ below (gQi E G1 r1) args s cells slots (eF E)) (F0 m pc ls [vI r]) := by
  cases he
  exact W.zret C.1 C.2.1 C.2.2.1 (by rcases hz with rfl | rfl <;> rfl) (fun t ht hW => ⟨⟨_, G, rfl, ⟨rfl, rfl⟩, gEnd C h ht hW⟩, h.2.F ht⟩) h.2.2.2 hd C.2.2.2.2.2.2.1
theorem g_lret (C : gC p s m args meth c own cc nL (some .long) E) (h : gH E s G H locs) {r r1 : Int} (he : some (G, r) = some (G1, r1)) (hd : decode cc pc = .ok (.lreturn, 1)) : W p l e R s m args below meth c H locs cells slots (MQ below (gQl E G1 r1) args s cells slots (eF E)) (F0 m pc ls [vJ r]) := by
  cases he
  exact W.lret C.1 C.2.1 C.2.2.1 (fun t ht hW => ⟨⟨_, G, rfl, ⟨rfl, rfl⟩, gEnd C h ht hW⟩, h.2.F ht⟩) h.2.2.2 hd C.2.2.2.2.2.2.1
theorem g_dret (C : gC p s m args meth c own cc nL (some .double) E) (h : gH E s G H locs) {r r1 : UInt64} (he : some (G, r) = some (G1, r1)) (hd : decode cc pc = .ok (.dreturn, 1)) : W p l e R s m args below meth c H locs cells slots (MQ below (gQd E G1 r1) args s cells slots (eF E)) (F0 m pc ls [.double r]) := by
  cases he
  exact W.dret C.1 C.2.1 C.2.2.1 (fun t ht hW => ⟨⟨_, G, rfl, ⟨rfl, rfl⟩, gEnd C h ht hW⟩, h.2.F ht⟩) h.2.2.2 hd C.2.2.2.2.2.2.1
theorem g_vret (C : gC p s m args meth c own cc nL none E) (h : gH E s G H locs) (he : some G = some G1) (hd : decode cc pc = .ok (.return_, 1)) : W p l e R s m args below meth c H locs cells slots (MQ below (gQv E G1) args s cells slots (eF E)) (F0 m pc ls []) := by
  cases he
  exact W.vret C.1 C.2.1 C.2.2.1 (fun t ht hW => ⟨⟨G, rfl, rfl, gEnd C h ht hW⟩, h.2.F ht⟩) h.2.2.2 hd C.2.2.2.2.2.2.1
/-- what a callee's name owes: its class isn't special, so many arguments -/
def gNy (y : MethodName) (n : Nat) : Prop := y.cls ≠ "java/lang/invoke/MethodHandle" ∧ y.cls ≠ "java/lang/invoke/VarHandle" ∧ (parseMethodDescriptor y.desc).map (fun d => d.parameters.length) = some n
theorem g_runV (C : gC p s m args meth c own cc nL ret E) (h : gH E s G H locs) {k : Nat} {o : Int} (ho : gOk k o) (hk9 : k < 9) {CN : String} {T : u_T} {N : Nat} (hc : vwCl[k]? = some (CN, T, N)) {ix n : Nat} {y : MethodName} {b : ByteArray} {nLy f lo mc ms : Nat} {rt : Option FieldType} {As : List Value} {Qc : Array Value → State → Outcome → State → Prop}
    (hM : gMet l y b nLy rt f lo mc ms (.ref (eA E k o) :: As) E G Qc) (w1 : Cond.methodLink own ix y ∈ gWords) (w2 : Cond.instanceMethod y ∈ gWords) (w3 : Cond.selects CN y y ∈ gWords) (w4 : Cond.initialized CN ∈ gWords) (w5 : Cond.code y b nLy rt ∈ gWords)
    (hyc : y.cls = CN) (hy : gNy y n) (hn : As.length = n) (hR : f + 1 ≤ R.frames ∧ 8 + (nLy + 11) + lo ≤ R.locals) (hls : ls.size = nL) (hst : st = As.reverse ++ .ref (eA E k o) :: rest) (hrest : (rest.map fun v => v.category).sum ≤ 8) (hd : decode cc pc = .ok (.invokevirtual ix, 3)) (hcs : cells + mc ≤ R.cells ∧ slots + ms ≤ R.slots) :
    va_Run p l e R s m args below meth c H locs cells slots mc ms (F0 m pc ls st) rest (Qc (Value.ref (eA E k o) :: As).toArray) (eF E) := by
  obtain ⟨q0, h0, h1⟩ := wl_at E G ho
  rw [gCell_get hk9] at h1
  refine va_runV (As := As) (rest := rest) ⟨C.1, C.2.1, C.2.2.2.1, C.2.2.2.2.1, C.2.2.2.2.2.1⟩ hM (cwV n C.2.2.2.2.2.1 (gwIn ?_) rfl rfl rfl ⟨hyc, hy⟩ hR) ⟨gW_blind, va_recv C.2.2.2.2.2.2.2.1 h.1 hc h1, fun U hU hW => ⟨rfl, gEnd C h hU hW⟩⟩ rfl hn hls hst (lv_room hrest) hd hcs
  intro w hw
  simp only [wsV, List.cons_append, List.nil_append, List.mem_cons] at hw
  rcases hw with rfl | rfl | rfl | rfl | rfl | hw
  · exact w1
  · exact w2
  · exact w3
  · exact w4
  · exact w5
  · exact hw
theorem g_runS (C : gC p s m args meth c own cc nL ret E) (h : gH E s G H locs) {ix n : Nat} {y : MethodName} {b : ByteArray} {nLy f lo mc ms : Nat} {rt : Option FieldType} {As : List Value} {Qc : Array Value → State → Outcome → State → Prop}
    (hM : gMet l y b nLy rt f lo mc ms As E G Qc) (w1 : Cond.methodLink own ix y ∈ gWords) (w2 : Cond.static y ∈ gWords) (w4 : Cond.initialized own ∈ gWords) (w5 : Cond.code y b nLy rt ∈ gWords)
    (hyc : y.cls = own) (hy : gNy y n) (hn : As.length = n) (hR : f + 1 ≤ R.frames ∧ 8 + (nLy + 11) + lo ≤ R.locals) (hls : ls.size = nL) (hst : st = As.reverse ++ rest) (hrest : (rest.map fun v => v.category).sum ≤ 8) (hd : decode cc pc = .ok (.invokestatic ix, 3)) (hcs : cells + mc ≤ R.cells ∧ slots + ms ≤ R.slots) :
    va_Run p l e R s m args below meth c H locs cells slots mc ms (F0 m pc ls st) rest (Qc As.toArray) (eF E) := by
  refine va_runS (As := As) (rest := rest) ⟨C.1, C.2.1, C.2.2.2.1, C.2.2.2.2.1, C.2.2.2.2.2.1⟩ hM (cwS n C.2.2.2.2.2.1 (gwIn ?_) rfl rfl rfl ⟨hyc, hy⟩ hR) ⟨gW_blind, fun U hU hW => ⟨rfl, gEnd C h hU hW⟩⟩ rfl hn hls hst (lv_room hrest) hd hcs
  intro w hw
  simp only [wsS, List.cons_append, List.nil_append, List.mem_cons] at hw
  rcases hw with rfl | rfl | rfl | rfl | hw
  · exact w1
  · exact w2
  · exact w4
  · exact w5
  · exact hw
/-- a nest mate's static method -/
theorem g_runSN (C : gC p s m args meth c own cc nL ret E) (h : gH E s G H locs) {ix n : Nat} {host : String} {y : MethodName} {b : ByteArray} {nLy f lo mc ms : Nat} {rt : Option FieldType} {As : List Value} {Qc : Array Value → State → Outcome → State → Prop}
    (hM : gMet l y b nLy rt f lo mc ms As E G Qc) (w1 : (own, ix, y, host) ∈ gNest) (w2 : Cond.static y ∈ gWords) (w4 : Cond.initialized y.cls ∈ gWords) (w5 : Cond.code y b nLy rt ∈ gWords)
    (hy : gNy y n) (hn : As.length = n) (hR : f + 1 ≤ R.frames ∧ 8 + (nLy + 11) + lo ≤ R.locals) (hls : ls.size = nL) (hst : st = As.reverse ++ rest) (hrest : (rest.map fun v => v.category).sum ≤ 8) (hd : decode cc pc = .ok (.invokestatic ix, 3)) (hcs : cells + mc ≤ R.cells ∧ slots + ms ≤ R.slots) :
    va_Run p l e R s m args below meth c H locs cells slots mc ms (F0 m pc ls st) rest (Qc As.toArray) (eF E) := by
  refine va_runSN (As := As) (rest := rest) (host := host) ⟨C.1, C.2.1, C.2.2.2.1, C.2.2.2.2.1, C.2.2.2.2.2.1⟩ hM ⟨va_cnB n C.2.2.2.2.2.1 (gwIn ?_) rfl rfl rfl (C.2.2.2.2.2.2.2.2.2.2.2.1 _ w1) (C.2.2.2.2.2.1 _ w4) hy hR, C.2.2.2.2.2.1 _ w2, trivial⟩ ⟨gW_blind, fun U hU hW => ⟨rfl, gEnd C h hU hW⟩⟩ rfl hn hls hst (lv_room hrest) hd hcs
  intro w hw
  rcases List.mem_cons.mp hw with rfl | hw
  · exact w5
  · exact hw
variable {a : Array Value} {r : Int} {mc ms : Nat}
theorem g_ci (h : gH E s G H locs) (hr : va_Run p l e R s m args below meth c H locs cells slots mc ms (F0 m pc ls st) rest (gQi E G1 r a) (eF E)) (kk : ∀ (H : Heap) (locs : List Loc), gH E s G1 H locs → W p l e R s m args below meth c H locs (cells + mc) (slots + ms) Q (F0 m (pc + 3) ls (vI r :: rest))) : W p l e R s m args below meth c H locs cells slots Q (F0 m pc ls st) := by
  refine va_calli hr h.2 (fun q _ z => z) (fun q z => z) (fun r9 u t H1 locs1 ht hvm hw hB hz1 hk1 hS => ?_)
  obtain ⟨rfl, rfl⟩ := hw
  exact kk H1 locs1 ⟨by rw [← ht]; exact hB.1, hS⟩
theorem g_cl (h : gH E s G H locs) (hr : va_Run p l e R s m args below meth c H locs cells slots mc ms (F0 m pc ls st) rest (gQl E G1 r a) (eF E)) (kk : ∀ (H : Heap) (locs : List Loc), gH E s G1 H locs → W p l e R s m args below meth c H locs (cells + mc) (slots + ms) Q (F0 m (pc + 3) ls (vJ r :: rest))) : W p l e R s m args below meth c H locs cells slots Q (F0 m pc ls st) := by
  refine va_calll hr h.2 (fun q _ z => z) (fun q z => z) (fun r9 u t H1 locs1 ht hvm hw hB hz1 hk1 hS => ?_)
  obtain ⟨rfl, rfl⟩ := hw
  exact kk H1 locs1 ⟨by rw [← ht]; exact hB.1, hS⟩
theorem g_cd {d : UInt64} (h : gH E s G H locs) (hr : va_Run p l e R s m args below meth c H locs cells slots mc ms (F0 m pc ls st) rest (gQd E G1 d a) (eF E)) (kk : ∀ (H : Heap) (locs : List Loc), gH E s G1 H locs → W p l e R s m args below meth c H locs (cells + mc) (slots + ms) Q (F0 m (pc + 3) ls (.double d :: rest))) : W p l e R s m args below meth c H locs cells slots Q (F0 m pc ls st) := by
  refine va_calld hr h.2 (fun q _ z => z) (fun q z => z) (fun r9 u t H1 locs1 ht hvm hw hB hz1 hk1 hS => ?_)
  obtain ⟨rfl, rfl⟩ := hw
  exact kk H1 locs1 ⟨by rw [← ht]; exact hB.1, hS⟩
theorem g_cv (h : gH E s G H locs) (hr : va_Run p l e R s m args below meth c H locs cells slots mc ms (F0 m pc ls st) rest (gQv E G1 a) (eF E)) (kk : ∀ (H : Heap) (locs : List Loc), gH E s G1 H locs → W p l e R s m args below meth c H locs (cells + mc) (slots + ms) Q (F0 m (pc + 3) ls rest)) : W p l e R s m args below meth c H locs cells slots Q (F0 m pc ls st) := by
  refine va_callv hr h.2 (fun q _ z => z) (fun q z => z) (fun u t H1 locs1 ht hvm hw hB hz1 hk1 hS => ?_)
  subst hw
  exact kk H1 locs1 ⟨by rw [← ht]; exact hB.1, hS⟩
theorem g_max (C : gC p s m args meth c own cc nL ret E) {ix : Nat} {x y : Int} (hx : inR x) (hy : inR y) (w1 : Cond.methodLink own ix Lib.Math.max.name ∈ gWords) (w2 : Cond.static Lib.Math.max.name ∈ gWords) (w3 : Cond.initialized "java/lang/Math" ∈ gWords) (w4 : Cond.code Lib.Math.max.name Lib.Math.max.code 2 (some .int) ∈ gWords)
    (hls : ls.size = nL) (hf : 1 ≤ R.frames) (hlo : (rest.map fun v => v.category).sum + 13 ≤ R.locals) (hc : cells ≤ R.cells) (hs : slots ≤ R.slots) (hd : decode cc pc = .ok (.invokestatic ix, 3)) (kk : W p l e R s m args below meth c H locs cells slots Q (F0 m (pc + 3) ls (vI (if x < y then y else x) :: rest))) : W p l e R s m args below meth c H locs cells slots Q (F0 m pc ls (vI y :: vI x :: rest)) := by
  have ht := C.2.2.2.2.2.1
  refine va_mmax C.1 C.2.1 (C.2.2.2.1.trans hls.symm) C.2.2.2.2.1 (ht _ w1) (ht _ w2) (ht _ w3) (ht _ w4) hf hlo hc hs hd ?_
  by_cases q : x < y
  · rw [if_pos ((i_lt hx hy).mpr q)]
    rw [if_pos q] at kk
    exact kk
  · rw [if_neg (fun z => q ((i_lt hx hy).mp z))]
    rw [if_neg q] at kk
    exact kk
theorem g_min (C : gC p s m args meth c own cc nL ret E) {ix : Nat} {x y : Int} (hx : inR x) (hy : inR y) (w1 : Cond.methodLink own ix Lib.Math.min.name ∈ gWords) (w2 : Cond.static Lib.Math.min.name ∈ gWords) (w3 : Cond.initialized "java/lang/Math" ∈ gWords) (w4 : Cond.code Lib.Math.min.name Lib.Math.min.code 2 (some .int) ∈ gWords)
    (hls : ls.size = nL) (hf : 1 ≤ R.frames) (hlo : (rest.map fun v => v.category).sum + 13 ≤ R.locals) (hc : cells ≤ R.cells) (hs : slots ≤ R.slots) (hd : decode cc pc = .ok (.invokestatic ix, 3)) (kk : W p l e R s m args below meth c H locs cells slots Q (F0 m (pc + 3) ls (vI (if y < x then y else x) :: rest))) : W p l e R s m args below meth c H locs cells slots Q (F0 m pc ls (vI y :: vI x :: rest)) := by
  have ht := C.2.2.2.2.2.1
  refine va_mmin C.1 C.2.1 (C.2.2.2.1.trans hls.symm) C.2.2.2.2.1 (ht _ w1) (ht _ w2) (ht _ w3) (ht _ w4) hf hlo hc hs hd ?_
  by_cases q : y < x
  · rw [if_pos ((i_lt hy hx).mpr q)]
    rw [if_pos q] at kk
    exact kk
  · rw [if_neg (fun z => q ((i_lt hy hx).mp z))]
    rw [if_neg q] at kk
    exact kk
end GCALL
end
section
/-! LINKS: a row for each field reference of the classes' constant pools; the callees' names; the rows of long comparisons -/
def gFuel : Nat := 3000
abbrev inJ (z : Int) : Prop := -9223372036854775808 ≤ z ∧ z ≤ 9223372036854775807
def gj {α : Type} (z : Int) (k : Option α) : Option α := if inJ z then k else none
theorem gj_s {α : Type} {z : Int} {k : Option α} {r : α} (h : gj z k = some r) : inJ z ∧ k = some r := by
  unfold gj at h
  split at h
  · exact ⟨by assumption, h⟩
  · cases h
/-- the double is a number -/
def gn {α : Type} (z : UInt64) (k : Option α) : Option α := if z &&& 0x7fffffffffffffff ≤ 0x7ff0000000000000 then k else none
theorem gn_s {α : Type} {z : UInt64} {k : Option α} {r : α} (h : gn z k = some r) : vf_n64 z ∧ k = some r := by
  unfold gn at h
  split at h
  · exact ⟨by assumption, h⟩
  · cases h
/-- a name for a long world -/
def nm {α : Type} (g : GS) (k : GS → Option α) : Option α := k g
theorem nm_s {α : Type} {g : GS} {k : GS → Option α} {r : α} (h : nm g k = some r) : ∃ g1, g = g1 ∧ k g1 = some r := ⟨g, rfl, h⟩
theorem j_of_le {x : Int} (h : inJ x) : (Int64.ofInt x).toInt = x := Int64.toInt_ofInt_of_le (by have := h.1; omega) (by have := h.2; omega)
theorem j_lt {x y : Int} (hx : inJ x) (hy : inJ y) : Int64.ofInt x < Int64.ofInt y ↔ x < y := by rw [Int64.lt_iff_toInt_lt, j_of_le hx, j_of_le hy]
theorem j_eq {x y : Int} (hx : inJ x) (hy : inJ y) : Int64.ofInt x = Int64.ofInt y ↔ x = y := ⟨fun h => by rw [← j_of_le hx, ← j_of_le hy, h], fun h => by rw [h]⟩
theorem j_cmp {x y : Int} (hx : inJ x) (hy : inJ y) : lg_cmp (Int64.ofInt x) (Int64.ofInt y) = Int32.ofInt (if y < x then 1 else if x = y then 0 else -1) := by
  unfold lg_cmp
  by_cases h1 : y < x
  · rw [if_pos h1, if_pos ((j_lt hy hx).mpr h1)]
    rfl
  · rw [if_neg h1, if_neg (fun z => h1 ((j_lt hy hx).mp z))]
    by_cases h2 : x = y
    · rw [if_pos h2, if_pos (by rw [h2])]
      rfl
    · rw [if_neg h2, if_neg (fun z => h2 ((j_eq hx hy).mp z))]
      rfl
theorem ok0_0 : gOk 0 0 := gok0 (by decide) (by decide)
theorem ok4_0 : gOk 4 0 := gok0 (by decide) (by decide)
theorem ok7_0 : gOk 7 0 := gok0 (by decide) (by decide)
theorem ok8_0 : gOk 8 0 := gok0 (by decide) (by decide)
theorem ok9_0 : gOk 9 0 := gok0 (by decide) (by decide)
theorem ok11_0 : gOk 11 0 := gok0 (by decide) (by decide)
theorem ok12_0 : gOk 12 0 := gok0 (by decide) (by decide)
theorem ok13_0 : gOk 13 0 := gok0 (by decide) (by decide)
theorem ok10_0 : gOk 10 0 := ⟨by decide, by decide, by decide⟩
theorem ok10_1 : gOk 10 1 := ⟨by decide, by decide, by decide⟩
theorem ok10_2 : gOk 10 2 := ⟨by decide, by decide, by decide⟩
theorem ok10_3 : gOk 10 3 := ⟨by decide, by decide, by decide⟩
theorem ok10_4 : gOk 10 4 := ⟨by decide, by decide, by decide⟩
theorem ok3_0 : gOk 3 0 := ⟨by decide, by decide, by decide⟩
theorem ok3_1 : gOk 3 1 := ⟨by decide, by decide, by decide⟩
section GLINK
variable {p : Program} {l : Launch} {e : Env} {R : Room} {s : State} {m : MethodId} {args : Array Value} {below : List Frame} {meth : Method} {c : Code} {H : Heap} {locs : List Loc} {cells slots : Nat} {Q : State → Prop}
variable {pc : Nat} {ls : Array Slot} {rest : List Value} {own : String} {cc : ByteArray} {nL : Nat} {ret : Option FieldType} {E : gEnv} {G : GS}
theorem g_lcmp_eq (C : gC p s m args meth c own cc nL ret E) {x y : Int} {off : Int} {tgt : Nat} (hx : inJ x) (hy : inJ y) (ht : ((pc + 1 : Nat) : Int) + off = (tgt : Int)) (hd : decode cc pc = .ok (.lcmp, 1)) (hd2 : decode cc (pc + 1) = .ok (.ifCond .eq off, 3)) (kt : x = y → W p l e R s m args below meth c H locs cells slots Q (F0 m tgt ls (rest))) (kf : ¬ (x = y) → W p l e R s m args below meth c H locs cells slots Q (F0 m (pc + 1 + 3) ls (rest))) : W p l e R s m args below meth c H locs cells slots Q (F0 m pc ls (vJ y :: vJ x :: rest)) := by
  refine W.lcmp C.1 C.2.1 hd ?_
  rw [j_cmp hx hy]
  refine g_if_eq C (x := if y < x then 1 else if x = y then 0 else -1) (by split <;> first | decide | (split <;> decide)) ht hd2 (fun q => kt ?_) (fun q => kf ?_)
  · by_cases h1 : y < x
    · rw [if_pos h1] at q
      first | exact h1 | exact absurd q (by decide)
    · rw [if_neg h1] at q
      by_cases h2 : x = y
      · rw [if_pos h2] at q
        first | exact h2 | exact absurd q (by decide)
      · rw [if_neg h2] at q
        first | omega | exact absurd q (by decide)
  · by_cases h1 : y < x
    · rw [if_pos h1] at q
      first | (intro z; omega) | exact absurd (by decide) q
    · rw [if_neg h1] at q
      by_cases h2 : x = y
      · rw [if_pos h2] at q
        first | (intro z; omega) | exact absurd (by decide) q
      · rw [if_neg h2] at q
        first | exact h1 | exact h2 | exact absurd (by decide) q | (intro z; omega)
theorem g_lcmp_ne (C : gC p s m args meth c own cc nL ret E) {x y : Int} {off : Int} {tgt : Nat} (hx : inJ x) (hy : inJ y) (ht : ((pc + 1 : Nat) : Int) + off = (tgt : Int)) (hd : decode cc pc = .ok (.lcmp, 1)) (hd2 : decode cc (pc + 1) = .ok (.ifCond .ne off, 3)) (kt : x = y → W p l e R s m args below meth c H locs cells slots Q (F0 m (pc + 1 + 3) ls (rest))) (kf : ¬ (x = y) → W p l e R s m args below meth c H locs cells slots Q (F0 m tgt ls (rest))) : W p l e R s m args below meth c H locs cells slots Q (F0 m pc ls (vJ y :: vJ x :: rest)) := by
  refine W.lcmp C.1 C.2.1 hd ?_
  rw [j_cmp hx hy]
  refine g_if_ne C (x := if y < x then 1 else if x = y then 0 else -1) (by split <;> first | decide | (split <;> decide)) ht hd2 (fun q => kt ?_) (fun q => kf ?_)
  · by_cases h1 : y < x
    · rw [if_pos h1] at q
      first | exact h1 | exact absurd q (by decide)
    · rw [if_neg h1] at q
      by_cases h2 : x = y
      · rw [if_pos h2] at q
        first | exact h2 | exact absurd q (by decide)
      · rw [if_neg h2] at q
        first | omega | exact absurd q (by decide)
  · by_cases h1 : y < x
    · rw [if_pos h1] at q
      first | (intro z; omega) | exact absurd (by decide) q
    · rw [if_neg h1] at q
      by_cases h2 : x = y
      · rw [if_pos h2] at q
        first | (intro z; omega) | exact absurd (by decide) q
      · rw [if_neg h2] at q
        first | exact h1 | exact h2 | exact absurd (by decide) q | (intro z; omega)
theorem g_lcmp_lt (C : gC p s m args meth c own cc nL ret E) {x y : Int} {off : Int} {tgt : Nat} (hx : inJ x) (hy : inJ y) (ht : ((pc + 1 : Nat) : Int) + off = (tgt : Int)) (hd : decode cc pc = .ok (.lcmp, 1)) (hd2 : decode cc (pc + 1) = .ok (.ifCond .lt off, 3)) (kt : x < y → W p l e R s m args below meth c H locs cells slots Q (F0 m tgt ls (rest))) (kf : ¬ (x < y) → W p l e R s m args below meth c H locs cells slots Q (F0 m (pc + 1 + 3) ls (rest))) : W p l e R s m args below meth c H locs cells slots Q (F0 m pc ls (vJ y :: vJ x :: rest)) := by
  refine W.lcmp C.1 C.2.1 hd ?_
  rw [j_cmp hx hy]
  refine g_if_lt C (x := if y < x then 1 else if x = y then 0 else -1) (by split <;> first | decide | (split <;> decide)) ht hd2 (fun q => kt ?_) (fun q => kf ?_)
  · by_cases h1 : y < x
    · rw [if_pos h1] at q
      first | exact h1 | exact absurd q (by decide)
    · rw [if_neg h1] at q
      by_cases h2 : x = y
      · rw [if_pos h2] at q
        first | exact h2 | exact absurd q (by decide)
      · rw [if_neg h2] at q
        first | omega | exact absurd q (by decide)
  · by_cases h1 : y < x
    · rw [if_pos h1] at q
      first | (intro z; omega) | exact absurd (by decide) q
    · rw [if_neg h1] at q
      by_cases h2 : x = y
      · rw [if_pos h2] at q
        first | (intro z; omega) | exact absurd (by decide) q
      · rw [if_neg h2] at q
        first | exact h1 | exact h2 | exact absurd (by decide) q | (intro z; omega)
theorem g_lcmp_ge (C : gC p s m args meth c own cc nL ret E) {x y : Int} {off : Int} {tgt : Nat} (hx : inJ x) (hy : inJ y) (ht : ((pc + 1 : Nat) : Int) + off = (tgt : Int)) (hd : decode cc pc = .ok (.lcmp, 1)) (hd2 : decode cc (pc + 1) = .ok (.ifCond .ge off, 3)) (kt : x < y → W p l e R s m args below meth c H locs cells slots Q (F0 m (pc + 1 + 3) ls (rest))) (kf : ¬ (x < y) → W p l e R s m args below meth c H locs cells slots Q (F0 m tgt ls (rest))) : W p l e R s m args below meth c H locs cells slots Q (F0 m pc ls (vJ y :: vJ x :: rest)) := by
  refine W.lcmp C.1 C.2.1 hd ?_
  rw [j_cmp hx hy]
  refine g_if_ge C (x := if y < x then 1 else if x = y then 0 else -1) (by split <;> first | decide | (split <;> decide)) ht hd2 (fun q => kt ?_) (fun q => kf ?_)
  · by_cases h1 : y < x
    · rw [if_pos h1] at q
      first | exact h1 | exact absurd q (by decide)
    · rw [if_neg h1] at q
      by_cases h2 : x = y
      · rw [if_pos h2] at q
        first | exact h2 | exact absurd q (by decide)
      · rw [if_neg h2] at q
        first | omega | exact absurd q (by decide)
  · by_cases h1 : y < x
    · rw [if_pos h1] at q
      first | (intro z; omega) | exact absurd (by decide) q
    · rw [if_neg h1] at q
      by_cases h2 : x = y
      · rw [if_pos h2] at q
        first | (intro z; omega) | exact absurd (by decide) q
      · rw [if_neg h2] at q
        first | exact h1 | exact h2 | exact absurd (by decide) q | (intro z; omega)
theorem g_lcmp_gt (C : gC p s m args meth c own cc nL ret E) {x y : Int} {off : Int} {tgt : Nat} (hx : inJ x) (hy : inJ y) (ht : ((pc + 1 : Nat) : Int) + off = (tgt : Int)) (hd : decode cc pc = .ok (.lcmp, 1)) (hd2 : decode cc (pc + 1) = .ok (.ifCond .gt off, 3)) (kt : y < x → W p l e R s m args below meth c H locs cells slots Q (F0 m tgt ls (rest))) (kf : ¬ (y < x) → W p l e R s m args below meth c H locs cells slots Q (F0 m (pc + 1 + 3) ls (rest))) : W p l e R s m args below meth c H locs cells slots Q (F0 m pc ls (vJ y :: vJ x :: rest)) := by
  refine W.lcmp C.1 C.2.1 hd ?_
  rw [j_cmp hx hy]
  refine g_if_gt C (x := if y < x then 1 else if x = y then 0 else -1) (by split <;> first | decide | (split <;> decide)) ht hd2 (fun q => kt ?_) (fun q => kf ?_)
  · by_cases h1 : y < x
    · rw [if_pos h1] at q
      first | exact h1 | exact absurd q (by decide)
    · rw [if_neg h1] at q
      by_cases h2 : x = y
      · rw [if_pos h2] at q
        first | exact h2 | exact absurd q (by decide)
      · rw [if_neg h2] at q
        first | omega | exact absurd q (by decide)
  · by_cases h1 : y < x
    · rw [if_pos h1] at q
      first | (intro z; omega) | exact absurd (by decide) q
    · rw [if_neg h1] at q
      by_cases h2 : x = y
      · rw [if_pos h2] at q
        first | (intro z; omega) | exact absurd (by decide) q
      · rw [if_neg h2] at q
        first | exact h1 | exact h2 | exact absurd (by decide) q | (intro z; omega)
theorem g_lcmp_le (C : gC p s m args meth c own cc nL ret E) {x y : Int} {off : Int} {tgt : Nat} (hx : inJ x) (hy : inJ y) (ht : ((pc + 1 : Nat) : Int) + off = (tgt : Int)) (hd : decode cc pc = .ok (.lcmp, 1)) (hd2 : decode cc (pc + 1) = .ok (.ifCond .le off, 3)) (kt : y < x → W p l e R s m args below meth c H locs cells slots Q (F0 m (pc + 1 + 3) ls (rest))) (kf : ¬ (y < x) → W p l e R s m args below meth c H locs cells slots Q (F0 m tgt ls (rest))) : W p l e R s m args below meth c H locs cells slots Q (F0 m pc ls (vJ y :: vJ x :: rest)) := by
  refine W.lcmp C.1 C.2.1 hd ?_
  rw [j_cmp hx hy]
  refine g_if_le C (x := if y < x then 1 else if x = y then 0 else -1) (by split <;> first | decide | (split <;> decide)) ht hd2 (fun q => kt ?_) (fun q => kf ?_)
  · by_cases h1 : y < x
    · rw [if_pos h1] at q
      first | exact h1 | exact absurd q (by decide)
    · rw [if_neg h1] at q
      by_cases h2 : x = y
      · rw [if_pos h2] at q
        first | exact h2 | exact absurd q (by decide)
      · rw [if_neg h2] at q
        first | omega | exact absurd q (by decide)
  · by_cases h1 : y < x
    · rw [if_pos h1] at q
      first | (intro z; omega) | exact absurd (by decide) q
    · rw [if_neg h1] at q
      by_cases h2 : x = y
      · rw [if_pos h2] at q
        first | (intro z; omega) | exact absurd (by decide) q
      · rw [if_neg h2] at q
        first | exact h1 | exact h2 | exact absurd (by decide) q | (intro z; omega)
theorem gf_X5_7 (C : gC p s m args meth c RX5 cc nL ret E) (h : gH E s G H locs) {o : Int} (ho : gOk 5 o) (hd : decode cc pc = .ok (.getfield 7, 3)) (kk : W p l e R s m args below meth c H locs cells slots Q (F0 m (pc + 3) ls (vI (G 5 o 0) :: rest))) : W p l e R s m args below meth c H locs cells slots Q (F0 m pc ls (.ref (eA E 5 o) :: rest)) := g_get C h ho (T := TX5) rfl 0 (by decide) (by decide) wF_X5_7 rfl rfl hd kk
theorem gp_X5_7 (C : gC p s m args meth c RX5 cc nL ret E) (h : gH E s G H locs) {o : Int} (ho : gOk 5 o) {z : Int} (hd : decode cc pc = .ok (.putfield 7, 3)) (kk : ∀ (H : Heap) (locs : List Loc), gH E s (gup G 5 o 0 z) H locs → W p l e R s m args below meth c H locs cells slots Q (F0 m (pc + 3) ls (rest))) : W p l e R s m args below meth c H locs cells slots Q (F0 m pc ls (vI z :: .ref (eA E 5 o) :: rest)) := g_put C h ho (T := TX5) rfl 0 (by decide) (by decide) wF_X5_7 rfl rfl rfl (ty := .int) (by decide +kernel) rfl rfl hd kk
theorem gf_X7_53 (C : gC p s m args meth c RX7 cc nL ret E) (h : gH E s G H locs) {o : Int} (ho : gOk 5 o) (hd : decode cc pc = .ok (.getfield 53, 3)) (kk : W p l e R s m args below meth c H locs cells slots Q (F0 m (pc + 3) ls (vI (G 5 o 0) :: rest))) : W p l e R s m args below meth c H locs cells slots Q (F0 m pc ls (.ref (eA E 5 o) :: rest)) := g_get C h ho (T := TX5) rfl 0 (by decide) (by decide) wF_X7_53 rfl rfl hd kk
theorem gp_X7_53 (C : gC p s m args meth c RX7 cc nL ret E) (h : gH E s G H locs) {o : Int} (ho : gOk 5 o) {z : Int} (hd : decode cc pc = .ok (.putfield 53, 3)) (kk : ∀ (H : Heap) (locs : List Loc), gH E s (gup G 5 o 0 z) H locs → W p l e R s m args below meth c H locs cells slots Q (F0 m (pc + 3) ls (rest))) : W p l e R s m args below meth c H locs cells slots Q (F0 m pc ls (vI z :: .ref (eA E 5 o) :: rest)) := g_put C h ho (T := TX5) rfl 0 (by decide) (by decide) wF_X7_53 rfl rfl rfl (ty := .int) (by decide +kernel) rfl rfl hd kk
theorem gf_X3_206 (C : gC p s m args meth c RX3 cc nL ret E) (h : gH E s G H locs) {o : Int} (ho : gOk 5 o) (hd : decode cc pc = .ok (.getfield 206, 3)) (kk : W p l e R s m args below meth c H locs cells slots Q (F0 m (pc + 3) ls (vI (G 5 o 0) :: rest))) : W p l e R s m args below meth c H locs cells slots Q (F0 m pc ls (.ref (eA E 5 o) :: rest)) := g_get C h ho (T := TX5) rfl 0 (by decide) (by decide) wF_X3_206 rfl rfl hd kk
theorem gp_X3_206 (C : gC p s m args meth c RX3 cc nL ret E) (h : gH E s G H locs) {o : Int} (ho : gOk 5 o) {z : Int} (hd : decode cc pc = .ok (.putfield 206, 3)) (kk : ∀ (H : Heap) (locs : List Loc), gH E s (gup G 5 o 0 z) H locs → W p l e R s m args below meth c H locs cells slots Q (F0 m (pc + 3) ls (rest))) : W p l e R s m args below meth c H locs cells slots Q (F0 m pc ls (vI z :: .ref (eA E 5 o) :: rest)) := g_put C h ho (T := TX5) rfl 0 (by decide) (by decide) wF_X3_206 rfl rfl rfl (ty := .int) (by decide +kernel) rfl rfl hd kk
theorem gf_X5_13 (C : gC p s m args meth c RX5 cc nL ret E) (h : gH E s G H locs) {o : Int} (ho : gOk 5 o) (hd : decode cc pc = .ok (.getfield 13, 3)) (kk : W p l e R s m args below meth c H locs cells slots Q (F0 m (pc + 3) ls (vI (G 5 o 1) :: rest))) : W p l e R s m args below meth c H locs cells slots Q (F0 m pc ls (.ref (eA E 5 o) :: rest)) := g_get C h ho (T := TX5) rfl 1 (by decide) (by decide) wF_X5_13 rfl rfl hd kk
theorem gp_X5_13 (C : gC p s m args meth c RX5 cc nL ret E) (h : gH E s G H locs) {o : Int} (ho : gOk 5 o) {z : Int} (hd : decode cc pc = .ok (.putfield 13, 3)) (kk : ∀ (H : Heap) (locs : List Loc), gH E s (gup G 5 o 1 z) H locs → W p l e R s m args below meth c H locs cells slots Q (F0 m (pc + 3) ls (rest))) : W p l e R s m args below meth c H locs cells slots Q (F0 m pc ls (vI z :: .ref (eA E 5 o) :: rest)) := g_put C h ho (T := TX5) rfl 1 (by decide) (by decide) wF_X5_13 rfl rfl rfl (ty := .int) (by decide +kernel) rfl rfl hd kk
theorem gf_X3_270 (C : gC p s m args meth c RX3 cc nL ret E) (h : gH E s G H locs) {o : Int} (ho : gOk 5 o) (hd : decode cc pc = .ok (.getfield 270, 3)) (kk : W p l e R s m args below meth c H locs cells slots Q (F0 m (pc + 3) ls (vI (G 5 o 1) :: rest))) : W p l e R s m args below meth c H locs cells slots Q (F0 m pc ls (.ref (eA E 5 o) :: rest)) := g_get C h ho (T := TX5) rfl 1 (by decide) (by decide) wF_X3_270 rfl rfl hd kk
theorem gp_X3_270 (C : gC p s m args meth c RX3 cc nL ret E) (h : gH E s G H locs) {o : Int} (ho : gOk 5 o) {z : Int} (hd : decode cc pc = .ok (.putfield 270, 3)) (kk : ∀ (H : Heap) (locs : List Loc), gH E s (gup G 5 o 1 z) H locs → W p l e R s m args below meth c H locs cells slots Q (F0 m (pc + 3) ls (rest))) : W p l e R s m args below meth c H locs cells slots Q (F0 m pc ls (vI z :: .ref (eA E 5 o) :: rest)) := g_put C h ho (T := TX5) rfl 1 (by decide) (by decide) wF_X3_270 rfl rfl rfl (ty := .int) (by decide +kernel) rfl rfl hd kk
theorem gf_X5_16 (C : gC p s m args meth c RX5 cc nL ret E) (h : gH E s G H locs) {o : Int} (ho : gOk 5 o) (hd : decode cc pc = .ok (.getfield 16, 3)) (kk : W p l e R s m args below meth c H locs cells slots Q (F0 m (pc + 3) ls (vI (G 5 o 2) :: rest))) : W p l e R s m args below meth c H locs cells slots Q (F0 m pc ls (.ref (eA E 5 o) :: rest)) := g_get C h ho (T := TX5) rfl 2 (by decide) (by decide) wF_X5_16 rfl rfl hd kk
theorem gp_X5_16 (C : gC p s m args meth c RX5 cc nL ret E) (h : gH E s G H locs) {o : Int} (ho : gOk 5 o) {z : Int} (hz : z = 0 ∨ z = 1) (hd : decode cc pc = .ok (.putfield 16, 3)) (kk : ∀ (H : Heap) (locs : List Loc), gH E s (gup G 5 o 2 z) H locs → W p l e R s m args below meth c H locs cells slots Q (F0 m (pc + 3) ls (rest))) : W p l e R s m args below meth c H locs cells slots Q (F0 m pc ls (vI z :: .ref (eA E 5 o) :: rest)) := g_putZ C h ho (T := TX5) rfl 2 (by decide) (by decide) wF_X5_16 rfl rfl rfl (by decide +kernel) hz hd kk
theorem gf_X3_215 (C : gC p s m args meth c RX3 cc nL ret E) (h : gH E s G H locs) {o : Int} (ho : gOk 5 o) (hd : decode cc pc = .ok (.getfield 215, 3)) (kk : W p l e R s m args below meth c H locs cells slots Q (F0 m (pc + 3) ls (vI (G 5 o 2) :: rest))) : W p l e R s m args below meth c H locs cells slots Q (F0 m pc ls (.ref (eA E 5 o) :: rest)) := g_get C h ho (T := TX5) rfl 2 (by decide) (by decide) wF_X3_215 rfl rfl hd kk
theorem gp_X3_215 (C : gC p s m args meth c RX3 cc nL ret E) (h : gH E s G H locs) {o : Int} (ho : gOk 5 o) {z : Int} (hz : z = 0 ∨ z = 1) (hd : decode cc pc = .ok (.putfield 215, 3)) (kk : ∀ (H : Heap) (locs : List Loc), gH E s (gup G 5 o 2 z) H locs → W p l e R s m args below meth c H locs cells slots Q (F0 m (pc + 3) ls (rest))) : W p l e R s m args below meth c H locs cells slots Q (F0 m pc ls (vI z :: .ref (eA E 5 o) :: rest)) := g_putZ C h ho (T := TX5) rfl 2 (by decide) (by decide) wF_X3_215 rfl rfl rfl (by decide +kernel) hz hd kk
theorem gf_X1_7 (C : gC p s m args meth c RX1 cc nL ret E) (h : gH E s G H locs) {o : Int} (ho : gOk 1 o) (hd : decode cc pc = .ok (.getfield 7, 3)) (kk : W p l e R s m args below meth c H locs cells slots Q (F0 m (pc + 3) ls (vI (G 1 o 0) :: rest))) : W p l e R s m args below meth c H locs cells slots Q (F0 m pc ls (.ref (eA E 1 o) :: rest)) := g_get C h ho (T := TX1) rfl 0 (by decide) (by decide) wF_X1_7 rfl rfl hd kk
theorem gp_X1_7 (C : gC p s m args meth c RX1 cc nL ret E) (h : gH E s G H locs) {o : Int} (ho : gOk 1 o) {z : Int} (hd : decode cc pc = .ok (.putfield 7, 3)) (kk : ∀ (H : Heap) (locs : List Loc), gH E s (gup G 1 o 0 z) H locs → W p l e R s m args below meth c H locs cells slots Q (F0 m (pc + 3) ls (rest))) : W p l e R s m args below meth c H locs cells slots Q (F0 m pc ls (vI z :: .ref (eA E 1 o) :: rest)) := g_put C h ho (T := TX1) rfl 0 (by decide) (by decide) wF_X1_7 rfl rfl rfl (ty := .int) (by decide +kernel) rfl rfl hd kk
theorem gf_X3_261 (C : gC p s m args meth c RX3 cc nL ret E) (h : gH E s G H locs) {o : Int} (ho : gOk 1 o) (hd : decode cc pc = .ok (.getfield 261, 3)) (kk : W p l e R s m args below meth c H locs cells slots Q (F0 m (pc + 3) ls (vI (G 1 o 0) :: rest))) : W p l e R s m args below meth c H locs cells slots Q (F0 m pc ls (.ref (eA E 1 o) :: rest)) := g_get C h ho (T := TX1) rfl 0 (by decide) (by decide) wF_X3_261 rfl rfl hd kk
theorem gp_X3_261 (C : gC p s m args meth c RX3 cc nL ret E) (h : gH E s G H locs) {o : Int} (ho : gOk 1 o) {z : Int} (hd : decode cc pc = .ok (.putfield 261, 3)) (kk : ∀ (H : Heap) (locs : List Loc), gH E s (gup G 1 o 0 z) H locs → W p l e R s m args below meth c H locs cells slots Q (F0 m (pc + 3) ls (rest))) : W p l e R s m args below meth c H locs cells slots Q (F0 m pc ls (vI z :: .ref (eA E 1 o) :: rest)) := g_put C h ho (T := TX1) rfl 0 (by decide) (by decide) wF_X3_261 rfl rfl rfl (ty := .int) (by decide +kernel) rfl rfl hd kk
theorem gf_X1_13 (C : gC p s m args meth c RX1 cc nL ret E) (h : gH E s G H locs) {o : Int} (ho : gOk 1 o) (hd : decode cc pc = .ok (.getfield 13, 3)) (kk : W p l e R s m args below meth c H locs cells slots Q (F0 m (pc + 3) ls (vI (G 1 o 1) :: rest))) : W p l e R s m args below meth c H locs cells slots Q (F0 m pc ls (.ref (eA E 1 o) :: rest)) := g_get C h ho (T := TX1) rfl 1 (by decide) (by decide) wF_X1_13 rfl rfl hd kk
theorem gp_X1_13 (C : gC p s m args meth c RX1 cc nL ret E) (h : gH E s G H locs) {o : Int} (ho : gOk 1 o) {z : Int} (hd : decode cc pc = .ok (.putfield 13, 3)) (kk : ∀ (H : Heap) (locs : List Loc), gH E s (gup G 1 o 1 z) H locs → W p l e R s m args below meth c H locs cells slots Q (F0 m (pc + 3) ls (rest))) : W p l e R s m args below meth c H locs cells slots Q (F0 m pc ls (vI z :: .ref (eA E 1 o) :: rest)) := g_put C h ho (T := TX1) rfl 1 (by decide) (by decide) wF_X1_13 rfl rfl rfl (ty := .int) (by decide +kernel) rfl rfl hd kk
theorem gf_X7_66 (C : gC p s m args meth c RX7 cc nL ret E) (h : gH E s G H locs) {o : Int} (ho : gOk 1 o) (hd : decode cc pc = .ok (.getfield 66, 3)) (kk : W p l e R s m args below meth c H locs cells slots Q (F0 m (pc + 3) ls (vI (G 1 o 1) :: rest))) : W p l e R s m args below meth c H locs cells slots Q (F0 m pc ls (.ref (eA E 1 o) :: rest)) := g_get C h ho (T := TX1) rfl 1 (by decide) (by decide) wF_X7_66 rfl rfl hd kk
theorem gp_X7_66 (C : gC p s m args meth c RX7 cc nL ret E) (h : gH E s G H locs) {o : Int} (ho : gOk 1 o) {z : Int} (hd : decode cc pc = .ok (.putfield 66, 3)) (kk : ∀ (H : Heap) (locs : List Loc), gH E s (gup G 1 o 1 z) H locs → W p l e R s m args below meth c H locs cells slots Q (F0 m (pc + 3) ls (rest))) : W p l e R s m args below meth c H locs cells slots Q (F0 m pc ls (vI z :: .ref (eA E 1 o) :: rest)) := g_put C h ho (T := TX1) rfl 1 (by decide) (by decide) wF_X7_66 rfl rfl rfl (ty := .int) (by decide +kernel) rfl rfl hd kk
theorem gf_X3_133 (C : gC p s m args meth c RX3 cc nL ret E) (h : gH E s G H locs) {o : Int} (ho : gOk 1 o) (hd : decode cc pc = .ok (.getfield 133, 3)) (kk : W p l e R s m args below meth c H locs cells slots Q (F0 m (pc + 3) ls (vI (G 1 o 1) :: rest))) : W p l e R s m args below meth c H locs cells slots Q (F0 m pc ls (.ref (eA E 1 o) :: rest)) := g_get C h ho (T := TX1) rfl 1 (by decide) (by decide) wF_X3_133 rfl rfl hd kk
theorem gp_X3_133 (C : gC p s m args meth c RX3 cc nL ret E) (h : gH E s G H locs) {o : Int} (ho : gOk 1 o) {z : Int} (hd : decode cc pc = .ok (.putfield 133, 3)) (kk : ∀ (H : Heap) (locs : List Loc), gH E s (gup G 1 o 1 z) H locs → W p l e R s m args below meth c H locs cells slots Q (F0 m (pc + 3) ls (rest))) : W p l e R s m args below meth c H locs cells slots Q (F0 m pc ls (vI z :: .ref (eA E 1 o) :: rest)) := g_put C h ho (T := TX1) rfl 1 (by decide) (by decide) wF_X3_133 rfl rfl rfl (ty := .int) (by decide +kernel) rfl rfl hd kk
theorem gf_X1_16 (C : gC p s m args meth c RX1 cc nL ret E) (h : gH E s G H locs) {o : Int} (ho : gOk 1 o) (hd : decode cc pc = .ok (.getfield 16, 3)) (kk : W p l e R s m args below meth c H locs cells slots Q (F0 m (pc + 3) ls (vI (G 1 o 2) :: rest))) : W p l e R s m args below meth c H locs cells slots Q (F0 m pc ls (.ref (eA E 1 o) :: rest)) := g_get C h ho (T := TX1) rfl 2 (by decide) (by decide) wF_X1_16 rfl rfl hd kk
theorem gp_X1_16 (C : gC p s m args meth c RX1 cc nL ret E) (h : gH E s G H locs) {o : Int} (ho : gOk 1 o) {z : Int} (hz : z = 0 ∨ z = 1) (hd : decode cc pc = .ok (.putfield 16, 3)) (kk : ∀ (H : Heap) (locs : List Loc), gH E s (gup G 1 o 2 z) H locs → W p l e R s m args below meth c H locs cells slots Q (F0 m (pc + 3) ls (rest))) : W p l e R s m args below meth c H locs cells slots Q (F0 m pc ls (vI z :: .ref (eA E 1 o) :: rest)) := g_putZ C h ho (T := TX1) rfl 2 (by decide) (by decide) wF_X1_16 rfl rfl rfl (by decide +kernel) hz hd kk
theorem gf_X3_218 (C : gC p s m args meth c RX3 cc nL ret E) (h : gH E s G H locs) {o : Int} (ho : gOk 1 o) (hd : decode cc pc = .ok (.getfield 218, 3)) (kk : W p l e R s m args below meth c H locs cells slots Q (F0 m (pc + 3) ls (vI (G 1 o 2) :: rest))) : W p l e R s m args below meth c H locs cells slots Q (F0 m pc ls (.ref (eA E 1 o) :: rest)) := g_get C h ho (T := TX1) rfl 2 (by decide) (by decide) wF_X3_218 rfl rfl hd kk
theorem gp_X3_218 (C : gC p s m args meth c RX3 cc nL ret E) (h : gH E s G H locs) {o : Int} (ho : gOk 1 o) {z : Int} (hz : z = 0 ∨ z = 1) (hd : decode cc pc = .ok (.putfield 218, 3)) (kk : ∀ (H : Heap) (locs : List Loc), gH E s (gup G 1 o 2 z) H locs → W p l e R s m args below meth c H locs cells slots Q (F0 m (pc + 3) ls (rest))) : W p l e R s m args below meth c H locs cells slots Q (F0 m pc ls (vI z :: .ref (eA E 1 o) :: rest)) := g_putZ C h ho (T := TX1) rfl 2 (by decide) (by decide) wF_X3_218 rfl rfl rfl (by decide +kernel) hz hd kk
theorem gf_X6_9 (C : gC p s m args meth c RX6 cc nL ret E) (h : gH E s G H locs) {o : Int} (ho : gOk 6 o) (hd : decode cc pc = .ok (.getfield 9, 3)) (kk : W p l e R s m args below meth c H locs cells slots Q (F0 m (pc + 3) ls (vI (G 6 o 0) :: rest))) : W p l e R s m args below meth c H locs cells slots Q (F0 m pc ls (.ref (eA E 6 o) :: rest)) := g_get C h ho (T := TX6) rfl 0 (by decide) (by decide) wF_X6_9 rfl rfl hd kk
theorem gp_X6_9 (C : gC p s m args meth c RX6 cc nL ret E) (h : gH E s G H locs) {o : Int} (ho : gOk 6 o) {z : Int} (hd : decode cc pc = .ok (.putfield 9, 3)) (kk : ∀ (H : Heap) (locs : List Loc), gH E s (gup G 6 o 0 z) H locs → W p l e R s m args below meth c H locs cells slots Q (F0 m (pc + 3) ls (rest))) : W p l e R s m args below meth c H locs cells slots Q (F0 m pc ls (vI z :: .ref (eA E 6 o) :: rest)) := g_put C h ho (T := TX6) rfl 0 (by decide) (by decide) wF_X6_9 rfl rfl rfl (ty := .int) (by decide +kernel) rfl rfl hd kk
theorem gf_X3_228 (C : gC p s m args meth c RX3 cc nL ret E) (h : gH E s G H locs) {o : Int} (ho : gOk 6 o) (hd : decode cc pc = .ok (.getfield 228, 3)) (kk : W p l e R s m args below meth c H locs cells slots Q (F0 m (pc + 3) ls (vI (G 6 o 0) :: rest))) : W p l e R s m args below meth c H locs cells slots Q (F0 m pc ls (.ref (eA E 6 o) :: rest)) := g_get C h ho (T := TX6) rfl 0 (by decide) (by decide) wF_X3_228 rfl rfl hd kk
theorem gp_X3_228 (C : gC p s m args meth c RX3 cc nL ret E) (h : gH E s G H locs) {o : Int} (ho : gOk 6 o) {z : Int} (hd : decode cc pc = .ok (.putfield 228, 3)) (kk : ∀ (H : Heap) (locs : List Loc), gH E s (gup G 6 o 0 z) H locs → W p l e R s m args below meth c H locs cells slots Q (F0 m (pc + 3) ls (rest))) : W p l e R s m args below meth c H locs cells slots Q (F0 m pc ls (vI z :: .ref (eA E 6 o) :: rest)) := g_put C h ho (T := TX6) rfl 0 (by decide) (by decide) wF_X3_228 rfl rfl rfl (ty := .int) (by decide +kernel) rfl rfl hd kk
theorem gf_X7_163 (C : gC p s m args meth c RX7 cc nL ret E) (h : gH E s G H locs) {o : Int} (ho : gOk 6 o) (hd : decode cc pc = .ok (.getfield 163, 3)) (kk : W p l e R s m args below meth c H locs cells slots Q (F0 m (pc + 3) ls (vI (G 6 o 0) :: rest))) : W p l e R s m args below meth c H locs cells slots Q (F0 m pc ls (.ref (eA E 6 o) :: rest)) := g_get C h ho (T := TX6) rfl 0 (by decide) (by decide) wF_X7_163 rfl rfl hd kk
theorem gp_X7_163 (C : gC p s m args meth c RX7 cc nL ret E) (h : gH E s G H locs) {o : Int} (ho : gOk 6 o) {z : Int} (hd : decode cc pc = .ok (.putfield 163, 3)) (kk : ∀ (H : Heap) (locs : List Loc), gH E s (gup G 6 o 0 z) H locs → W p l e R s m args below meth c H locs cells slots Q (F0 m (pc + 3) ls (rest))) : W p l e R s m args below meth c H locs cells slots Q (F0 m pc ls (vI z :: .ref (eA E 6 o) :: rest)) := g_put C h ho (T := TX6) rfl 0 (by decide) (by decide) wF_X7_163 rfl rfl rfl (ty := .int) (by decide +kernel) rfl rfl hd kk
theorem gf_X6_15 (C : gC p s m args meth c RX6 cc nL ret E) (h : gH E s G H locs) {o : Int} (ho : gOk 6 o) (hd : decode cc pc = .ok (.getfield 15, 3)) (kk : W p l e R s m args below meth c H locs cells slots Q (F0 m (pc + 3) ls (vI (G 6 o 1) :: rest))) : W p l e R s m args below meth c H locs cells slots Q (F0 m pc ls (.ref (eA E 6 o) :: rest)) := g_get C h ho (T := TX6) rfl 1 (by decide) (by decide) wF_X6_15 rfl rfl hd kk
theorem gp_X6_15 (C : gC p s m args meth c RX6 cc nL ret E) (h : gH E s G H locs) {o : Int} (ho : gOk 6 o) {z : Int} (hd : decode cc pc = .ok (.putfield 15, 3)) (kk : ∀ (H : Heap) (locs : List Loc), gH E s (gup G 6 o 1 z) H locs → W p l e R s m args below meth c H locs cells slots Q (F0 m (pc + 3) ls (rest))) : W p l e R s m args below meth c H locs cells slots Q (F0 m pc ls (vI z :: .ref (eA E 6 o) :: rest)) := g_put C h ho (T := TX6) rfl 1 (by decide) (by decide) wF_X6_15 rfl rfl rfl (ty := .int) (by decide +kernel) rfl rfl hd kk
theorem gf_X3_130 (C : gC p s m args meth c RX3 cc nL ret E) (h : gH E s G H locs) {o : Int} (ho : gOk 6 o) (hd : decode cc pc = .ok (.getfield 130, 3)) (kk : W p l e R s m args below meth c H locs cells slots Q (F0 m (pc + 3) ls (vI (G 6 o 1) :: rest))) : W p l e R s m args below meth c H locs cells slots Q (F0 m pc ls (.ref (eA E 6 o) :: rest)) := g_get C h ho (T := TX6) rfl 1 (by decide) (by decide) wF_X3_130 rfl rfl hd kk
theorem gp_X3_130 (C : gC p s m args meth c RX3 cc nL ret E) (h : gH E s G H locs) {o : Int} (ho : gOk 6 o) {z : Int} (hd : decode cc pc = .ok (.putfield 130, 3)) (kk : ∀ (H : Heap) (locs : List Loc), gH E s (gup G 6 o 1 z) H locs → W p l e R s m args below meth c H locs cells slots Q (F0 m (pc + 3) ls (rest))) : W p l e R s m args below meth c H locs cells slots Q (F0 m pc ls (vI z :: .ref (eA E 6 o) :: rest)) := g_put C h ho (T := TX6) rfl 1 (by decide) (by decide) wF_X3_130 rfl rfl rfl (ty := .int) (by decide +kernel) rfl rfl hd kk
theorem gf_X7_169 (C : gC p s m args meth c RX7 cc nL ret E) (h : gH E s G H locs) {o : Int} (ho : gOk 6 o) (hd : decode cc pc = .ok (.getfield 169, 3)) (kk : W p l e R s m args below meth c H locs cells slots Q (F0 m (pc + 3) ls (vI (G 6 o 1) :: rest))) : W p l e R s m args below meth c H locs cells slots Q (F0 m pc ls (.ref (eA E 6 o) :: rest)) := g_get C h ho (T := TX6) rfl 1 (by decide) (by decide) wF_X7_169 rfl rfl hd kk
theorem gp_X7_169 (C : gC p s m args meth c RX7 cc nL ret E) (h : gH E s G H locs) {o : Int} (ho : gOk 6 o) {z : Int} (hd : decode cc pc = .ok (.putfield 169, 3)) (kk : ∀ (H : Heap) (locs : List Loc), gH E s (gup G 6 o 1 z) H locs → W p l e R s m args below meth c H locs cells slots Q (F0 m (pc + 3) ls (rest))) : W p l e R s m args below meth c H locs cells slots Q (F0 m pc ls (vI z :: .ref (eA E 6 o) :: rest)) := g_put C h ho (T := TX6) rfl 1 (by decide) (by decide) wF_X7_169 rfl rfl rfl (ty := .int) (by decide +kernel) rfl rfl hd kk
theorem gf_X6_38 (C : gC p s m args meth c RX6 cc nL ret E) (h : gH E s G H locs) {o : Int} (ho : gOk 6 o) (hd : decode cc pc = .ok (.getfield 38, 3)) (kk : W p l e R s m args below meth c H locs cells slots Q (F0 m (pc + 3) ls (vI (G 6 o 2) :: rest))) : W p l e R s m args below meth c H locs cells slots Q (F0 m pc ls (.ref (eA E 6 o) :: rest)) := g_get C h ho (T := TX6) rfl 2 (by decide) (by decide) wF_X6_38 rfl rfl hd kk
theorem gp_X6_38 (C : gC p s m args meth c RX6 cc nL ret E) (h : gH E s G H locs) {o : Int} (ho : gOk 6 o) {z : Int} (hd : decode cc pc = .ok (.putfield 38, 3)) (kk : ∀ (H : Heap) (locs : List Loc), gH E s (gup G 6 o 2 z) H locs → W p l e R s m args below meth c H locs cells slots Q (F0 m (pc + 3) ls (rest))) : W p l e R s m args below meth c H locs cells slots Q (F0 m pc ls (vI z :: .ref (eA E 6 o) :: rest)) := g_put C h ho (T := TX6) rfl 2 (by decide) (by decide) wF_X6_38 rfl rfl rfl (ty := .int) (by decide +kernel) rfl rfl hd kk
theorem gf_X3_127 (C : gC p s m args meth c RX3 cc nL ret E) (h : gH E s G H locs) {o : Int} (ho : gOk 6 o) (hd : decode cc pc = .ok (.getfield 127, 3)) (kk : W p l e R s m args below meth c H locs cells slots Q (F0 m (pc + 3) ls (vI (G 6 o 2) :: rest))) : W p l e R s m args below meth c H locs cells slots Q (F0 m pc ls (.ref (eA E 6 o) :: rest)) := g_get C h ho (T := TX6) rfl 2 (by decide) (by decide) wF_X3_127 rfl rfl hd kk
theorem gp_X3_127 (C : gC p s m args meth c RX3 cc nL ret E) (h : gH E s G H locs) {o : Int} (ho : gOk 6 o) {z : Int} (hd : decode cc pc = .ok (.putfield 127, 3)) (kk : ∀ (H : Heap) (locs : List Loc), gH E s (gup G 6 o 2 z) H locs → W p l e R s m args below meth c H locs cells slots Q (F0 m (pc + 3) ls (rest))) : W p l e R s m args below meth c H locs cells slots Q (F0 m pc ls (vI z :: .ref (eA E 6 o) :: rest)) := g_put C h ho (T := TX6) rfl 2 (by decide) (by decide) wF_X3_127 rfl rfl rfl (ty := .int) (by decide +kernel) rfl rfl hd kk
theorem gf_X7_160 (C : gC p s m args meth c RX7 cc nL ret E) (h : gH E s G H locs) {o : Int} (ho : gOk 6 o) (hd : decode cc pc = .ok (.getfield 160, 3)) (kk : W p l e R s m args below meth c H locs cells slots Q (F0 m (pc + 3) ls (vI (G 6 o 2) :: rest))) : W p l e R s m args below meth c H locs cells slots Q (F0 m pc ls (.ref (eA E 6 o) :: rest)) := g_get C h ho (T := TX6) rfl 2 (by decide) (by decide) wF_X7_160 rfl rfl hd kk
theorem gp_X7_160 (C : gC p s m args meth c RX7 cc nL ret E) (h : gH E s G H locs) {o : Int} (ho : gOk 6 o) {z : Int} (hd : decode cc pc = .ok (.putfield 160, 3)) (kk : ∀ (H : Heap) (locs : List Loc), gH E s (gup G 6 o 2 z) H locs → W p l e R s m args below meth c H locs cells slots Q (F0 m (pc + 3) ls (rest))) : W p l e R s m args below meth c H locs cells slots Q (F0 m pc ls (vI z :: .ref (eA E 6 o) :: rest)) := g_put C h ho (T := TX6) rfl 2 (by decide) (by decide) wF_X7_160 rfl rfl rfl (ty := .int) (by decide +kernel) rfl rfl hd kk
theorem gf_X6_41 (C : gC p s m args meth c RX6 cc nL ret E) (h : gH E s G H locs) {o : Int} (ho : gOk 6 o) (hd : decode cc pc = .ok (.getfield 41, 3)) (kk : W p l e R s m args below meth c H locs cells slots Q (F0 m (pc + 3) ls (vI (G 6 o 3) :: rest))) : W p l e R s m args below meth c H locs cells slots Q (F0 m pc ls (.ref (eA E 6 o) :: rest)) := g_get C h ho (T := TX6) rfl 3 (by decide) (by decide) wF_X6_41 rfl rfl hd kk
theorem gp_X6_41 (C : gC p s m args meth c RX6 cc nL ret E) (h : gH E s G H locs) {o : Int} (ho : gOk 6 o) {z : Int} (hd : decode cc pc = .ok (.putfield 41, 3)) (kk : ∀ (H : Heap) (locs : List Loc), gH E s (gup G 6 o 3 z) H locs → W p l e R s m args below meth c H locs cells slots Q (F0 m (pc + 3) ls (rest))) : W p l e R s m args below meth c H locs cells slots Q (F0 m pc ls (vI z :: .ref (eA E 6 o) :: rest)) := g_put C h ho (T := TX6) rfl 3 (by decide) (by decide) wF_X6_41 rfl rfl rfl (ty := .int) (by decide +kernel) rfl rfl hd kk
theorem gf_X3_154 (C : gC p s m args meth c RX3 cc nL ret E) (h : gH E s G H locs) {o : Int} (ho : gOk 6 o) (hd : decode cc pc = .ok (.getfield 154, 3)) (kk : W p l e R s m args below meth c H locs cells slots Q (F0 m (pc + 3) ls (vI (G 6 o 3) :: rest))) : W p l e R s m args below meth c H locs cells slots Q (F0 m pc ls (.ref (eA E 6 o) :: rest)) := g_get C h ho (T := TX6) rfl 3 (by decide) (by decide) wF_X3_154 rfl rfl hd kk
theorem gp_X3_154 (C : gC p s m args meth c RX3 cc nL ret E) (h : gH E s G H locs) {o : Int} (ho : gOk 6 o) {z : Int} (hd : decode cc pc = .ok (.putfield 154, 3)) (kk : ∀ (H : Heap) (locs : List Loc), gH E s (gup G 6 o 3 z) H locs → W p l e R s m args below meth c H locs cells slots Q (F0 m (pc + 3) ls (rest))) : W p l e R s m args below meth c H locs cells slots Q (F0 m pc ls (vI z :: .ref (eA E 6 o) :: rest)) := g_put C h ho (T := TX6) rfl 3 (by decide) (by decide) wF_X3_154 rfl rfl rfl (ty := .int) (by decide +kernel) rfl rfl hd kk
theorem gf_X6_22 (C : gC p s m args meth c RX6 cc nL ret E) (h : gH E s G H locs) {o : Int} (ho : gOk 6 o) (hd : decode cc pc = .ok (.getfield 22, 3)) (kk : W p l e R s m args below meth c H locs cells slots Q (F0 m (pc + 3) ls (vI (G 6 o 4) :: rest))) : W p l e R s m args below meth c H locs cells slots Q (F0 m pc ls (.ref (eA E 6 o) :: rest)) := g_get C h ho (T := TX6) rfl 4 (by decide) (by decide) wF_X6_22 rfl rfl hd kk
theorem gp_X6_22 (C : gC p s m args meth c RX6 cc nL ret E) (h : gH E s G H locs) {o : Int} (ho : gOk 6 o) {z : Int} (hz : z = 0 ∨ z = 1) (hd : decode cc pc = .ok (.putfield 22, 3)) (kk : ∀ (H : Heap) (locs : List Loc), gH E s (gup G 6 o 4 z) H locs → W p l e R s m args below meth c H locs cells slots Q (F0 m (pc + 3) ls (rest))) : W p l e R s m args below meth c H locs cells slots Q (F0 m pc ls (vI z :: .ref (eA E 6 o) :: rest)) := g_putZ C h ho (T := TX6) rfl 4 (by decide) (by decide) wF_X6_22 rfl rfl rfl (by decide +kernel) hz hd kk
theorem gf_X3_157 (C : gC p s m args meth c RX3 cc nL ret E) (h : gH E s G H locs) {o : Int} (ho : gOk 6 o) (hd : decode cc pc = .ok (.getfield 157, 3)) (kk : W p l e R s m args below meth c H locs cells slots Q (F0 m (pc + 3) ls (vI (G 6 o 4) :: rest))) : W p l e R s m args below meth c H locs cells slots Q (F0 m pc ls (.ref (eA E 6 o) :: rest)) := g_get C h ho (T := TX6) rfl 4 (by decide) (by decide) wF_X3_157 rfl rfl hd kk
theorem gp_X3_157 (C : gC p s m args meth c RX3 cc nL ret E) (h : gH E s G H locs) {o : Int} (ho : gOk 6 o) {z : Int} (hz : z = 0 ∨ z = 1) (hd : decode cc pc = .ok (.putfield 157, 3)) (kk : ∀ (H : Heap) (locs : List Loc), gH E s (gup G 6 o 4 z) H locs → W p l e R s m args below meth c H locs cells slots Q (F0 m (pc + 3) ls (rest))) : W p l e R s m args below meth c H locs cells slots Q (F0 m pc ls (vI z :: .ref (eA E 6 o) :: rest)) := g_putZ C h ho (T := TX6) rfl 4 (by decide) (by decide) wF_X3_157 rfl rfl rfl (by decide +kernel) hz hd kk
theorem gf_X6_44 (C : gC p s m args meth c RX6 cc nL ret E) (h : gH E s G H locs) {o : Int} (ho : gOk 6 o) (hd : decode cc pc = .ok (.getfield 44, 3)) (kk : W p l e R s m args below meth c H locs cells slots Q (F0 m (pc + 3) ls (vI (G 6 o 5) :: rest))) : W p l e R s m args below meth c H locs cells slots Q (F0 m pc ls (.ref (eA E 6 o) :: rest)) := g_get C h ho (T := TX6) rfl 5 (by decide) (by decide) wF_X6_44 rfl rfl hd kk
theorem gp_X6_44 (C : gC p s m args meth c RX6 cc nL ret E) (h : gH E s G H locs) {o : Int} (ho : gOk 6 o) {z : Int} (hd : decode cc pc = .ok (.putfield 44, 3)) (kk : ∀ (H : Heap) (locs : List Loc), gH E s (gup G 6 o 5 z) H locs → W p l e R s m args below meth c H locs cells slots Q (F0 m (pc + 3) ls (rest))) : W p l e R s m args below meth c H locs cells slots Q (F0 m pc ls (vI z :: .ref (eA E 6 o) :: rest)) := g_put C h ho (T := TX6) rfl 5 (by decide) (by decide) wF_X6_44 rfl rfl rfl (ty := .int) (by decide +kernel) rfl rfl hd kk
theorem gf_X3_141 (C : gC p s m args meth c RX3 cc nL ret E) (h : gH E s G H locs) {o : Int} (ho : gOk 6 o) (hd : decode cc pc = .ok (.getfield 141, 3)) (kk : W p l e R s m args below meth c H locs cells slots Q (F0 m (pc + 3) ls (vI (G 6 o 5) :: rest))) : W p l e R s m args below meth c H locs cells slots Q (F0 m pc ls (.ref (eA E 6 o) :: rest)) := g_get C h ho (T := TX6) rfl 5 (by decide) (by decide) wF_X3_141 rfl rfl hd kk
theorem gp_X3_141 (C : gC p s m args meth c RX3 cc nL ret E) (h : gH E s G H locs) {o : Int} (ho : gOk 6 o) {z : Int} (hd : decode cc pc = .ok (.putfield 141, 3)) (kk : ∀ (H : Heap) (locs : List Loc), gH E s (gup G 6 o 5 z) H locs → W p l e R s m args below meth c H locs cells slots Q (F0 m (pc + 3) ls (rest))) : W p l e R s m args below meth c H locs cells slots Q (F0 m pc ls (vI z :: .ref (eA E 6 o) :: rest)) := g_put C h ho (T := TX6) rfl 5 (by decide) (by decide) wF_X3_141 rfl rfl rfl (ty := .int) (by decide +kernel) rfl rfl hd kk
theorem gf_X6_47 (C : gC p s m args meth c RX6 cc nL ret E) (h : gH E s G H locs) {o : Int} (ho : gOk 6 o) (hd : decode cc pc = .ok (.getfield 47, 3)) (kk : W p l e R s m args below meth c H locs cells slots Q (F0 m (pc + 3) ls (vI (G 6 o 6) :: rest))) : W p l e R s m args below meth c H locs cells slots Q (F0 m pc ls (.ref (eA E 6 o) :: rest)) := g_get C h ho (T := TX6) rfl 6 (by decide) (by decide) wF_X6_47 rfl rfl hd kk
theorem gp_X6_47 (C : gC p s m args meth c RX6 cc nL ret E) (h : gH E s G H locs) {o : Int} (ho : gOk 6 o) {z : Int} (hd : decode cc pc = .ok (.putfield 47, 3)) (kk : ∀ (H : Heap) (locs : List Loc), gH E s (gup G 6 o 6 z) H locs → W p l e R s m args below meth c H locs cells slots Q (F0 m (pc + 3) ls (rest))) : W p l e R s m args below meth c H locs cells slots Q (F0 m pc ls (vI z :: .ref (eA E 6 o) :: rest)) := g_put C h ho (T := TX6) rfl 6 (by decide) (by decide) wF_X6_47 rfl rfl rfl (ty := .int) (by decide +kernel) rfl rfl hd kk
theorem gf_X3_105 (C : gC p s m args meth c RX3 cc nL ret E) (h : gH E s G H locs) {o : Int} (ho : gOk 6 o) (hd : decode cc pc = .ok (.getfield 105, 3)) (kk : W p l e R s m args below meth c H locs cells slots Q (F0 m (pc + 3) ls (vI (G 6 o 6) :: rest))) : W p l e R s m args below meth c H locs cells slots Q (F0 m pc ls (.ref (eA E 6 o) :: rest)) := g_get C h ho (T := TX6) rfl 6 (by decide) (by decide) wF_X3_105 rfl rfl hd kk
theorem gp_X3_105 (C : gC p s m args meth c RX3 cc nL ret E) (h : gH E s G H locs) {o : Int} (ho : gOk 6 o) {z : Int} (hd : decode cc pc = .ok (.putfield 105, 3)) (kk : ∀ (H : Heap) (locs : List Loc), gH E s (gup G 6 o 6 z) H locs → W p l e R s m args below meth c H locs cells slots Q (F0 m (pc + 3) ls (rest))) : W p l e R s m args below meth c H locs cells slots Q (F0 m pc ls (vI z :: .ref (eA E 6 o) :: rest)) := g_put C h ho (T := TX6) rfl 6 (by decide) (by decide) wF_X3_105 rfl rfl rfl (ty := .int) (by decide +kernel) rfl rfl hd kk
theorem gf_X6_50 (C : gC p s m args meth c RX6 cc nL ret E) (h : gH E s G H locs) {o : Int} (ho : gOk 6 o) (hd : decode cc pc = .ok (.getfield 50, 3)) (kk : W p l e R s m args below meth c H locs cells slots Q (F0 m (pc + 3) ls (vI (G 6 o 7) :: rest))) : W p l e R s m args below meth c H locs cells slots Q (F0 m pc ls (.ref (eA E 6 o) :: rest)) := g_get C h ho (T := TX6) rfl 7 (by decide) (by decide) wF_X6_50 rfl rfl hd kk
theorem gp_X6_50 (C : gC p s m args meth c RX6 cc nL ret E) (h : gH E s G H locs) {o : Int} (ho : gOk 6 o) {z : Int} (hz : z = 0 ∨ z = 1) (hd : decode cc pc = .ok (.putfield 50, 3)) (kk : ∀ (H : Heap) (locs : List Loc), gH E s (gup G 6 o 7 z) H locs → W p l e R s m args below meth c H locs cells slots Q (F0 m (pc + 3) ls (rest))) : W p l e R s m args below meth c H locs cells slots Q (F0 m pc ls (vI z :: .ref (eA E 6 o) :: rest)) := g_putZ C h ho (T := TX6) rfl 7 (by decide) (by decide) wF_X6_50 rfl rfl rfl (by decide +kernel) hz hd kk
theorem gf_X3_147 (C : gC p s m args meth c RX3 cc nL ret E) (h : gH E s G H locs) {o : Int} (ho : gOk 6 o) (hd : decode cc pc = .ok (.getfield 147, 3)) (kk : W p l e R s m args below meth c H locs cells slots Q (F0 m (pc + 3) ls (vI (G 6 o 7) :: rest))) : W p l e R s m args below meth c H locs cells slots Q (F0 m pc ls (.ref (eA E 6 o) :: rest)) := g_get C h ho (T := TX6) rfl 7 (by decide) (by decide) wF_X3_147 rfl rfl hd kk
theorem gp_X3_147 (C : gC p s m args meth c RX3 cc nL ret E) (h : gH E s G H locs) {o : Int} (ho : gOk 6 o) {z : Int} (hz : z = 0 ∨ z = 1) (hd : decode cc pc = .ok (.putfield 147, 3)) (kk : ∀ (H : Heap) (locs : List Loc), gH E s (gup G 6 o 7 z) H locs → W p l e R s m args below meth c H locs cells slots Q (F0 m (pc + 3) ls (rest))) : W p l e R s m args below meth c H locs cells slots Q (F0 m pc ls (vI z :: .ref (eA E 6 o) :: rest)) := g_putZ C h ho (T := TX6) rfl 7 (by decide) (by decide) wF_X3_147 rfl rfl rfl (by decide +kernel) hz hd kk
theorem gf_X6_26 (C : gC p s m args meth c RX6 cc nL ret E) (h : gH E s G H locs) {o : Int} (ho : gOk 6 o) (hd : decode cc pc = .ok (.getfield 26, 3)) (kk : W p l e R s m args below meth c H locs cells slots Q (F0 m (pc + 3) ls (vI (G 6 o 8) :: rest))) : W p l e R s m args below meth c H locs cells slots Q (F0 m pc ls (.ref (eA E 6 o) :: rest)) := g_get C h ho (T := TX6) rfl 8 (by decide) (by decide) wF_X6_26 rfl rfl hd kk
theorem gp_X6_26 (C : gC p s m args meth c RX6 cc nL ret E) (h : gH E s G H locs) {o : Int} (ho : gOk 6 o) {z : Int} (hd : decode cc pc = .ok (.putfield 26, 3)) (kk : ∀ (H : Heap) (locs : List Loc), gH E s (gup G 6 o 8 z) H locs → W p l e R s m args below meth c H locs cells slots Q (F0 m (pc + 3) ls (rest))) : W p l e R s m args below meth c H locs cells slots Q (F0 m pc ls (vI z :: .ref (eA E 6 o) :: rest)) := g_put C h ho (T := TX6) rfl 8 (by decide) (by decide) wF_X6_26 rfl rfl rfl (ty := .int) (by decide +kernel) rfl rfl hd kk
theorem gf_X6_29 (C : gC p s m args meth c RX6 cc nL ret E) (h : gH E s G H locs) {o : Int} (ho : gOk 6 o) (hd : decode cc pc = .ok (.getfield 29, 3)) (kk : W p l e R s m args below meth c H locs cells slots Q (F0 m (pc + 3) ls (vI (G 6 o 9) :: rest))) : W p l e R s m args below meth c H locs cells slots Q (F0 m pc ls (.ref (eA E 6 o) :: rest)) := g_get C h ho (T := TX6) rfl 9 (by decide) (by decide) wF_X6_29 rfl rfl hd kk
theorem gp_X6_29 (C : gC p s m args meth c RX6 cc nL ret E) (h : gH E s G H locs) {o : Int} (ho : gOk 6 o) {z : Int} (hd : decode cc pc = .ok (.putfield 29, 3)) (kk : ∀ (H : Heap) (locs : List Loc), gH E s (gup G 6 o 9 z) H locs → W p l e R s m args below meth c H locs cells slots Q (F0 m (pc + 3) ls (rest))) : W p l e R s m args below meth c H locs cells slots Q (F0 m pc ls (vI z :: .ref (eA E 6 o) :: rest)) := g_put C h ho (T := TX6) rfl 9 (by decide) (by decide) wF_X6_29 rfl rfl rfl (ty := .int) (by decide +kernel) rfl rfl hd kk
theorem gf_X6_32 (C : gC p s m args meth c RX6 cc nL ret E) (h : gH E s G H locs) {o : Int} (ho : gOk 6 o) (hd : decode cc pc = .ok (.getfield 32, 3)) (kk : W p l e R s m args below meth c H locs cells slots Q (F0 m (pc + 3) ls (vI (G 6 o 10) :: rest))) : W p l e R s m args below meth c H locs cells slots Q (F0 m pc ls (.ref (eA E 6 o) :: rest)) := g_get C h ho (T := TX6) rfl 10 (by decide) (by decide) wF_X6_32 rfl rfl hd kk
theorem gp_X6_32 (C : gC p s m args meth c RX6 cc nL ret E) (h : gH E s G H locs) {o : Int} (ho : gOk 6 o) {z : Int} (hd : decode cc pc = .ok (.putfield 32, 3)) (kk : ∀ (H : Heap) (locs : List Loc), gH E s (gup G 6 o 10 z) H locs → W p l e R s m args below meth c H locs cells slots Q (F0 m (pc + 3) ls (rest))) : W p l e R s m args below meth c H locs cells slots Q (F0 m pc ls (vI z :: .ref (eA E 6 o) :: rest)) := g_put C h ho (T := TX6) rfl 10 (by decide) (by decide) wF_X6_32 rfl rfl rfl (ty := .int) (by decide +kernel) rfl rfl hd kk
theorem gf_X3_151 (C : gC p s m args meth c RX3 cc nL ret E) (h : gH E s G H locs) {o : Int} (ho : gOk 6 o) (hd : decode cc pc = .ok (.getfield 151, 3)) (kk : W p l e R s m args below meth c H locs cells slots Q (F0 m (pc + 3) ls (vI (G 6 o 10) :: rest))) : W p l e R s m args below meth c H locs cells slots Q (F0 m pc ls (.ref (eA E 6 o) :: rest)) := g_get C h ho (T := TX6) rfl 10 (by decide) (by decide) wF_X3_151 rfl rfl hd kk
theorem gp_X3_151 (C : gC p s m args meth c RX3 cc nL ret E) (h : gH E s G H locs) {o : Int} (ho : gOk 6 o) {z : Int} (hd : decode cc pc = .ok (.putfield 151, 3)) (kk : ∀ (H : Heap) (locs : List Loc), gH E s (gup G 6 o 10 z) H locs → W p l e R s m args below meth c H locs cells slots Q (F0 m (pc + 3) ls (rest))) : W p l e R s m args below meth c H locs cells slots Q (F0 m pc ls (vI z :: .ref (eA E 6 o) :: rest)) := g_put C h ho (T := TX6) rfl 10 (by decide) (by decide) wF_X3_151 rfl rfl rfl (ty := .int) (by decide +kernel) rfl rfl hd kk
theorem gf_X6_35 (C : gC p s m args meth c RX6 cc nL ret E) (h : gH E s G H locs) {o : Int} (ho : gOk 6 o) (hd : decode cc pc = .ok (.getfield 35, 3)) (kk : W p l e R s m args below meth c H locs cells slots Q (F0 m (pc + 3) ls (vI (G 6 o 11) :: rest))) : W p l e R s m args below meth c H locs cells slots Q (F0 m pc ls (.ref (eA E 6 o) :: rest)) := g_get C h ho (T := TX6) rfl 11 (by decide) (by decide) wF_X6_35 rfl rfl hd kk
theorem gp_X6_35 (C : gC p s m args meth c RX6 cc nL ret E) (h : gH E s G H locs) {o : Int} (ho : gOk 6 o) {z : Int} (hd : decode cc pc = .ok (.putfield 35, 3)) (kk : ∀ (H : Heap) (locs : List Loc), gH E s (gup G 6 o 11 z) H locs → W p l e R s m args below meth c H locs cells slots Q (F0 m (pc + 3) ls (rest))) : W p l e R s m args below meth c H locs cells slots Q (F0 m pc ls (vI z :: .ref (eA E 6 o) :: rest)) := g_put C h ho (T := TX6) rfl 11 (by decide) (by decide) wF_X6_35 rfl rfl rfl (ty := .int) (by decide +kernel) rfl rfl hd kk
theorem gf_X3_136 (C : gC p s m args meth c RX3 cc nL ret E) (h : gH E s G H locs) {o : Int} (ho : gOk 6 o) (hd : decode cc pc = .ok (.getfield 136, 3)) (kk : W p l e R s m args below meth c H locs cells slots Q (F0 m (pc + 3) ls (vI (G 6 o 11) :: rest))) : W p l e R s m args below meth c H locs cells slots Q (F0 m pc ls (.ref (eA E 6 o) :: rest)) := g_get C h ho (T := TX6) rfl 11 (by decide) (by decide) wF_X3_136 rfl rfl hd kk
theorem gp_X3_136 (C : gC p s m args meth c RX3 cc nL ret E) (h : gH E s G H locs) {o : Int} (ho : gOk 6 o) {z : Int} (hd : decode cc pc = .ok (.putfield 136, 3)) (kk : ∀ (H : Heap) (locs : List Loc), gH E s (gup G 6 o 11 z) H locs → W p l e R s m args below meth c H locs cells slots Q (F0 m (pc + 3) ls (rest))) : W p l e R s m args below meth c H locs cells slots Q (F0 m pc ls (vI z :: .ref (eA E 6 o) :: rest)) := g_put C h ho (T := TX6) rfl 11 (by decide) (by decide) wF_X3_136 rfl rfl rfl (ty := .int) (by decide +kernel) rfl rfl hd kk
theorem gf_X2_9 (C : gC p s m args meth c RX2 cc nL ret E) (h : gH E s G H locs) {o : Int} (ho : gOk 2 o) (hd : decode cc pc = .ok (.getfield 9, 3)) (kk : W p l e R s m args below meth c H locs cells slots Q (F0 m (pc + 3) ls (vI (G 2 o 0) :: rest))) : W p l e R s m args below meth c H locs cells slots Q (F0 m pc ls (.ref (eA E 2 o) :: rest)) := g_get C h ho (T := TX2) rfl 0 (by decide) (by decide) wF_X2_9 rfl rfl hd kk
theorem gp_X2_9 (C : gC p s m args meth c RX2 cc nL ret E) (h : gH E s G H locs) {o : Int} (ho : gOk 2 o) {z : Int} (hd : decode cc pc = .ok (.putfield 9, 3)) (kk : ∀ (H : Heap) (locs : List Loc), gH E s (gup G 2 o 0 z) H locs → W p l e R s m args below meth c H locs cells slots Q (F0 m (pc + 3) ls (rest))) : W p l e R s m args below meth c H locs cells slots Q (F0 m pc ls (vI z :: .ref (eA E 2 o) :: rest)) := g_put C h ho (T := TX2) rfl 0 (by decide) (by decide) wF_X2_9 rfl rfl rfl (ty := .int) (by decide +kernel) rfl rfl hd kk
theorem gf_X2_15 (C : gC p s m args meth c RX2 cc nL ret E) (h : gH E s G H locs) {o : Int} (ho : gOk 2 o) (hd : decode cc pc = .ok (.getfield 15, 3)) (kk : W p l e R s m args below meth c H locs cells slots Q (F0 m (pc + 3) ls (vI (G 2 o 1) :: rest))) : W p l e R s m args below meth c H locs cells slots Q (F0 m pc ls (.ref (eA E 2 o) :: rest)) := g_get C h ho (T := TX2) rfl 1 (by decide) (by decide) wF_X2_15 rfl rfl hd kk
theorem gp_X2_15 (C : gC p s m args meth c RX2 cc nL ret E) (h : gH E s G H locs) {o : Int} (ho : gOk 2 o) {z : Int} (hd : decode cc pc = .ok (.putfield 15, 3)) (kk : ∀ (H : Heap) (locs : List Loc), gH E s (gup G 2 o 1 z) H locs → W p l e R s m args below meth c H locs cells slots Q (F0 m (pc + 3) ls (rest))) : W p l e R s m args below meth c H locs cells slots Q (F0 m pc ls (vI z :: .ref (eA E 2 o) :: rest)) := g_put C h ho (T := TX2) rfl 1 (by decide) (by decide) wF_X2_15 rfl rfl rfl (ty := .int) (by decide +kernel) rfl rfl hd kk
theorem gf_X3_174 (C : gC p s m args meth c RX3 cc nL ret E) (h : gH E s G H locs) {o : Int} (ho : gOk 2 o) (hd : decode cc pc = .ok (.getfield 174, 3)) (kk : W p l e R s m args below meth c H locs cells slots Q (F0 m (pc + 3) ls (vI (G 2 o 1) :: rest))) : W p l e R s m args below meth c H locs cells slots Q (F0 m pc ls (.ref (eA E 2 o) :: rest)) := g_get C h ho (T := TX2) rfl 1 (by decide) (by decide) wF_X3_174 rfl rfl hd kk
theorem gp_X3_174 (C : gC p s m args meth c RX3 cc nL ret E) (h : gH E s G H locs) {o : Int} (ho : gOk 2 o) {z : Int} (hd : decode cc pc = .ok (.putfield 174, 3)) (kk : ∀ (H : Heap) (locs : List Loc), gH E s (gup G 2 o 1 z) H locs → W p l e R s m args below meth c H locs cells slots Q (F0 m (pc + 3) ls (rest))) : W p l e R s m args below meth c H locs cells slots Q (F0 m pc ls (vI z :: .ref (eA E 2 o) :: rest)) := g_put C h ho (T := TX2) rfl 1 (by decide) (by decide) wF_X3_174 rfl rfl rfl (ty := .int) (by decide +kernel) rfl rfl hd kk
theorem gf_X2_18 (C : gC p s m args meth c RX2 cc nL ret E) (h : gH E s G H locs) {o : Int} (ho : gOk 2 o) (hd : decode cc pc = .ok (.getfield 18, 3)) (kk : W p l e R s m args below meth c H locs cells slots Q (F0 m (pc + 3) ls (vI (G 2 o 2) :: rest))) : W p l e R s m args below meth c H locs cells slots Q (F0 m pc ls (.ref (eA E 2 o) :: rest)) := g_get C h ho (T := TX2) rfl 2 (by decide) (by decide) wF_X2_18 rfl rfl hd kk
theorem gp_X2_18 (C : gC p s m args meth c RX2 cc nL ret E) (h : gH E s G H locs) {o : Int} (ho : gOk 2 o) {z : Int} (hz : z = 0 ∨ z = 1) (hd : decode cc pc = .ok (.putfield 18, 3)) (kk : ∀ (H : Heap) (locs : List Loc), gH E s (gup G 2 o 2 z) H locs → W p l e R s m args below meth c H locs cells slots Q (F0 m (pc + 3) ls (rest))) : W p l e R s m args below meth c H locs cells slots Q (F0 m pc ls (vI z :: .ref (eA E 2 o) :: rest)) := g_putZ C h ho (T := TX2) rfl 2 (by decide) (by decide) wF_X2_18 rfl rfl rfl (by decide +kernel) hz hd kk
theorem gf_X3_186 (C : gC p s m args meth c RX3 cc nL ret E) (h : gH E s G H locs) {o : Int} (ho : gOk 2 o) (hd : decode cc pc = .ok (.getfield 186, 3)) (kk : W p l e R s m args below meth c H locs cells slots Q (F0 m (pc + 3) ls (vI (G 2 o 2) :: rest))) : W p l e R s m args below meth c H locs cells slots Q (F0 m pc ls (.ref (eA E 2 o) :: rest)) := g_get C h ho (T := TX2) rfl 2 (by decide) (by decide) wF_X3_186 rfl rfl hd kk
theorem gp_X3_186 (C : gC p s m args meth c RX3 cc nL ret E) (h : gH E s G H locs) {o : Int} (ho : gOk 2 o) {z : Int} (hz : z = 0 ∨ z = 1) (hd : decode cc pc = .ok (.putfield 186, 3)) (kk : ∀ (H : Heap) (locs : List Loc), gH E s (gup G 2 o 2 z) H locs → W p l e R s m args below meth c H locs cells slots Q (F0 m (pc + 3) ls (rest))) : W p l e R s m args below meth c H locs cells slots Q (F0 m pc ls (vI z :: .ref (eA E 2 o) :: rest)) := g_putZ C h ho (T := TX2) rfl 2 (by decide) (by decide) wF_X3_186 rfl rfl rfl (by decide +kernel) hz hd kk
theorem gf_X2_22 (C : gC p s m args meth c RX2 cc nL ret E) (h : gH E s G H locs) {o : Int} (ho : gOk 2 o) (hd : decode cc pc = .ok (.getfield 22, 3)) (kk : W p l e R s m args below meth c H locs cells slots Q (F0 m (pc + 3) ls (vI (G 2 o 3) :: rest))) : W p l e R s m args below meth c H locs cells slots Q (F0 m pc ls (.ref (eA E 2 o) :: rest)) := g_get C h ho (T := TX2) rfl 3 (by decide) (by decide) wF_X2_22 rfl rfl hd kk
theorem gp_X2_22 (C : gC p s m args meth c RX2 cc nL ret E) (h : gH E s G H locs) {o : Int} (ho : gOk 2 o) {z : Int} (hd : decode cc pc = .ok (.putfield 22, 3)) (kk : ∀ (H : Heap) (locs : List Loc), gH E s (gup G 2 o 3 z) H locs → W p l e R s m args below meth c H locs cells slots Q (F0 m (pc + 3) ls (rest))) : W p l e R s m args below meth c H locs cells slots Q (F0 m pc ls (vI z :: .ref (eA E 2 o) :: rest)) := g_put C h ho (T := TX2) rfl 3 (by decide) (by decide) wF_X2_22 rfl rfl rfl (ty := .int) (by decide +kernel) rfl rfl hd kk
theorem gf_X3_183 (C : gC p s m args meth c RX3 cc nL ret E) (h : gH E s G H locs) {o : Int} (ho : gOk 2 o) (hd : decode cc pc = .ok (.getfield 183, 3)) (kk : W p l e R s m args below meth c H locs cells slots Q (F0 m (pc + 3) ls (vI (G 2 o 3) :: rest))) : W p l e R s m args below meth c H locs cells slots Q (F0 m pc ls (.ref (eA E 2 o) :: rest)) := g_get C h ho (T := TX2) rfl 3 (by decide) (by decide) wF_X3_183 rfl rfl hd kk
theorem gp_X3_183 (C : gC p s m args meth c RX3 cc nL ret E) (h : gH E s G H locs) {o : Int} (ho : gOk 2 o) {z : Int} (hd : decode cc pc = .ok (.putfield 183, 3)) (kk : ∀ (H : Heap) (locs : List Loc), gH E s (gup G 2 o 3 z) H locs → W p l e R s m args below meth c H locs cells slots Q (F0 m (pc + 3) ls (rest))) : W p l e R s m args below meth c H locs cells slots Q (F0 m pc ls (vI z :: .ref (eA E 2 o) :: rest)) := g_put C h ho (T := TX2) rfl 3 (by decide) (by decide) wF_X3_183 rfl rfl rfl (ty := .int) (by decide +kernel) rfl rfl hd kk
theorem gf_X2_25 (C : gC p s m args meth c RX2 cc nL ret E) (h : gH E s G H locs) {o : Int} (ho : gOk 2 o) (hd : decode cc pc = .ok (.getfield 25, 3)) (kk : W p l e R s m args below meth c H locs cells slots Q (F0 m (pc + 3) ls (vI (G 2 o 4) :: rest))) : W p l e R s m args below meth c H locs cells slots Q (F0 m pc ls (.ref (eA E 2 o) :: rest)) := g_get C h ho (T := TX2) rfl 4 (by decide) (by decide) wF_X2_25 rfl rfl hd kk
theorem gp_X2_25 (C : gC p s m args meth c RX2 cc nL ret E) (h : gH E s G H locs) {o : Int} (ho : gOk 2 o) {z : Int} (hd : decode cc pc = .ok (.putfield 25, 3)) (kk : ∀ (H : Heap) (locs : List Loc), gH E s (gup G 2 o 4 z) H locs → W p l e R s m args below meth c H locs cells slots Q (F0 m (pc + 3) ls (rest))) : W p l e R s m args below meth c H locs cells slots Q (F0 m pc ls (vI z :: .ref (eA E 2 o) :: rest)) := g_put C h ho (T := TX2) rfl 4 (by decide) (by decide) wF_X2_25 rfl rfl rfl (ty := .int) (by decide +kernel) rfl rfl hd kk
theorem gf_X3_173 (C : gC p s m args meth c RX3 cc nL ret E) (h : gH E s G H locs) {o : Int} (ho : gOk 2 o) (hd : decode cc pc = .ok (.getfield 173, 3)) (kk : W p l e R s m args below meth c H locs cells slots Q (F0 m (pc + 3) ls (vI (G 2 o 4) :: rest))) : W p l e R s m args below meth c H locs cells slots Q (F0 m pc ls (.ref (eA E 2 o) :: rest)) := g_get C h ho (T := TX2) rfl 4 (by decide) (by decide) wF_X3_173 rfl rfl hd kk
theorem gp_X3_173 (C : gC p s m args meth c RX3 cc nL ret E) (h : gH E s G H locs) {o : Int} (ho : gOk 2 o) {z : Int} (hd : decode cc pc = .ok (.putfield 173, 3)) (kk : ∀ (H : Heap) (locs : List Loc), gH E s (gup G 2 o 4 z) H locs → W p l e R s m args below meth c H locs cells slots Q (F0 m (pc + 3) ls (rest))) : W p l e R s m args below meth c H locs cells slots Q (F0 m pc ls (vI z :: .ref (eA E 2 o) :: rest)) := g_put C h ho (T := TX2) rfl 4 (by decide) (by decide) wF_X3_173 rfl rfl rfl (ty := .int) (by decide +kernel) rfl rfl hd kk
theorem gf_X2_28 (C : gC p s m args meth c RX2 cc nL ret E) (h : gH E s G H locs) {o : Int} (ho : gOk 2 o) (hd : decode cc pc = .ok (.getfield 28, 3)) (kk : W p l e R s m args below meth c H locs cells slots Q (F0 m (pc + 3) ls (vI (G 2 o 5) :: rest))) : W p l e R s m args below meth c H locs cells slots Q (F0 m pc ls (.ref (eA E 2 o) :: rest)) := g_get C h ho (T := TX2) rfl 5 (by decide) (by decide) wF_X2_28 rfl rfl hd kk
theorem gp_X2_28 (C : gC p s m args meth c RX2 cc nL ret E) (h : gH E s G H locs) {o : Int} (ho : gOk 2 o) {z : Int} (hd : decode cc pc = .ok (.putfield 28, 3)) (kk : ∀ (H : Heap) (locs : List Loc), gH E s (gup G 2 o 5 z) H locs → W p l e R s m args below meth c H locs cells slots Q (F0 m (pc + 3) ls (rest))) : W p l e R s m args below meth c H locs cells slots Q (F0 m pc ls (vI z :: .ref (eA E 2 o) :: rest)) := g_put C h ho (T := TX2) rfl 5 (by decide) (by decide) wF_X2_28 rfl rfl rfl (ty := .int) (by decide +kernel) rfl rfl hd kk
theorem gf_X3_102 (C : gC p s m args meth c RX3 cc nL ret E) (h : gH E s G H locs) {o : Int} (ho : gOk 2 o) (hd : decode cc pc = .ok (.getfield 102, 3)) (kk : W p l e R s m args below meth c H locs cells slots Q (F0 m (pc + 3) ls (vI (G 2 o 5) :: rest))) : W p l e R s m args below meth c H locs cells slots Q (F0 m pc ls (.ref (eA E 2 o) :: rest)) := g_get C h ho (T := TX2) rfl 5 (by decide) (by decide) wF_X3_102 rfl rfl hd kk
theorem gp_X3_102 (C : gC p s m args meth c RX3 cc nL ret E) (h : gH E s G H locs) {o : Int} (ho : gOk 2 o) {z : Int} (hd : decode cc pc = .ok (.putfield 102, 3)) (kk : ∀ (H : Heap) (locs : List Loc), gH E s (gup G 2 o 5 z) H locs → W p l e R s m args below meth c H locs cells slots Q (F0 m (pc + 3) ls (rest))) : W p l e R s m args below meth c H locs cells slots Q (F0 m pc ls (vI z :: .ref (eA E 2 o) :: rest)) := g_put C h ho (T := TX2) rfl 5 (by decide) (by decide) wF_X3_102 rfl rfl rfl (ty := .int) (by decide +kernel) rfl rfl hd kk
theorem gf_X2_31 (C : gC p s m args meth c RX2 cc nL ret E) (h : gH E s G H locs) {o : Int} (ho : gOk 2 o) (hd : decode cc pc = .ok (.getfield 31, 3)) (kk : W p l e R s m args below meth c H locs cells slots Q (F0 m (pc + 3) ls (vI (G 2 o 6) :: rest))) : W p l e R s m args below meth c H locs cells slots Q (F0 m pc ls (.ref (eA E 2 o) :: rest)) := g_get C h ho (T := TX2) rfl 6 (by decide) (by decide) wF_X2_31 rfl rfl hd kk
theorem gp_X2_31 (C : gC p s m args meth c RX2 cc nL ret E) (h : gH E s G H locs) {o : Int} (ho : gOk 2 o) {z : Int} (hd : decode cc pc = .ok (.putfield 31, 3)) (kk : ∀ (H : Heap) (locs : List Loc), gH E s (gup G 2 o 6 z) H locs → W p l e R s m args below meth c H locs cells slots Q (F0 m (pc + 3) ls (rest))) : W p l e R s m args below meth c H locs cells slots Q (F0 m pc ls (vI z :: .ref (eA E 2 o) :: rest)) := g_put C h ho (T := TX2) rfl 6 (by decide) (by decide) wF_X2_31 rfl rfl rfl (ty := .int) (by decide +kernel) rfl rfl hd kk
theorem gf_X3_180 (C : gC p s m args meth c RX3 cc nL ret E) (h : gH E s G H locs) {o : Int} (ho : gOk 2 o) (hd : decode cc pc = .ok (.getfield 180, 3)) (kk : W p l e R s m args below meth c H locs cells slots Q (F0 m (pc + 3) ls (vI (G 2 o 6) :: rest))) : W p l e R s m args below meth c H locs cells slots Q (F0 m pc ls (.ref (eA E 2 o) :: rest)) := g_get C h ho (T := TX2) rfl 6 (by decide) (by decide) wF_X3_180 rfl rfl hd kk
theorem gp_X3_180 (C : gC p s m args meth c RX3 cc nL ret E) (h : gH E s G H locs) {o : Int} (ho : gOk 2 o) {z : Int} (hd : decode cc pc = .ok (.putfield 180, 3)) (kk : ∀ (H : Heap) (locs : List Loc), gH E s (gup G 2 o 6 z) H locs → W p l e R s m args below meth c H locs cells slots Q (F0 m (pc + 3) ls (rest))) : W p l e R s m args below meth c H locs cells slots Q (F0 m pc ls (vI z :: .ref (eA E 2 o) :: rest)) := g_put C h ho (T := TX2) rfl 6 (by decide) (by decide) wF_X3_180 rfl rfl rfl (ty := .int) (by decide +kernel) rfl rfl hd kk
theorem gf_X2_34 (C : gC p s m args meth c RX2 cc nL ret E) (h : gH E s G H locs) {o : Int} (ho : gOk 2 o) (hd : decode cc pc = .ok (.getfield 34, 3)) (kk : W p l e R s m args below meth c H locs cells slots Q (F0 m (pc + 3) ls (vI (G 2 o 7) :: rest))) : W p l e R s m args below meth c H locs cells slots Q (F0 m pc ls (.ref (eA E 2 o) :: rest)) := g_get C h ho (T := TX2) rfl 7 (by decide) (by decide) wF_X2_34 rfl rfl hd kk
theorem gp_X2_34 (C : gC p s m args meth c RX2 cc nL ret E) (h : gH E s G H locs) {o : Int} (ho : gOk 2 o) {z : Int} (hd : decode cc pc = .ok (.putfield 34, 3)) (kk : ∀ (H : Heap) (locs : List Loc), gH E s (gup G 2 o 7 z) H locs → W p l e R s m args below meth c H locs cells slots Q (F0 m (pc + 3) ls (rest))) : W p l e R s m args below meth c H locs cells slots Q (F0 m pc ls (vI z :: .ref (eA E 2 o) :: rest)) := g_put C h ho (T := TX2) rfl 7 (by decide) (by decide) wF_X2_34 rfl rfl rfl (ty := .int) (by decide +kernel) rfl rfl hd kk
theorem gf_X3_212 (C : gC p s m args meth c RX3 cc nL ret E) (h : gH E s G H locs) {o : Int} (ho : gOk 2 o) (hd : decode cc pc = .ok (.getfield 212, 3)) (kk : W p l e R s m args below meth c H locs cells slots Q (F0 m (pc + 3) ls (vI (G 2 o 7) :: rest))) : W p l e R s m args below meth c H locs cells slots Q (F0 m pc ls (.ref (eA E 2 o) :: rest)) := g_get C h ho (T := TX2) rfl 7 (by decide) (by decide) wF_X3_212 rfl rfl hd kk
theorem gp_X3_212 (C : gC p s m args meth c RX3 cc nL ret E) (h : gH E s G H locs) {o : Int} (ho : gOk 2 o) {z : Int} (hd : decode cc pc = .ok (.putfield 212, 3)) (kk : ∀ (H : Heap) (locs : List Loc), gH E s (gup G 2 o 7 z) H locs → W p l e R s m args below meth c H locs cells slots Q (F0 m (pc + 3) ls (rest))) : W p l e R s m args below meth c H locs cells slots Q (F0 m pc ls (vI z :: .ref (eA E 2 o) :: rest)) := g_put C h ho (T := TX2) rfl 7 (by decide) (by decide) wF_X3_212 rfl rfl rfl (ty := .int) (by decide +kernel) rfl rfl hd kk
theorem gf_X3_11 (C : gC p s m args meth c RX3 cc nL ret E) (h : gH E s G H locs) {o : Int} (ho : gOk 3 o) (hd : decode cc pc = .ok (.getfield 11, 3)) (kk : W p l e R s m args below meth c H locs cells slots Q (F0 m (pc + 3) ls (.ref (eA E 14 o) :: rest))) : W p l e R s m args below meth c H locs cells slots Q (F0 m pc ls (.ref (eA E 3 o) :: rest)) := g_get C h ho (T := TX3) rfl 0 (by decide) (by decide) wF_X3_11 rfl rfl hd kk
theorem gf_X7_49 (C : gC p s m args meth c RX7 cc nL ret E) (h : gH E s G H locs) {o : Int} (ho : gOk 3 o) (hd : decode cc pc = .ok (.getfield 49, 3)) (kk : W p l e R s m args below meth c H locs cells slots Q (F0 m (pc + 3) ls (.ref (eA E 14 o) :: rest))) : W p l e R s m args below meth c H locs cells slots Q (F0 m pc ls (.ref (eA E 3 o) :: rest)) := g_get C h ho (T := TX3) rfl 0 (by decide) (by decide) wF_X7_49 rfl rfl hd kk
theorem gf_X4_22 (C : gC p s m args meth c RX4 cc nL ret E) (h : gH E s G H locs) {o : Int} (ho : gOk 3 o) (hd : decode cc pc = .ok (.getfield 22, 3)) (kk : W p l e R s m args below meth c H locs cells slots Q (F0 m (pc + 3) ls (.ref (eA E 14 o) :: rest))) : W p l e R s m args below meth c H locs cells slots Q (F0 m pc ls (.ref (eA E 3 o) :: rest)) := g_get C h ho (T := TX3) rfl 0 (by decide) (by decide) wF_X4_22 rfl rfl hd kk
theorem gf_X3_19 (C : gC p s m args meth c RX3 cc nL ret E) (h : gH E s G H locs) {o : Int} (ho : gOk 3 o) (hd : decode cc pc = .ok (.getfield 19, 3)) (kk : W p l e R s m args below meth c H locs cells slots Q (F0 m (pc + 3) ls (.ref (eA E 15 o) :: rest))) : W p l e R s m args below meth c H locs cells slots Q (F0 m pc ls (.ref (eA E 3 o) :: rest)) := g_get C h ho (T := TX3) rfl 1 (by decide) (by decide) wF_X3_19 rfl rfl hd kk
theorem gf_X7_62 (C : gC p s m args meth c RX7 cc nL ret E) (h : gH E s G H locs) {o : Int} (ho : gOk 3 o) (hd : decode cc pc = .ok (.getfield 62, 3)) (kk : W p l e R s m args below meth c H locs cells slots Q (F0 m (pc + 3) ls (.ref (eA E 15 o) :: rest))) : W p l e R s m args below meth c H locs cells slots Q (F0 m pc ls (.ref (eA E 3 o) :: rest)) := g_get C h ho (T := TX3) rfl 1 (by decide) (by decide) wF_X7_62 rfl rfl hd kk
theorem gf_X3_25 (C : gC p s m args meth c RX3 cc nL ret E) (h : gH E s G H locs) {o : Int} (ho : gOk 3 o) (hd : decode cc pc = .ok (.getfield 25, 3)) (kk : W p l e R s m args below meth c H locs cells slots Q (F0 m (pc + 3) ls (.ref (eA E 16 o) :: rest))) : W p l e R s m args below meth c H locs cells slots Q (F0 m pc ls (.ref (eA E 3 o) :: rest)) := g_get C h ho (T := TX3) rfl 2 (by decide) (by decide) wF_X3_25 rfl rfl hd kk
theorem gf_X7_120 (C : gC p s m args meth c RX7 cc nL ret E) (h : gH E s G H locs) {o : Int} (ho : gOk 3 o) (hd : decode cc pc = .ok (.getfield 120, 3)) (kk : W p l e R s m args below meth c H locs cells slots Q (F0 m (pc + 3) ls (.ref (eA E 16 o) :: rest))) : W p l e R s m args below meth c H locs cells slots Q (F0 m pc ls (.ref (eA E 3 o) :: rest)) := g_get C h ho (T := TX3) rfl 2 (by decide) (by decide) wF_X7_120 rfl rfl hd kk
theorem gf_X3_31 (C : gC p s m args meth c RX3 cc nL ret E) (h : gH E s G H locs) {o : Int} (ho : gOk 3 o) (hd : decode cc pc = .ok (.getfield 31, 3)) (kk : W p l e R s m args below meth c H locs cells slots Q (F0 m (pc + 3) ls (.ref (eA E 17 o) :: rest))) : W p l e R s m args below meth c H locs cells slots Q (F0 m pc ls (.ref (eA E 3 o) :: rest)) := g_get C h ho (T := TX3) rfl 3 (by decide) (by decide) wF_X3_31 rfl rfl hd kk
theorem gf_X7_130 (C : gC p s m args meth c RX7 cc nL ret E) (h : gH E s G H locs) {o : Int} (ho : gOk 3 o) (hd : decode cc pc = .ok (.getfield 130, 3)) (kk : W p l e R s m args below meth c H locs cells slots Q (F0 m (pc + 3) ls (.ref (eA E 17 o) :: rest))) : W p l e R s m args below meth c H locs cells slots Q (F0 m pc ls (.ref (eA E 3 o) :: rest)) := g_get C h ho (T := TX3) rfl 3 (by decide) (by decide) wF_X7_130 rfl rfl hd kk
theorem gf_X7_33 (C : gC p s m args meth c RX7 cc nL ret E) (h : gH E s G H locs) {o : Int} (ho : gOk 3 o) (hd : decode cc pc = .ok (.getfield 33, 3)) (kk : W p l e R s m args below meth c H locs cells slots Q (F0 m (pc + 3) ls (vI (G 3 o 4) :: rest))) : W p l e R s m args below meth c H locs cells slots Q (F0 m pc ls (.ref (eA E 3 o) :: rest)) := g_get C h ho (T := TX3) rfl 4 (by decide) (by decide) wF_X7_33 rfl rfl hd kk
theorem gp_X7_33 (C : gC p s m args meth c RX7 cc nL ret E) (h : gH E s G H locs) {o : Int} (ho : gOk 3 o) {z : Int} (hd : decode cc pc = .ok (.putfield 33, 3)) (kk : ∀ (H : Heap) (locs : List Loc), gH E s (gup G 3 o 4 z) H locs → W p l e R s m args below meth c H locs cells slots Q (F0 m (pc + 3) ls (rest))) : W p l e R s m args below meth c H locs cells slots Q (F0 m pc ls (vI z :: .ref (eA E 3 o) :: rest)) := g_put C h ho (T := TX3) rfl 4 (by decide) (by decide) wF_X7_33 rfl rfl rfl (ty := .int) (by decide +kernel) rfl rfl hd kk
theorem gf_X3_47 (C : gC p s m args meth c RX3 cc nL ret E) (h : gH E s G H locs) {o : Int} (ho : gOk 3 o) (hd : decode cc pc = .ok (.getfield 47, 3)) (kk : W p l e R s m args below meth c H locs cells slots Q (F0 m (pc + 3) ls (vI (G 3 o 4) :: rest))) : W p l e R s m args below meth c H locs cells slots Q (F0 m pc ls (.ref (eA E 3 o) :: rest)) := g_get C h ho (T := TX3) rfl 4 (by decide) (by decide) wF_X3_47 rfl rfl hd kk
theorem gp_X3_47 (C : gC p s m args meth c RX3 cc nL ret E) (h : gH E s G H locs) {o : Int} (ho : gOk 3 o) {z : Int} (hd : decode cc pc = .ok (.putfield 47, 3)) (kk : ∀ (H : Heap) (locs : List Loc), gH E s (gup G 3 o 4 z) H locs → W p l e R s m args below meth c H locs cells slots Q (F0 m (pc + 3) ls (rest))) : W p l e R s m args below meth c H locs cells slots Q (F0 m pc ls (vI z :: .ref (eA E 3 o) :: rest)) := g_put C h ho (T := TX3) rfl 4 (by decide) (by decide) wF_X3_47 rfl rfl rfl (ty := .int) (by decide +kernel) rfl rfl hd kk
theorem gf_X4_32 (C : gC p s m args meth c RX4 cc nL ret E) (h : gH E s G H locs) {o : Int} (ho : gOk 3 o) (hd : decode cc pc = .ok (.getfield 32, 3)) (kk : W p l e R s m args below meth c H locs cells slots Q (F0 m (pc + 3) ls (vI (G 3 o 4) :: rest))) : W p l e R s m args below meth c H locs cells slots Q (F0 m pc ls (.ref (eA E 3 o) :: rest)) := g_get C h ho (T := TX3) rfl 4 (by decide) (by decide) wF_X4_32 rfl rfl hd kk
theorem gp_X4_32 (C : gC p s m args meth c RX4 cc nL ret E) (h : gH E s G H locs) {o : Int} (ho : gOk 3 o) {z : Int} (hd : decode cc pc = .ok (.putfield 32, 3)) (kk : ∀ (H : Heap) (locs : List Loc), gH E s (gup G 3 o 4 z) H locs → W p l e R s m args below meth c H locs cells slots Q (F0 m (pc + 3) ls (rest))) : W p l e R s m args below meth c H locs cells slots Q (F0 m pc ls (vI z :: .ref (eA E 3 o) :: rest)) := g_put C h ho (T := TX3) rfl 4 (by decide) (by decide) wF_X4_32 rfl rfl rfl (ty := .int) (by decide +kernel) rfl rfl hd kk
theorem gf_X3_51 (C : gC p s m args meth c RX3 cc nL ret E) (h : gH E s G H locs) {o : Int} (ho : gOk 3 o) (hd : decode cc pc = .ok (.getfield 51, 3)) (kk : W p l e R s m args below meth c H locs cells slots Q (F0 m (pc + 3) ls (vI (G 3 o 5) :: rest))) : W p l e R s m args below meth c H locs cells slots Q (F0 m pc ls (.ref (eA E 3 o) :: rest)) := g_get C h ho (T := TX3) rfl 5 (by decide) (by decide) wF_X3_51 rfl rfl hd kk
theorem gp_X3_51 (C : gC p s m args meth c RX3 cc nL ret E) (h : gH E s G H locs) {o : Int} (ho : gOk 3 o) {z : Int} (hd : decode cc pc = .ok (.putfield 51, 3)) (kk : ∀ (H : Heap) (locs : List Loc), gH E s (gup G 3 o 5 z) H locs → W p l e R s m args below meth c H locs cells slots Q (F0 m (pc + 3) ls (rest))) : W p l e R s m args below meth c H locs cells slots Q (F0 m pc ls (vI z :: .ref (eA E 3 o) :: rest)) := g_put C h ho (T := TX3) rfl 5 (by decide) (by decide) wF_X3_51 rfl rfl rfl (ty := .int) (by decide +kernel) rfl rfl hd kk
theorem gf_X7_72 (C : gC p s m args meth c RX7 cc nL ret E) (h : gH E s G H locs) {o : Int} (ho : gOk 3 o) (hd : decode cc pc = .ok (.getfield 72, 3)) (kk : W p l e R s m args below meth c H locs cells slots Q (F0 m (pc + 3) ls (vI (G 3 o 5) :: rest))) : W p l e R s m args below meth c H locs cells slots Q (F0 m pc ls (.ref (eA E 3 o) :: rest)) := g_get C h ho (T := TX3) rfl 5 (by decide) (by decide) wF_X7_72 rfl rfl hd kk
theorem gp_X7_72 (C : gC p s m args meth c RX7 cc nL ret E) (h : gH E s G H locs) {o : Int} (ho : gOk 3 o) {z : Int} (hd : decode cc pc = .ok (.putfield 72, 3)) (kk : ∀ (H : Heap) (locs : List Loc), gH E s (gup G 3 o 5 z) H locs → W p l e R s m args below meth c H locs cells slots Q (F0 m (pc + 3) ls (rest))) : W p l e R s m args below meth c H locs cells slots Q (F0 m pc ls (vI z :: .ref (eA E 3 o) :: rest)) := g_put C h ho (T := TX3) rfl 5 (by decide) (by decide) wF_X7_72 rfl rfl rfl (ty := .int) (by decide +kernel) rfl rfl hd kk
theorem gf_X3_54 (C : gC p s m args meth c RX3 cc nL ret E) (h : gH E s G H locs) {o : Int} (ho : gOk 3 o) (hd : decode cc pc = .ok (.getfield 54, 3)) (kk : W p l e R s m args below meth c H locs cells slots Q (F0 m (pc + 3) ls (vI (G 3 o 6) :: rest))) : W p l e R s m args below meth c H locs cells slots Q (F0 m pc ls (.ref (eA E 3 o) :: rest)) := g_get C h ho (T := TX3) rfl 6 (by decide) (by decide) wF_X3_54 rfl rfl hd kk
theorem gp_X3_54 (C : gC p s m args meth c RX3 cc nL ret E) (h : gH E s G H locs) {o : Int} (ho : gOk 3 o) {z : Int} (hd : decode cc pc = .ok (.putfield 54, 3)) (kk : ∀ (H : Heap) (locs : List Loc), gH E s (gup G 3 o 6 z) H locs → W p l e R s m args below meth c H locs cells slots Q (F0 m (pc + 3) ls (rest))) : W p l e R s m args below meth c H locs cells slots Q (F0 m pc ls (vI z :: .ref (eA E 3 o) :: rest)) := g_put C h ho (T := TX3) rfl 6 (by decide) (by decide) wF_X3_54 rfl rfl rfl (ty := .int) (by decide +kernel) rfl rfl hd kk
theorem gf_X7_89 (C : gC p s m args meth c RX7 cc nL ret E) (h : gH E s G H locs) {o : Int} (ho : gOk 3 o) (hd : decode cc pc = .ok (.getfield 89, 3)) (kk : W p l e R s m args below meth c H locs cells slots Q (F0 m (pc + 3) ls (vI (G 3 o 6) :: rest))) : W p l e R s m args below meth c H locs cells slots Q (F0 m pc ls (.ref (eA E 3 o) :: rest)) := g_get C h ho (T := TX3) rfl 6 (by decide) (by decide) wF_X7_89 rfl rfl hd kk
theorem gp_X7_89 (C : gC p s m args meth c RX7 cc nL ret E) (h : gH E s G H locs) {o : Int} (ho : gOk 3 o) {z : Int} (hd : decode cc pc = .ok (.putfield 89, 3)) (kk : ∀ (H : Heap) (locs : List Loc), gH E s (gup G 3 o 6 z) H locs → W p l e R s m args below meth c H locs cells slots Q (F0 m (pc + 3) ls (rest))) : W p l e R s m args below meth c H locs cells slots Q (F0 m pc ls (vI z :: .ref (eA E 3 o) :: rest)) := g_put C h ho (T := TX3) rfl 6 (by decide) (by decide) wF_X7_89 rfl rfl rfl (ty := .int) (by decide +kernel) rfl rfl hd kk
theorem gf_X3_57 (C : gC p s m args meth c RX3 cc nL ret E) (h : gH E s G H locs) {o : Int} (ho : gOk 3 o) (hd : decode cc pc = .ok (.getfield 57, 3)) (kk : W p l e R s m args below meth c H locs cells slots Q (F0 m (pc + 3) ls (vI (G 3 o 7) :: rest))) : W p l e R s m args below meth c H locs cells slots Q (F0 m pc ls (.ref (eA E 3 o) :: rest)) := g_get C h ho (T := TX3) rfl 7 (by decide) (by decide) wF_X3_57 rfl rfl hd kk
theorem gp_X3_57 (C : gC p s m args meth c RX3 cc nL ret E) (h : gH E s G H locs) {o : Int} (ho : gOk 3 o) {z : Int} (hd : decode cc pc = .ok (.putfield 57, 3)) (kk : ∀ (H : Heap) (locs : List Loc), gH E s (gup G 3 o 7 z) H locs → W p l e R s m args below meth c H locs cells slots Q (F0 m (pc + 3) ls (rest))) : W p l e R s m args below meth c H locs cells slots Q (F0 m pc ls (vI z :: .ref (eA E 3 o) :: rest)) := g_put C h ho (T := TX3) rfl 7 (by decide) (by decide) wF_X3_57 rfl rfl rfl (ty := .int) (by decide +kernel) rfl rfl hd kk
theorem gf_X7_100 (C : gC p s m args meth c RX7 cc nL ret E) (h : gH E s G H locs) {o : Int} (ho : gOk 3 o) (hd : decode cc pc = .ok (.getfield 100, 3)) (kk : W p l e R s m args below meth c H locs cells slots Q (F0 m (pc + 3) ls (vI (G 3 o 7) :: rest))) : W p l e R s m args below meth c H locs cells slots Q (F0 m pc ls (.ref (eA E 3 o) :: rest)) := g_get C h ho (T := TX3) rfl 7 (by decide) (by decide) wF_X7_100 rfl rfl hd kk
theorem gp_X7_100 (C : gC p s m args meth c RX7 cc nL ret E) (h : gH E s G H locs) {o : Int} (ho : gOk 3 o) {z : Int} (hd : decode cc pc = .ok (.putfield 100, 3)) (kk : ∀ (H : Heap) (locs : List Loc), gH E s (gup G 3 o 7 z) H locs → W p l e R s m args below meth c H locs cells slots Q (F0 m (pc + 3) ls (rest))) : W p l e R s m args below meth c H locs cells slots Q (F0 m pc ls (vI z :: .ref (eA E 3 o) :: rest)) := g_put C h ho (T := TX3) rfl 7 (by decide) (by decide) wF_X7_100 rfl rfl rfl (ty := .int) (by decide +kernel) rfl rfl hd kk
theorem gf_X3_60 (C : gC p s m args meth c RX3 cc nL ret E) (h : gH E s G H locs) {o : Int} (ho : gOk 3 o) (hd : decode cc pc = .ok (.getfield 60, 3)) (kk : W p l e R s m args below meth c H locs cells slots Q (F0 m (pc + 3) ls (vI (G 3 o 8) :: rest))) : W p l e R s m args below meth c H locs cells slots Q (F0 m pc ls (.ref (eA E 3 o) :: rest)) := g_get C h ho (T := TX3) rfl 8 (by decide) (by decide) wF_X3_60 rfl rfl hd kk
theorem gp_X3_60 (C : gC p s m args meth c RX3 cc nL ret E) (h : gH E s G H locs) {o : Int} (ho : gOk 3 o) {z : Int} (hd : decode cc pc = .ok (.putfield 60, 3)) (kk : ∀ (H : Heap) (locs : List Loc), gH E s (gup G 3 o 8 z) H locs → W p l e R s m args below meth c H locs cells slots Q (F0 m (pc + 3) ls (rest))) : W p l e R s m args below meth c H locs cells slots Q (F0 m pc ls (vI z :: .ref (eA E 3 o) :: rest)) := g_put C h ho (T := TX3) rfl 8 (by decide) (by decide) wF_X3_60 rfl rfl rfl (ty := .int) (by decide +kernel) rfl rfl hd kk
theorem gf_X7_108 (C : gC p s m args meth c RX7 cc nL ret E) (h : gH E s G H locs) {o : Int} (ho : gOk 3 o) (hd : decode cc pc = .ok (.getfield 108, 3)) (kk : W p l e R s m args below meth c H locs cells slots Q (F0 m (pc + 3) ls (vI (G 3 o 8) :: rest))) : W p l e R s m args below meth c H locs cells slots Q (F0 m pc ls (.ref (eA E 3 o) :: rest)) := g_get C h ho (T := TX3) rfl 8 (by decide) (by decide) wF_X7_108 rfl rfl hd kk
theorem gp_X7_108 (C : gC p s m args meth c RX7 cc nL ret E) (h : gH E s G H locs) {o : Int} (ho : gOk 3 o) {z : Int} (hd : decode cc pc = .ok (.putfield 108, 3)) (kk : ∀ (H : Heap) (locs : List Loc), gH E s (gup G 3 o 8 z) H locs → W p l e R s m args below meth c H locs cells slots Q (F0 m (pc + 3) ls (rest))) : W p l e R s m args below meth c H locs cells slots Q (F0 m pc ls (vI z :: .ref (eA E 3 o) :: rest)) := g_put C h ho (T := TX3) rfl 8 (by decide) (by decide) wF_X7_108 rfl rfl rfl (ty := .int) (by decide +kernel) rfl rfl hd kk
theorem gf_X3_63 (C : gC p s m args meth c RX3 cc nL ret E) (h : gH E s G H locs) {o : Int} (ho : gOk 3 o) (hd : decode cc pc = .ok (.getfield 63, 3)) (kk : W p l e R s m args below meth c H locs cells slots Q (F0 m (pc + 3) ls (vI (G 3 o 9) :: rest))) : W p l e R s m args below meth c H locs cells slots Q (F0 m pc ls (.ref (eA E 3 o) :: rest)) := g_get C h ho (T := TX3) rfl 9 (by decide) (by decide) wF_X3_63 rfl rfl hd kk
theorem gp_X3_63 (C : gC p s m args meth c RX3 cc nL ret E) (h : gH E s G H locs) {o : Int} (ho : gOk 3 o) {z : Int} (hd : decode cc pc = .ok (.putfield 63, 3)) (kk : ∀ (H : Heap) (locs : List Loc), gH E s (gup G 3 o 9 z) H locs → W p l e R s m args below meth c H locs cells slots Q (F0 m (pc + 3) ls (rest))) : W p l e R s m args below meth c H locs cells slots Q (F0 m pc ls (vI z :: .ref (eA E 3 o) :: rest)) := g_put C h ho (T := TX3) rfl 9 (by decide) (by decide) wF_X3_63 rfl rfl rfl (ty := .int) (by decide +kernel) rfl rfl hd kk
theorem gf_X3_66 (C : gC p s m args meth c RX3 cc nL ret E) (h : gH E s G H locs) {o : Int} (ho : gOk 3 o) (hd : decode cc pc = .ok (.getfield 66, 3)) (kk : W p l e R s m args below meth c H locs cells slots Q (F0 m (pc + 3) ls (vI (G 3 o 10) :: rest))) : W p l e R s m args below meth c H locs cells slots Q (F0 m pc ls (.ref (eA E 3 o) :: rest)) := g_get C h ho (T := TX3) rfl 10 (by decide) (by decide) wF_X3_66 rfl rfl hd kk
theorem gp_X3_66 (C : gC p s m args meth c RX3 cc nL ret E) (h : gH E s G H locs) {o : Int} (ho : gOk 3 o) {z : Int} (hd : decode cc pc = .ok (.putfield 66, 3)) (kk : ∀ (H : Heap) (locs : List Loc), gH E s (gup G 3 o 10 z) H locs → W p l e R s m args below meth c H locs cells slots Q (F0 m (pc + 3) ls (rest))) : W p l e R s m args below meth c H locs cells slots Q (F0 m pc ls (vI z :: .ref (eA E 3 o) :: rest)) := g_put C h ho (T := TX3) rfl 10 (by decide) (by decide) wF_X3_66 rfl rfl rfl (ty := .int) (by decide +kernel) rfl rfl hd kk
theorem gf_X3_69 (C : gC p s m args meth c RX3 cc nL ret E) (h : gH E s G H locs) {o : Int} (ho : gOk 3 o) (hd : decode cc pc = .ok (.getfield 69, 3)) (kk : W p l e R s m args below meth c H locs cells slots Q (F0 m (pc + 3) ls (vI (G 3 o 11) :: rest))) : W p l e R s m args below meth c H locs cells slots Q (F0 m pc ls (.ref (eA E 3 o) :: rest)) := g_get C h ho (T := TX3) rfl 11 (by decide) (by decide) wF_X3_69 rfl rfl hd kk
theorem gp_X3_69 (C : gC p s m args meth c RX3 cc nL ret E) (h : gH E s G H locs) {o : Int} (ho : gOk 3 o) {z : Int} (hd : decode cc pc = .ok (.putfield 69, 3)) (kk : ∀ (H : Heap) (locs : List Loc), gH E s (gup G 3 o 11 z) H locs → W p l e R s m args below meth c H locs cells slots Q (F0 m (pc + 3) ls (rest))) : W p l e R s m args below meth c H locs cells slots Q (F0 m pc ls (vI z :: .ref (eA E 3 o) :: rest)) := g_put C h ho (T := TX3) rfl 11 (by decide) (by decide) wF_X3_69 rfl rfl rfl (ty := .int) (by decide +kernel) rfl rfl hd kk
theorem gf_X3_72 (C : gC p s m args meth c RX3 cc nL ret E) (h : gH E s G H locs) {o : Int} (ho : gOk 3 o) (hd : decode cc pc = .ok (.getfield 72, 3)) (kk : W p l e R s m args below meth c H locs cells slots Q (F0 m (pc + 3) ls (vI (G 3 o 12) :: rest))) : W p l e R s m args below meth c H locs cells slots Q (F0 m pc ls (.ref (eA E 3 o) :: rest)) := g_get C h ho (T := TX3) rfl 12 (by decide) (by decide) wF_X3_72 rfl rfl hd kk
theorem gp_X3_72 (C : gC p s m args meth c RX3 cc nL ret E) (h : gH E s G H locs) {o : Int} (ho : gOk 3 o) {z : Int} (hd : decode cc pc = .ok (.putfield 72, 3)) (kk : ∀ (H : Heap) (locs : List Loc), gH E s (gup G 3 o 12 z) H locs → W p l e R s m args below meth c H locs cells slots Q (F0 m (pc + 3) ls (rest))) : W p l e R s m args below meth c H locs cells slots Q (F0 m pc ls (vI z :: .ref (eA E 3 o) :: rest)) := g_put C h ho (T := TX3) rfl 12 (by decide) (by decide) wF_X3_72 rfl rfl rfl (ty := .int) (by decide +kernel) rfl rfl hd kk
theorem gf_X0_11 (C : gC p s m args meth c RX0 cc nL ret E) (h : gH E s G H locs) {o : Int} (ho : gOk 0 o) (hd : decode cc pc = .ok (.getfield 11, 3)) (kk : W p l e R s m args below meth c H locs cells slots Q (F0 m (pc + 3) ls (.ref (eA E 12 0) :: rest))) : W p l e R s m args below meth c H locs cells slots Q (F0 m pc ls (.ref (eA E 0 o) :: rest)) := g_get C h ho (T := TX0) rfl 0 (by decide) (by decide) wF_X0_11 rfl rfl hd kk
theorem gf_X0_18 (C : gC p s m args meth c RX0 cc nL ret E) (h : gH E s G H locs) {o : Int} (ho : gOk 0 o) (hd : decode cc pc = .ok (.getfield 18, 3)) (kk : W p l e R s m args below meth c H locs cells slots Q (F0 m (pc + 3) ls (vI (G 0 o 1) :: rest))) : W p l e R s m args below meth c H locs cells slots Q (F0 m pc ls (.ref (eA E 0 o) :: rest)) := g_get C h ho (T := TX0) rfl 1 (by decide) (by decide) wF_X0_18 rfl rfl hd kk
theorem gp_X0_18 (C : gC p s m args meth c RX0 cc nL ret E) (h : gH E s G H locs) {o : Int} (ho : gOk 0 o) {z : Int} (hd : decode cc pc = .ok (.putfield 18, 3)) (kk : ∀ (H : Heap) (locs : List Loc), gH E s (gup G 0 o 1 z) H locs → W p l e R s m args below meth c H locs cells slots Q (F0 m (pc + 3) ls (rest))) : W p l e R s m args below meth c H locs cells slots Q (F0 m pc ls (vI z :: .ref (eA E 0 o) :: rest)) := g_put C h ho (T := TX0) rfl 1 (by decide) (by decide) wF_X0_18 rfl rfl rfl (ty := .int) (by decide +kernel) rfl rfl hd kk
theorem gf_X7_186 (C : gC p s m args meth c RX7 cc nL ret E) (h : gH E s G H locs) {o : Int} (ho : gOk 0 o) (hd : decode cc pc = .ok (.getfield 186, 3)) (kk : W p l e R s m args below meth c H locs cells slots Q (F0 m (pc + 3) ls (vI (G 0 o 1) :: rest))) : W p l e R s m args below meth c H locs cells slots Q (F0 m pc ls (.ref (eA E 0 o) :: rest)) := g_get C h ho (T := TX0) rfl 1 (by decide) (by decide) wF_X7_186 rfl rfl hd kk
theorem gp_X7_186 (C : gC p s m args meth c RX7 cc nL ret E) (h : gH E s G H locs) {o : Int} (ho : gOk 0 o) {z : Int} (hd : decode cc pc = .ok (.putfield 186, 3)) (kk : ∀ (H : Heap) (locs : List Loc), gH E s (gup G 0 o 1 z) H locs → W p l e R s m args below meth c H locs cells slots Q (F0 m (pc + 3) ls (rest))) : W p l e R s m args below meth c H locs cells slots Q (F0 m pc ls (vI z :: .ref (eA E 0 o) :: rest)) := g_put C h ho (T := TX0) rfl 1 (by decide) (by decide) wF_X7_186 rfl rfl rfl (ty := .int) (by decide +kernel) rfl rfl hd kk
theorem gf_X4_9 (C : gC p s m args meth c RX4 cc nL ret E) (h : gH E s G H locs) {o : Int} (ho : gOk 4 o) (hd : decode cc pc = .ok (.getfield 9, 3)) (kk : W p l e R s m args below meth c H locs cells slots Q (F0 m (pc + 3) ls (.ref (eA E 9 0) :: rest))) : W p l e R s m args below meth c H locs cells slots Q (F0 m pc ls (.ref (eA E 4 o) :: rest)) := g_get C h ho (T := TX4) rfl 0 (by decide) (by decide) wF_X4_9 rfl rfl hd kk
theorem gf_X4_15 (C : gC p s m args meth c RX4 cc nL ret E) (h : gH E s G H locs) {o : Int} (ho : gOk 4 o) (hd : decode cc pc = .ok (.getfield 15, 3)) (kk : W p l e R s m args below meth c H locs cells slots Q (F0 m (pc + 3) ls (vI (G 4 o 1) :: rest))) : W p l e R s m args below meth c H locs cells slots Q (F0 m pc ls (.ref (eA E 4 o) :: rest)) := g_get C h ho (T := TX4) rfl 1 (by decide) (by decide) wF_X4_15 rfl rfl hd kk
theorem gp_X4_15 (C : gC p s m args meth c RX4 cc nL ret E) (h : gH E s G H locs) {o : Int} (ho : gOk 4 o) {z : Int} (hd : decode cc pc = .ok (.putfield 15, 3)) (kk : ∀ (H : Heap) (locs : List Loc), gH E s (gup G 4 o 1 z) H locs → W p l e R s m args below meth c H locs cells slots Q (F0 m (pc + 3) ls (rest))) : W p l e R s m args below meth c H locs cells slots Q (F0 m pc ls (vI z :: .ref (eA E 4 o) :: rest)) := g_put C h ho (T := TX4) rfl 1 (by decide) (by decide) wF_X4_15 rfl rfl rfl (ty := .int) (by decide +kernel) rfl rfl hd kk
theorem gf_X7_172 (C : gC p s m args meth c RX7 cc nL ret E) (h : gH E s G H locs) {o : Int} (ho : gOk 4 o) (hd : decode cc pc = .ok (.getfield 172, 3)) (kk : W p l e R s m args below meth c H locs cells slots Q (F0 m (pc + 3) ls (vI (G 4 o 1) :: rest))) : W p l e R s m args below meth c H locs cells slots Q (F0 m pc ls (.ref (eA E 4 o) :: rest)) := g_get C h ho (T := TX4) rfl 1 (by decide) (by decide) wF_X7_172 rfl rfl hd kk
theorem gp_X7_172 (C : gC p s m args meth c RX7 cc nL ret E) (h : gH E s G H locs) {o : Int} (ho : gOk 4 o) {z : Int} (hd : decode cc pc = .ok (.putfield 172, 3)) (kk : ∀ (H : Heap) (locs : List Loc), gH E s (gup G 4 o 1 z) H locs → W p l e R s m args below meth c H locs cells slots Q (F0 m (pc + 3) ls (rest))) : W p l e R s m args below meth c H locs cells slots Q (F0 m pc ls (vI z :: .ref (eA E 4 o) :: rest)) := g_put C h ho (T := TX4) rfl 1 (by decide) (by decide) wF_X7_172 rfl rfl rfl (ty := .int) (by decide +kernel) rfl rfl hd kk
theorem gf_X4_19 (C : gC p s m args meth c RX4 cc nL ret E) (h : gH E s G H locs) {o : Int} (ho : gOk 4 o) (hd : decode cc pc = .ok (.getfield 19, 3)) (kk : W p l e R s m args below meth c H locs cells slots Q (F0 m (pc + 3) ls (vI (G 4 o 2) :: rest))) : W p l e R s m args below meth c H locs cells slots Q (F0 m pc ls (.ref (eA E 4 o) :: rest)) := g_get C h ho (T := TX4) rfl 2 (by decide) (by decide) wF_X4_19 rfl rfl hd kk
theorem gp_X4_19 (C : gC p s m args meth c RX4 cc nL ret E) (h : gH E s G H locs) {o : Int} (ho : gOk 4 o) {z : Int} (hd : decode cc pc = .ok (.putfield 19, 3)) (kk : ∀ (H : Heap) (locs : List Loc), gH E s (gup G 4 o 2 z) H locs → W p l e R s m args below meth c H locs cells slots Q (F0 m (pc + 3) ls (rest))) : W p l e R s m args below meth c H locs cells slots Q (F0 m pc ls (vI z :: .ref (eA E 4 o) :: rest)) := g_put C h ho (T := TX4) rfl 2 (by decide) (by decide) wF_X4_19 rfl rfl rfl (ty := .int) (by decide +kernel) rfl rfl hd kk
theorem gf_X7_12 (C : gC p s m args meth c RX7 cc nL ret E) (h : gH E s G H locs) {o : Int} (ho : gOk 7 o) (hd : decode cc pc = .ok (.getfield 12, 3)) (kk : W p l e R s m args below meth c H locs cells slots Q (F0 m (pc + 3) ls (.ref (eA E 3 0) :: rest))) : W p l e R s m args below meth c H locs cells slots Q (F0 m pc ls (.ref (eA E 7 o) :: rest)) := g_get C h ho (T := TX7) rfl 0 (by decide) (by decide) wF_X7_12 rfl rfl hd kk
theorem gf_X7_16 (C : gC p s m args meth c RX7 cc nL ret E) (h : gH E s G H locs) {o : Int} (ho : gOk 7 o) (hd : decode cc pc = .ok (.getfield 16, 3)) (kk : W p l e R s m args below meth c H locs cells slots Q (F0 m (pc + 3) ls (.ref (eA E 3 1) :: rest))) : W p l e R s m args below meth c H locs cells slots Q (F0 m pc ls (.ref (eA E 7 o) :: rest)) := g_get C h ho (T := TX7) rfl 1 (by decide) (by decide) wF_X7_16 rfl rfl hd kk
theorem gf_X7_22 (C : gC p s m args meth c RX7 cc nL ret E) (h : gH E s G H locs) {o : Int} (ho : gOk 7 o) (hd : decode cc pc = .ok (.getfield 22, 3)) (kk : W p l e R s m args below meth c H locs cells slots Q (F0 m (pc + 3) ls (.ref (eA E 0 0) :: rest))) : W p l e R s m args below meth c H locs cells slots Q (F0 m pc ls (.ref (eA E 7 o) :: rest)) := g_get C h ho (T := TX7) rfl 2 (by decide) (by decide) wF_X7_22 rfl rfl hd kk
theorem gf_X7_29 (C : gC p s m args meth c RX7 cc nL ret E) (h : gH E s G H locs) {o : Int} (ho : gOk 7 o) (hd : decode cc pc = .ok (.getfield 29, 3)) (kk : W p l e R s m args below meth c H locs cells slots Q (F0 m (pc + 3) ls (.ref (eA E 4 0) :: rest))) : W p l e R s m args below meth c H locs cells slots Q (F0 m pc ls (.ref (eA E 7 o) :: rest)) := g_get C h ho (T := TX7) rfl 3 (by decide) (by decide) wF_X7_29 rfl rfl hd kk
theorem gf_X8_7 (C : gC p s m args meth c RX8 cc nL ret E) (h : gH E s G H locs) {o : Int} (ho : gOk 8 o) (hd : decode cc pc = .ok (.getfield 7, 3)) (kk : W p l e R s m args below meth c H locs cells slots Q (F0 m (pc + 3) ls (.ref (eA E 10 0) :: rest))) : W p l e R s m args below meth c H locs cells slots Q (F0 m pc ls (.ref (eA E 8 o) :: rest)) := g_get C h ho (T := TX8) rfl 0 (by decide) (by decide) wF_X8_7 rfl rfl hd kk
theorem gf_X8_13 (C : gC p s m args meth c RX8 cc nL ret E) (h : gH E s G H locs) {o : Int} (ho : gOk 8 o) (hd : decode cc pc = .ok (.getfield 13, 3)) (kk : W p l e R s m args below meth c H locs cells slots Q (F0 m (pc + 3) ls (.ref (eA E 10 1) :: rest))) : W p l e R s m args below meth c H locs cells slots Q (F0 m pc ls (.ref (eA E 8 o) :: rest)) := g_get C h ho (T := TX8) rfl 1 (by decide) (by decide) wF_X8_13 rfl rfl hd kk
theorem gf_X8_16 (C : gC p s m args meth c RX8 cc nL ret E) (h : gH E s G H locs) {o : Int} (ho : gOk 8 o) (hd : decode cc pc = .ok (.getfield 16, 3)) (kk : W p l e R s m args below meth c H locs cells slots Q (F0 m (pc + 3) ls (.ref (eA E 10 2) :: rest))) : W p l e R s m args below meth c H locs cells slots Q (F0 m pc ls (.ref (eA E 8 o) :: rest)) := g_get C h ho (T := TX8) rfl 2 (by decide) (by decide) wF_X8_16 rfl rfl hd kk
theorem gf_X8_37 (C : gC p s m args meth c RX8 cc nL ret E) (h : gH E s G H locs) {o : Int} (ho : gOk 8 o) (hd : decode cc pc = .ok (.getfield 37, 3)) (kk : W p l e R s m args below meth c H locs cells slots Q (F0 m (pc + 3) ls (vI (G 8 o 3) :: rest))) : W p l e R s m args below meth c H locs cells slots Q (F0 m pc ls (.ref (eA E 8 o) :: rest)) := g_get C h ho (T := TX8) rfl 3 (by decide) (by decide) wF_X8_37 rfl rfl hd kk
theorem gp_X8_37 (C : gC p s m args meth c RX8 cc nL ret E) (h : gH E s G H locs) {o : Int} (ho : gOk 8 o) {z : Int} (hd : decode cc pc = .ok (.putfield 37, 3)) (kk : ∀ (H : Heap) (locs : List Loc), gH E s (gup G 8 o 3 z) H locs → W p l e R s m args below meth c H locs cells slots Q (F0 m (pc + 3) ls (rest))) : W p l e R s m args below meth c H locs cells slots Q (F0 m pc ls (vI z :: .ref (eA E 8 o) :: rest)) := g_put C h ho (T := TX8) rfl 3 (by decide) (by decide) wF_X8_37 rfl rfl rfl (ty := .int) (by decide +kernel) rfl rfl hd kk
theorem gf_X8_33 (C : gC p s m args meth c RX8 cc nL ret E) (h : gH E s G H locs) {o : Int} (ho : gOk 8 o) (hd : decode cc pc = .ok (.getfield 33, 3)) (kk : W p l e R s m args below meth c H locs cells slots Q (F0 m (pc + 3) ls (vI (G 8 o 4) :: rest))) : W p l e R s m args below meth c H locs cells slots Q (F0 m pc ls (.ref (eA E 8 o) :: rest)) := g_get C h ho (T := TX8) rfl 4 (by decide) (by decide) wF_X8_33 rfl rfl hd kk
theorem gp_X8_33 (C : gC p s m args meth c RX8 cc nL ret E) (h : gH E s G H locs) {o : Int} (ho : gOk 8 o) {z : Int} (hd : decode cc pc = .ok (.putfield 33, 3)) (kk : ∀ (H : Heap) (locs : List Loc), gH E s (gup G 8 o 4 z) H locs → W p l e R s m args below meth c H locs cells slots Q (F0 m (pc + 3) ls (rest))) : W p l e R s m args below meth c H locs cells slots Q (F0 m pc ls (vI z :: .ref (eA E 8 o) :: rest)) := g_put C h ho (T := TX8) rfl 4 (by decide) (by decide) wF_X8_33 rfl rfl rfl (ty := .int) (by decide +kernel) rfl rfl hd kk
theorem gf_X8_19 (C : gC p s m args meth c RX8 cc nL ret E) (h : gH E s G H locs) {o : Int} (ho : gOk 8 o) (hd : decode cc pc = .ok (.getfield 19, 3)) (kk : W p l e R s m args below meth c H locs cells slots Q (F0 m (pc + 3) ls (.ref (eA E 11 0) :: rest))) : W p l e R s m args below meth c H locs cells slots Q (F0 m pc ls (.ref (eA E 8 o) :: rest)) := g_get C h ho (T := TX8) rfl 5 (by decide) (by decide) wF_X8_19 rfl rfl hd kk
theorem gf_X8_23 (C : gC p s m args meth c RX8 cc nL ret E) (h : gH E s G H locs) {o : Int} (ho : gOk 8 o) (hd : decode cc pc = .ok (.getfield 23, 3)) (kk : W p l e R s m args below meth c H locs cells slots Q (F0 m (pc + 3) ls (.ref (eA E 10 3) :: rest))) : W p l e R s m args below meth c H locs cells slots Q (F0 m pc ls (.ref (eA E 8 o) :: rest)) := g_get C h ho (T := TX8) rfl 6 (by decide) (by decide) wF_X8_23 rfl rfl hd kk
theorem gf_X8_210 (C : gC p s m args meth c RX8 cc nL ret E) (h : gH E s G H locs) {o : Int} (ho : gOk 8 o) (hd : decode cc pc = .ok (.getfield 210, 3)) (kk : W p l e R s m args below meth c H locs cells slots Q (F0 m (pc + 3) ls (vI (G 8 o 7) :: rest))) : W p l e R s m args below meth c H locs cells slots Q (F0 m pc ls (.ref (eA E 8 o) :: rest)) := g_get C h ho (T := TX8) rfl 7 (by decide) (by decide) wF_X8_210 rfl rfl hd kk
theorem gp_X8_210 (C : gC p s m args meth c RX8 cc nL ret E) (h : gH E s G H locs) {o : Int} (ho : gOk 8 o) {z : Int} (hd : decode cc pc = .ok (.putfield 210, 3)) (kk : ∀ (H : Heap) (locs : List Loc), gH E s (gup G 8 o 7 z) H locs → W p l e R s m args below meth c H locs cells slots Q (F0 m (pc + 3) ls (rest))) : W p l e R s m args below meth c H locs cells slots Q (F0 m pc ls (vI z :: .ref (eA E 8 o) :: rest)) := g_put C h ho (T := TX8) rfl 7 (by decide) (by decide) wF_X8_210 rfl rfl rfl (ty := .int) (by decide +kernel) rfl rfl hd kk
theorem gf_X8_213 (C : gC p s m args meth c RX8 cc nL ret E) (h : gH E s G H locs) {o : Int} (ho : gOk 8 o) (hd : decode cc pc = .ok (.getfield 213, 3)) (kk : W p l e R s m args below meth c H locs cells slots Q (F0 m (pc + 3) ls (vI (G 8 o 8) :: rest))) : W p l e R s m args below meth c H locs cells slots Q (F0 m pc ls (.ref (eA E 8 o) :: rest)) := g_get C h ho (T := TX8) rfl 8 (by decide) (by decide) wF_X8_213 rfl rfl hd kk
theorem gp_X8_213 (C : gC p s m args meth c RX8 cc nL ret E) (h : gH E s G H locs) {o : Int} (ho : gOk 8 o) {z : Int} (hd : decode cc pc = .ok (.putfield 213, 3)) (kk : ∀ (H : Heap) (locs : List Loc), gH E s (gup G 8 o 8 z) H locs → W p l e R s m args below meth c H locs cells slots Q (F0 m (pc + 3) ls (rest))) : W p l e R s m args below meth c H locs cells slots Q (F0 m pc ls (vI z :: .ref (eA E 8 o) :: rest)) := g_put C h ho (T := TX8) rfl 8 (by decide) (by decide) wF_X8_213 rfl rfl rfl (ty := .int) (by decide +kernel) rfl rfl hd kk
theorem gf_X8_26 (C : gC p s m args meth c RX8 cc nL ret E) (h : gH E s G H locs) {o : Int} (ho : gOk 8 o) (hd : decode cc pc = .ok (.getfield 26, 3)) (kk : W p l e R s m args below meth c H locs cells slots Q (F0 m (pc + 3) ls (.ref (eA E 10 4) :: rest))) : W p l e R s m args below meth c H locs cells slots Q (F0 m pc ls (.ref (eA E 8 o) :: rest)) := g_get C h ho (T := TX8) rfl 9 (by decide) (by decide) wF_X8_26 rfl rfl hd kk
theorem gf_X8_216 (C : gC p s m args meth c RX8 cc nL ret E) (h : gH E s G H locs) {o : Int} (ho : gOk 8 o) (hd : decode cc pc = .ok (.getfield 216, 3)) (kk : W p l e R s m args below meth c H locs cells slots Q (F0 m (pc + 3) ls (vI (G 8 o 10) :: rest))) : W p l e R s m args below meth c H locs cells slots Q (F0 m pc ls (.ref (eA E 8 o) :: rest)) := g_get C h ho (T := TX8) rfl 10 (by decide) (by decide) wF_X8_216 rfl rfl hd kk
theorem gp_X8_216 (C : gC p s m args meth c RX8 cc nL ret E) (h : gH E s G H locs) {o : Int} (ho : gOk 8 o) {z : Int} (hd : decode cc pc = .ok (.putfield 216, 3)) (kk : ∀ (H : Heap) (locs : List Loc), gH E s (gup G 8 o 10 z) H locs → W p l e R s m args below meth c H locs cells slots Q (F0 m (pc + 3) ls (rest))) : W p l e R s m args below meth c H locs cells slots Q (F0 m pc ls (vI z :: .ref (eA E 8 o) :: rest)) := g_put C h ho (T := TX8) rfl 10 (by decide) (by decide) wF_X8_216 rfl rfl rfl (ty := .int) (by decide +kernel) rfl rfl hd kk
end GLINK
theorem ny_X7_init : gNy yX7_init 0 := ⟨by decide +kernel, by decide +kernel, by decide +kernel⟩
theorem ny_X3_init : gNy yX3_init 0 := ⟨by decide +kernel, by decide +kernel, by decide +kernel⟩
theorem ny_X5_init : gNy yX5_init 0 := ⟨by decide +kernel, by decide +kernel, by decide +kernel⟩
theorem ny_X1_init : gNy yX1_init 0 := ⟨by decide +kernel, by decide +kernel, by decide +kernel⟩
theorem ny_X6_init : gNy yX6_init 0 := ⟨by decide +kernel, by decide +kernel, by decide +kernel⟩
theorem ny_X2_init : gNy yX2_init 0 := ⟨by decide +kernel, by decide +kernel, by decide +kernel⟩
theorem ny_X3_restart : gNy yX3_restart 0 := ⟨by decide +kernel, by decide +kernel, by decide +kernel⟩
theorem ny_X5_set : gNy yX5_set 3 := ⟨by decide +kernel, by decide +kernel, by decide +kernel⟩
theorem ny_X1_set : gNy yX1_set 3 := ⟨by decide +kernel, by decide +kernel, by decide +kernel⟩
theorem ny_X0_init : gNy yX0_init 0 := ⟨by decide +kernel, by decide +kernel, by decide +kernel⟩
theorem ny_X4_init : gNy yX4_init 0 := ⟨by decide +kernel, by decide +kernel, by decide +kernel⟩
theorem ny_X7_collect : gNy yX7_collect 0 := ⟨by decide +kernel, by decide +kernel, by decide +kernel⟩
theorem ny_X0_save : gNy yX0_save 1 := ⟨by decide +kernel, by decide +kernel, by decide +kernel⟩
theorem ny_X0_dropOldest : gNy yX0_dropOldest 0 := ⟨by decide +kernel, by decide +kernel, by decide +kernel⟩
theorem ny_X3_copyFrom : gNy yX3_copyFrom 1 := ⟨by decide +kernel, by decide +kernel, by decide +kernel⟩
theorem ny_X5_copyFrom : gNy yX5_copyFrom 1 := ⟨by decide +kernel, by decide +kernel, by decide +kernel⟩
theorem ny_X1_copyFrom : gNy yX1_copyFrom 1 := ⟨by decide +kernel, by decide +kernel, by decide +kernel⟩
theorem ny_X6_copyFrom : gNy yX6_copyFrom 1 := ⟨by decide +kernel, by decide +kernel, by decide +kernel⟩
theorem ny_X2_copyFrom : gNy yX2_copyFrom 1 := ⟨by decide +kernel, by decide +kernel, by decide +kernel⟩
theorem ny_X3_takeDelivered : gNy yX3_takeDelivered 0 := ⟨by decide +kernel, by decide +kernel, by decide +kernel⟩
theorem ny_X2_isDelivered : gNy yX2_isDelivered 0 := ⟨by decide +kernel, by decide +kernel, by decide +kernel⟩
theorem ny_X2_isOnStage : gNy yX2_isOnStage 0 := ⟨by decide +kernel, by decide +kernel, by decide +kernel⟩
theorem ny_X7_hoursToAll : gNy yX7_hoursToAll 0 := ⟨by decide +kernel, by decide +kernel, by decide +kernel⟩
theorem ny_X3_hoursUntilDelivered : gNy yX3_hoursUntilDelivered 1 := ⟨by decide +kernel, by decide +kernel, by decide +kernel⟩
theorem ny_X3_hasCome : gNy yX3_hasCome 1 := ⟨by decide +kernel, by decide +kernel, by decide +kernel⟩
theorem ny_X3_lettersLying : gNy yX3_lettersLying 0 := ⟨by decide +kernel, by decide +kernel, by decide +kernel⟩
theorem ny_X2_liesAtAnInn : gNy yX2_liesAtAnInn 0 := ⟨by decide +kernel, by decide +kernel, by decide +kernel⟩
theorem ny_X3_lettersOnStages : gNy yX3_lettersOnStages 0 := ⟨by decide +kernel, by decide +kernel, by decide +kernel⟩
theorem ny_X3_allTeamsIdle : gNy yX3_allTeamsIdle 0 := ⟨by decide +kernel, by decide +kernel, by decide +kernel⟩
theorem ny_X6_stands : gNy yX6_stands 0 := ⟨by decide +kernel, by decide +kernel, by decide +kernel⟩
theorem ny_X3_passHour : gNy yX3_passHour 0 := ⟨by decide +kernel, by decide +kernel, by decide +kernel⟩
theorem ny_X3_restTeams : gNy yX3_restTeams 0 := ⟨by decide +kernel, by decide +kernel, by decide +kernel⟩
theorem ny_X3_restTeam : gNy yX3_restTeam 1 := ⟨by decide +kernel, by decide +kernel, by decide +kernel⟩
theorem ny_X6_rest : gNy yX6_rest 1 := ⟨by decide +kernel, by decide +kernel, by decide +kernel⟩
theorem ny_X3_moveTeams : gNy yX3_moveTeams 0 := ⟨by decide +kernel, by decide +kernel, by decide +kernel⟩
theorem ny_X3_arrive : gNy yX3_arrive 1 := ⟨by decide +kernel, by decide +kernel, by decide +kernel⟩
theorem ny_X5_effort : gNy yX5_effort 1 := ⟨by decide +kernel, by decide +kernel, by decide +kernel⟩
theorem ny_X6_tire : gNy yX6_tire 1 := ⟨by decide +kernel, by decide +kernel, by decide +kernel⟩
theorem ny_X3_putDown : gNy yX3_putDown 1 := ⟨by decide +kernel, by decide +kernel, by decide +kernel⟩
theorem ny_X3_deliver : gNy yX3_deliver 1 := ⟨by decide +kernel, by decide +kernel, by decide +kernel⟩
theorem ny_X6_stand : gNy yX6_stand 1 := ⟨by decide +kernel, by decide +kernel, by decide +kernel⟩
theorem ny_X3_sendLetters : gNy yX3_sendLetters 1 := ⟨by decide +kernel, by decide +kernel, by decide +kernel⟩
theorem ny_X3_hindrance : gNy yX3_hindrance 1 := ⟨by decide +kernel, by decide +kernel, by decide +kernel⟩
theorem ny_X7_nextInn : gNy yX7_nextInn 2 := ⟨by decide +kernel, by decide +kernel, by decide +kernel⟩
theorem ny_X7_stageBetween : gNy yX7_stageBetween 2 := ⟨by decide +kernel, by decide +kernel, by decide +kernel⟩
theorem ny_X3_freeBeds : gNy yX3_freeBeds 1 := ⟨by decide +kernel, by decide +kernel, by decide +kernel⟩
theorem ny_X3_bedsTaken : gNy yX3_bedsTaken 1 := ⟨by decide +kernel, by decide +kernel, by decide +kernel⟩
theorem ny_X3_fittestTeamAt : gNy yX3_fittestTeamAt 1 := ⟨by decide +kernel, by decide +kernel, by decide +kernel⟩
theorem ny_X6_standsAt : gNy yX6_standsAt 1 := ⟨by decide +kernel, by decide +kernel, by decide +kernel⟩
theorem ny_X3_sendLetter : gNy yX3_sendLetter 1 := ⟨by decide +kernel, by decide +kernel, by decide +kernel⟩
theorem ny_X6_setOut : gNy yX6_setOut 2 := ⟨by decide +kernel, by decide +kernel, by decide +kernel⟩
theorem ny_X3_sendTeamsBack : gNy yX3_sendTeamsBack 0 := ⟨by decide +kernel, by decide +kernel, by decide +kernel⟩
theorem ny_X3_lettersAt : gNy yX3_lettersAt 1 := ⟨by decide +kernel, by decide +kernel, by decide +kernel⟩
theorem ny_X3_sendBack : gNy yX3_sendBack 1 := ⟨by decide +kernel, by decide +kernel, by decide +kernel⟩
theorem ny_X7_bestInn : gNy yX7_bestInn 0 := ⟨by decide +kernel, by decide +kernel, by decide +kernel⟩
theorem ny_X3_placeTeam : gNy yX3_placeTeam 2 := ⟨by decide +kernel, by decide +kernel, by decide +kernel⟩
theorem ny_X6_begin : gNy yX6_begin 2 := ⟨by decide +kernel, by decide +kernel, by decide +kernel⟩
theorem ny_X7_meanTiredness : gNy yX7_meanTiredness 0 := ⟨by decide +kernel, by decide +kernel, by decide +kernel⟩
theorem ny_X7_clearText : gNy yX7_clearText 0 := ⟨by decide +kernel, by decide +kernel, by decide +kernel⟩
theorem ny_X7_parse : gNy yX7_parse 0 := ⟨by decide +kernel, by decide +kernel, by decide +kernel⟩
theorem ny_X4_readInto : gNy yX4_readInto 1 := ⟨by decide +kernel, by decide +kernel, by decide +kernel⟩
theorem ny_X4_readStage : gNy yX4_readStage 1 := ⟨by decide +kernel, by decide +kernel, by decide +kernel⟩
theorem ny_X4_digitStands : gNy yX4_digitStands 1 := ⟨by decide +kernel, by decide +kernel, by decide +kernel⟩
theorem ny_X4_takeDigit : gNy yX4_takeDigit 0 := ⟨by decide +kernel, by decide +kernel, by decide +kernel⟩
theorem ny_X4_signStands : gNy yX4_signStands 1 := ⟨by decide +kernel, by decide +kernel, by decide +kernel⟩
theorem ny_X7_digest : gNy yX7_digest 0 := ⟨by decide +kernel, by decide +kernel, by decide +kernel⟩
theorem ny_X3_number : gNy yX3_number 1 := ⟨by decide +kernel, by decide +kernel, by decide +kernel⟩
theorem ny_X7_digestOfRoad : gNy yX7_digestOfRoad 1 := ⟨by decide +kernel, by decide +kernel, by decide +kernel⟩
theorem ny_X3_aboutStage : gNy yX3_aboutStage 2 := ⟨by decide +kernel, by decide +kernel, by decide +kernel⟩
theorem ny_X7_oneIf : gNy yX7_oneIf 1 := ⟨by decide +kernel, by decide +kernel, by decide +kernel⟩
theorem ny_X3_teamsOn : gNy yX3_teamsOn 1 := ⟨by decide +kernel, by decide +kernel, by decide +kernel⟩
theorem ny_X3_aboutInn : gNy yX3_aboutInn 2 := ⟨by decide +kernel, by decide +kernel, by decide +kernel⟩
theorem ny_X3_teamsAt : gNy yX3_teamsAt 1 := ⟨by decide +kernel, by decide +kernel, by decide +kernel⟩
theorem ny_X7_digestOfTeams : gNy yX7_digestOfTeams 1 := ⟨by decide +kernel, by decide +kernel, by decide +kernel⟩
theorem ny_X6_about : gNy yX6_about 1 := ⟨by decide +kernel, by decide +kernel, by decide +kernel⟩
theorem ny_X7_digestOfLetters : gNy yX7_digestOfLetters 1 := ⟨by decide +kernel, by decide +kernel, by decide +kernel⟩
theorem ny_X2_about : gNy yX2_about 1 := ⟨by decide +kernel, by decide +kernel, by decide +kernel⟩
theorem ny_X7_setStage : gNy yX7_setStage 4 := ⟨by decide +kernel, by decide +kernel, by decide +kernel⟩
theorem ny_X7_checkNumber : gNy yX7_checkNumber 2 := ⟨by decide +kernel, by decide +kernel, by decide +kernel⟩
theorem ny_X7_checkRange : gNy yX7_checkRange 3 := ⟨by decide +kernel, by decide +kernel, by decide +kernel⟩
theorem ny_X7_setInn : gNy yX7_setInn 4 := ⟨by decide +kernel, by decide +kernel, by decide +kernel⟩
theorem ny_X7_addTeam : gNy yX7_addTeam 2 := ⟨by decide +kernel, by decide +kernel, by decide +kernel⟩
theorem ny_X7_checkRoom : gNy yX7_checkRoom 2 := ⟨by decide +kernel, by decide +kernel, by decide +kernel⟩
theorem ny_X7_give : gNy yX7_give 3 := ⟨by decide +kernel, by decide +kernel, by decide +kernel⟩
theorem ny_X3_placeLetter : gNy yX3_placeLetter 3 := ⟨by decide +kernel, by decide +kernel, by decide +kernel⟩
theorem ny_X2_begin : gNy yX2_begin 4 := ⟨by decide +kernel, by decide +kernel, by decide +kernel⟩
theorem ny_X7_pass : gNy yX7_pass 1 := ⟨by decide +kernel, by decide +kernel, by decide +kernel⟩
theorem ny_X7_stage : gNy yX7_stage 2 := ⟨by decide +kernel, by decide +kernel, by decide +kernel⟩
theorem ny_X7_inn : gNy yX7_inn 2 := ⟨by decide +kernel, by decide +kernel, by decide +kernel⟩
theorem ny_X7_team : gNy yX7_team 2 := ⟨by decide +kernel, by decide +kernel, by decide +kernel⟩
theorem ny_X7_letter : gNy yX7_letter 2 := ⟨by decide +kernel, by decide +kernel, by decide +kernel⟩
theorem ny_X7_value : gNy yX7_value 1 := ⟨by decide +kernel, by decide +kernel, by decide +kernel⟩
theorem ny_X7_why : gNy yX7_why 1 := ⟨by decide +kernel, by decide +kernel, by decide +kernel⟩
theorem ny_X7_hoursTo : gNy yX7_hoursTo 1 := ⟨by decide +kernel, by decide +kernel, by decide +kernel⟩
theorem ny_X7_way : gNy yX7_way 2 := ⟨by decide +kernel, by decide +kernel, by decide +kernel⟩
theorem ny_X3_hoursBetween : gNy yX3_hoursBetween 2 := ⟨by decide +kernel, by decide +kernel, by decide +kernel⟩
theorem ny_X7_effortHome : gNy yX7_effortHome 1 := ⟨by decide +kernel, by decide +kernel, by decide +kernel⟩
theorem ny_X3_effortBetween : gNy yX3_effortBetween 2 := ⟨by decide +kernel, by decide +kernel, by decide +kernel⟩
theorem ny_X7_append : gNy yX7_append 1 := ⟨by decide +kernel, by decide +kernel, by decide +kernel⟩
theorem ny_X4_add : gNy yX4_add 1 := ⟨by decide +kernel, by decide +kernel, by decide +kernel⟩
theorem ny_X7_undo : gNy yX7_undo 0 := ⟨by decide +kernel, by decide +kernel, by decide +kernel⟩
theorem ny_X0_restore : gNy yX0_restore 1 := ⟨by decide +kernel, by decide +kernel, by decide +kernel⟩
theorem ny_X8_init : gNy yX8_init 0 := ⟨by decide +kernel, by decide +kernel, by decide +kernel⟩
theorem ny_X8_begins : gNy yX8_begins 1 := ⟨by decide +kernel, by decide +kernel, by decide +kernel⟩
theorem ny_X8_thrown : gNy yX8_thrown 0 := ⟨by decide +kernel, by decide +kernel, by decide +kernel⟩
theorem ny_X8_setStage : gNy yX8_setStage 4 := ⟨by decide +kernel, by decide +kernel, by decide +kernel⟩
theorem ny_X8_isStage : gNy yX8_isStage 1 := ⟨by decide +kernel, by decide +kernel, by decide +kernel⟩
theorem ny_X8_in : gNy yX8_in 3 := ⟨by decide +kernel, by decide +kernel, by decide +kernel⟩
theorem ny_X8_throwing : gNy yX8_throwing 1 := ⟨by decide +kernel, by decide +kernel, by decide +kernel⟩
theorem ny_X8_save : gNy yX8_save 0 := ⟨by decide +kernel, by decide +kernel, by decide +kernel⟩
theorem ny_X8_hoursOf : gNy yX8_hoursOf 1 := ⟨by decide +kernel, by decide +kernel, by decide +kernel⟩
theorem ny_X8_fine : gNy yX8_fine 1 := ⟨by decide +kernel, by decide +kernel, by decide +kernel⟩
theorem ny_X8_setInn : gNy yX8_setInn 4 := ⟨by decide +kernel, by decide +kernel, by decide +kernel⟩
theorem ny_X8_isInn : gNy yX8_isInn 1 := ⟨by decide +kernel, by decide +kernel, by decide +kernel⟩
theorem ny_X8_addTeam : gNy yX8_addTeam 2 := ⟨by decide +kernel, by decide +kernel, by decide +kernel⟩
theorem ny_X8_adds : gNy yX8_adds 2 := ⟨by decide +kernel, by decide +kernel, by decide +kernel⟩
theorem ny_X8_teamAt : gNy yX8_teamAt 2 := ⟨by decide +kernel, by decide +kernel, by decide +kernel⟩
theorem ny_X8_give : gNy yX8_give 3 := ⟨by decide +kernel, by decide +kernel, by decide +kernel⟩
theorem ny_X8_letterAt : gNy yX8_letterAt 2 := ⟨by decide +kernel, by decide +kernel, by decide +kernel⟩
theorem ny_X8_collect : gNy yX8_collect 0 := ⟨by decide +kernel, by decide +kernel, by decide +kernel⟩
theorem ny_X8_isDelivered : gNy yX8_isDelivered 1 := ⟨by decide +kernel, by decide +kernel, by decide +kernel⟩
theorem ny_X8_ofLetter : gNy yX8_ofLetter 2 := ⟨by decide +kernel, by decide +kernel, by decide +kernel⟩
theorem ny_X8_pass : gNy yX8_pass 1 := ⟨by decide +kernel, by decide +kernel, by decide +kernel⟩
theorem ny_X8_hour : gNy yX8_hour 0 := ⟨by decide +kernel, by decide +kernel, by decide +kernel⟩
theorem ny_X8_rests : gNy yX8_rests 0 := ⟨by decide +kernel, by decide +kernel, by decide +kernel⟩
theorem ny_X8_of : gNy yX8_of 2 := ⟨by decide +kernel, by decide +kernel, by decide +kernel⟩
theorem ny_X8_roads : gNy yX8_roads 0 := ⟨by decide +kernel, by decide +kernel, by decide +kernel⟩
theorem ny_X8_arrives : gNy yX8_arrives 1 := ⟨by decide +kernel, by decide +kernel, by decide +kernel⟩
theorem ny_X8_effort : gNy yX8_effort 2 := ⟨by decide +kernel, by decide +kernel, by decide +kernel⟩
theorem ny_X8_between : gNy yX8_between 2 := ⟨by decide +kernel, by decide +kernel, by decide +kernel⟩
theorem ny_X8_comes : gNy yX8_comes 2 := ⟨by decide +kernel, by decide +kernel, by decide +kernel⟩
theorem ny_X8_goOn : gNy yX8_goOn 0 := ⟨by decide +kernel, by decide +kernel, by decide +kernel⟩
theorem ny_X8_lies : gNy yX8_lies 1 := ⟨by decide +kernel, by decide +kernel, by decide +kernel⟩
theorem ny_X8_isAhead : gNy yX8_isAhead 2 := ⟨by decide +kernel, by decide +kernel, by decide +kernel⟩
theorem ny_X8_goesOn : gNy yX8_goesOn 1 := ⟨by decide +kernel, by decide +kernel, by decide +kernel⟩
theorem ny_X8_whyNot : gNy yX8_whyNot 1 := ⟨by decide +kernel, by decide +kernel, by decide +kernel⟩
theorem ny_X8_toward : gNy yX8_toward 2 := ⟨by decide +kernel, by decide +kernel, by decide +kernel⟩
theorem ny_X8_isBlocked : gNy yX8_isBlocked 1 := ⟨by decide +kernel, by decide +kernel, by decide +kernel⟩
theorem ny_X8_isShut : gNy yX8_isShut 1 := ⟨by decide +kernel, by decide +kernel, by decide +kernel⟩
theorem ny_X8_freeBeds : gNy yX8_freeBeds 1 := ⟨by decide +kernel, by decide +kernel, by decide +kernel⟩
theorem ny_X8_teamsOf : gNy yX8_teamsOf 2 := ⟨by decide +kernel, by decide +kernel, by decide +kernel⟩
theorem ny_X8_teamFor : gNy yX8_teamFor 1 := ⟨by decide +kernel, by decide +kernel, by decide +kernel⟩
theorem ny_X8_leaves : gNy yX8_leaves 3 := ⟨by decide +kernel, by decide +kernel, by decide +kernel⟩
theorem ny_X8_walkBack : gNy yX8_walkBack 0 := ⟨by decide +kernel, by decide +kernel, by decide +kernel⟩
theorem ny_X8_lettersAt : gNy yX8_lettersAt 1 := ⟨by decide +kernel, by decide +kernel, by decide +kernel⟩
theorem ny_X8_stage : gNy yX8_stage 2 := ⟨by decide +kernel, by decide +kernel, by decide +kernel⟩
theorem ny_X8_stageOf : gNy yX8_stageOf 2 := ⟨by decide +kernel, by decide +kernel, by decide +kernel⟩
theorem ny_X8_teamsOn : gNy yX8_teamsOn 1 := ⟨by decide +kernel, by decide +kernel, by decide +kernel⟩
theorem ny_X8_inn : gNy yX8_inn 2 := ⟨by decide +kernel, by decide +kernel, by decide +kernel⟩
theorem ny_X8_innOf : gNy yX8_innOf 2 := ⟨by decide +kernel, by decide +kernel, by decide +kernel⟩
theorem ny_X8_team : gNy yX8_team 2 := ⟨by decide +kernel, by decide +kernel, by decide +kernel⟩
theorem ny_X8_isTeam : gNy yX8_isTeam 1 := ⟨by decide +kernel, by decide +kernel, by decide +kernel⟩
theorem ny_X8_letter : gNy yX8_letter 2 := ⟨by decide +kernel, by decide +kernel, by decide +kernel⟩
theorem ny_X8_isLetter : gNy yX8_isLetter 1 := ⟨by decide +kernel, by decide +kernel, by decide +kernel⟩
theorem ny_X8_value : gNy yX8_value 1 := ⟨by decide +kernel, by decide +kernel, by decide +kernel⟩
theorem ny_X8_valueOf : gNy yX8_valueOf 1 := ⟨by decide +kernel, by decide +kernel, by decide +kernel⟩
theorem ny_X8_lettersBy : gNy yX8_lettersBy 1 := ⟨by decide +kernel, by decide +kernel, by decide +kernel⟩
theorem ny_X8_why : gNy yX8_why 1 := ⟨by decide +kernel, by decide +kernel, by decide +kernel⟩
theorem ny_X8_hoursTo : gNy yX8_hoursTo 1 := ⟨by decide +kernel, by decide +kernel, by decide +kernel⟩
theorem ny_X8_laysAside : gNy yX8_laysAside 0 := ⟨by decide +kernel, by decide +kernel, by decide +kernel⟩
theorem ny_X8_takesBack : gNy yX8_takesBack 0 := ⟨by decide +kernel, by decide +kernel, by decide +kernel⟩
theorem ny_X8_hoursToAll : gNy yX8_hoursToAll 0 := ⟨by decide +kernel, by decide +kernel, by decide +kernel⟩
theorem ny_X8_forAll : gNy yX8_forAll 0 := ⟨by decide +kernel, by decide +kernel, by decide +kernel⟩
theorem ny_X8_toAll : gNy yX8_toAll 0 := ⟨by decide +kernel, by decide +kernel, by decide +kernel⟩
theorem ny_X8_areDelivered : gNy yX8_areDelivered 0 := ⟨by decide +kernel, by decide +kernel, by decide +kernel⟩
theorem ny_X8_bestInn : gNy yX8_bestInn 0 := ⟨by decide +kernel, by decide +kernel, by decide +kernel⟩
theorem ny_X8_way : gNy yX8_way 2 := ⟨by decide +kernel, by decide +kernel, by decide +kernel⟩
theorem ny_X8_effortHome : gNy yX8_effortHome 1 := ⟨by decide +kernel, by decide +kernel, by decide +kernel⟩
theorem ny_X8_meanTiredness : gNy yX8_meanTiredness 0 := ⟨by decide +kernel, by decide +kernel, by decide +kernel⟩
theorem ny_X8_append : gNy yX8_append 1 := ⟨by decide +kernel, by decide +kernel, by decide +kernel⟩
theorem ny_X8_clearText : gNy yX8_clearText 0 := ⟨by decide +kernel, by decide +kernel, by decide +kernel⟩
theorem ny_X8_parse : gNy yX8_parse 0 := ⟨by decide +kernel, by decide +kernel, by decide +kernel⟩
theorem ny_X8_readsText : gNy yX8_readsText 0 := ⟨by decide +kernel, by decide +kernel, by decide +kernel⟩
theorem ny_X8_readsStage : gNy yX8_readsStage 0 := ⟨by decide +kernel, by decide +kernel, by decide +kernel⟩
theorem ny_X8_here : gNy yX8_here 0 := ⟨by decide +kernel, by decide +kernel, by decide +kernel⟩
theorem ny_X8_undo : gNy yX8_undo 0 := ⟨by decide +kernel, by decide +kernel, by decide +kernel⟩
theorem ny_X8_digest : gNy yX8_digest 0 := ⟨by decide +kernel, by decide +kernel, by decide +kernel⟩
theorem wNest_X3_35 : (RX3, 35, yX5_init, RX7) ∈ gNest := List.mem_of_getElem? (i := 0) rfl
theorem wNest_X3_36 : (RX3, 36, yX1_init, RX7) ∈ gNest := List.mem_of_getElem? (i := 1) rfl
theorem wNest_X3_37 : (RX3, 37, yX6_init, RX7) ∈ gNest := List.mem_of_getElem? (i := 2) rfl
theorem wNest_X3_38 : (RX3, 38, yX2_init, RX7) ∈ gNest := List.mem_of_getElem? (i := 3) rfl
theorem wNest_X7_28 : (RX7, 28, yX4_init, RX7) ∈ gNest := List.mem_of_getElem? (i := 4) rfl
theorem wNest_X3_196 : (RX3, 196, yX7_nextInn, RX7) ∈ gNest := List.mem_of_getElem? (i := 5) rfl
theorem wNest_X3_203 : (RX3, 203, yX7_stageBetween, RX7) ∈ gNest := List.mem_of_getElem? (i := 6) rfl
theorem wNest_X6_53 : (RX6, 53, yX7_stageBetween, RX7) ∈ gNest := List.mem_of_getElem? (i := 7) rfl
theorem wNest_X3_273 : (RX3, 273, yX7_oneIf, RX7) ∈ gNest := List.mem_of_getElem? (i := 8) rfl
theorem wNest_X6_65 : (RX6, 65, yX7_oneIf, RX7) ∈ gNest := List.mem_of_getElem? (i := 9) rfl
theorem wNest_X2_44 : (RX2, 44, yX7_oneIf, RX7) ∈ gNest := List.mem_of_getElem? (i := 10) rfl
end
section
/-! METHODS THAT MAY THROW, over the world: x = 0 it returns; else it throws the exception of that number, and the world is as told -/
def gExc (x : Int) : String := if x = 1 then "java/lang/IndexOutOfBoundsException" else if x = 2 then "java/lang/IllegalArgumentException" else "java/lang/IllegalStateException"
def gQiX (E : gEnv) (G : GS) (x r : Int) : Array Value → State → Outcome → State → Prop := va_Qi (fun (v : Int32) (u : GS) => x = 0 ∧ v = Int32.ofInt r ∧ u = G) (fun u t => gW E u t) (eF E)
def gQvX (E : gEnv) (G : GS) (x : Int) : Array Value → State → Outcome → State → Prop := va_Qv (fun (u : GS) => x = 0 ∧ u = G) (fun u t => gW E u t) (eF E)
def gXC (E : gEnv) (G : GS) (x : Int) : String → State → State → Prop := vx_X (fun (u : GS) => x ≠ 0 ∧ u = G) (fun En u t => En = gExc x ∧ gP E u t.heap) (eF E)
def gMetX (l : Launch) (y : MethodName) (b : ByteArray) (nL : Nat) (ret : Option FieldType) (f lo mc ms : Nat) (As : List Value) (E : gEnv) (G : GS) (Qc : Array Value → State → Outcome → State → Prop) (XC : String → State → State → Prop) : Prop :=
  vx_Met l y (.code y b nL ret :: gWords) (gRm f lo mc ms) (va_Pc As (gW E G)) Qc XC mc ms (eF E)
theorem g_metX {l : Launch} {y : MethodName} {b : ByteArray} {nL : Nat} {ret : Option FieldType} {f lo mc ms : Nat} {As : List Value} {E : gEnv} {G : GS} {Qc : Array Value → State → Outcome → State → Prop} {XC : String → State → State → Prop}
    (hy : plainName y.cls = true) (hn : (lg_sl As).length ≤ nL)
    (body : ∀ (p : Program) (e : Env) (s : State) (m : MethodId) (below : List Frame) (meth : Method) (c : Code), gC p s m As.toArray meth c y.cls b nL ret E → (∀ x ∈ c.exceptionTable.toList, False) → ∀ (H : Heap) (locs : List Loc), gH E s G H locs → ∀ ls, lv_has ls nL (lv_args 0 As) → W p l e (gRm f lo mc ms) s m As.toArray below meth c H locs 0 0 (vx_MQ below Qc XC As.toArray s mc ms (eF E)) (F0 m 0 ls [])) :
    gMetX l y b nL ret f lo mc ms As E G Qc XC := by
  refine vx_ofW (cc := b) (maxL := nL) (ret := ret) hy rfl ?_
  intro p e s m args below meth c s₁ B hml ht hv
  obtain ⟨rfl, hP, hK⟩ := hv
  have hts := atoms_spec B.pre
  rw [lg_entry_eq]
  exact body p e s m below meth c ⟨B.exec, B.bytes, B.returns, hml, findClass_of_methodNamed B.named, fun w hw => hts w (List.mem_cons_of_mem _ hw), B.notSynchronized, hK⟩ ht s.heap [] ⟨hP, va_S.rf⟩ _ (lv_entry As hn)
abbrev gXN : List String := ["java/lang/RuntimeException", "java/lang/Exception"]
section GX
variable {p : Program} {l : Launch} {e : Env} {R : Room} {s : State} {m : MethodId} {args : Array Value} {below : List Frame} {meth : Method} {c : Code} {H : Heap} {locs : List Loc} {cells slots : Nat} {Q : State → Prop}
variable {pc : Nat} {ls : Array Slot} {rest st : List Value} {own : String} {cc : ByteArray} {nL : Nat} {ret : Option FieldType} {E : gEnv} {G G1 : GS} {mc ms : Nat} {Qc : Array Value → State → Outcome → State → Prop} {XC : String → State → State → Prop}
theorem gP_grown {t : State} (h : gP E G H) (hk : ∀ q : Nat, q < H.size → t.heap[q]? = H[q]?) : gP E G t.heap := va_P.kept h fun k q hq => hk q.1 (h k q hq).lt
theorem g_throw (C : gC p s m args meth c own cc nL ret E) (hout : ∀ x ∈ c.exceptionTable.toList, False) (hst : l.stackTraces = false) (h : gH E s G H locs) {cls text : String} {ik is ic : Nat} {x : Int} (hcls : Bundle.fit cls = true) (wk : Cond.classLink own ik cls ∈ gWords) (wi : Cond.initialized cls ∈ gWords) (ws : (own, is, text) ∈ gStr)
    (wat : ∀ w ∈ vx_atS own ic cls gXN, w ∈ lw_tbl ∧ (w.onTables && w.keepsFace) = true) (wg : ∀ w ∈ Cond.classLink own ik cls :: Cond.initialized cls :: vx_atS own ic cls gXN, vx_ot w = true) (hls : ls.size = nL)
    (d0 : decode cc pc = .ok (.new ik, 3)) (d3 : decode cc (pc + 3) = .ok (.dup, 1)) (d4 : decode cc (pc + 4) = .ok (.ldc is, 2)) (d6 : decode cc (pc + 6) = .ok (.invokespecial ic, 3)) (d9 : decode cc (pc + 9) = .ok (.athrow, 1))
    (hR : 5 < R.frames ∧ 82 ≤ R.locals) (hR2 : cells + 1 ≤ R.cells ∧ slots + 6 ≤ R.slots) (hm : cells + 1 ≤ mc ∧ slots + 6 ≤ ms) (hx : x ≠ 0) (he : cls = gExc x) :
    W p l e R s m args below meth c H locs cells slots (vx_MQ below Qc (gXC E G x) args s mc ms (eF E)) (F0 m pc ls []) := by
  have hX := C.2.2.2.2.2.2.2.2.2.2
  obtain ⟨sa, hsa⟩ := hX.2.2.2.1 _ ws
  refine vx_throwS C.1 C.2.1 hst (names := gXN) (A := eF E) C.2.2.2.2.1 hcls (by decide +kernel) (C.2.2.2.2.2.1 _ wk) (C.2.2.2.2.2.1 _ wi) hsa (fun w hw => ?_) wg hX.2.2.2.2.1 hX.2.2.2.2.2 h.2 (hls.trans C.2.2.2.1.symm) d0 d3 d4 d6 d9 (fun z hz => absurd hz (fun q => hout z q)) hR.1 (by simpa using hR.2) hR2.1 hR2.2 C.2.2.2.2.2.2.1 (fun t ha hz hk => ⟨G, ⟨hx, rfl⟩, ⟨he, gP_grown h.1 hk⟩, Nat.le_trans h.2.1 hz, fun q h1 h2 => by rw [hk q (Nat.lt_of_lt_of_le h1 h.2.1)]; exact h.2.2.1 q h1 h2⟩) h.2.2.2 hm.1 hm.2
  have hw2 := wat w hw
  have ho : w.onTables = true := by
    have := hw2.2
    simp only [Bool.and_eq_true] at this
    exact this.1
  exact va_tabs ho rfl (hX.1 w (List.mem_filter.mpr hw2))
theorem g_xout (C : gC p s m args meth c own cc nL ret E) (hout : ∀ x ∈ c.exceptionTable.toList, False) (h : gH E s G H locs) {x : Int} {ce : Cell} {q : Addr} (hx : x ≠ 0) (hcell : H[q]? = some ce) (hv : ce.vm = .none) (hcl : s.vm.findClass (gExc x) = some ce.cls) (hm : cells ≤ mc ∧ slots ≤ ms) {G2 : GS} {x2 : Int} (e1 : G = G2) (e2 : x = x2) :
    vx_W p l e R s m args below meth c H locs cells slots (vx_MQ below Qc (gXC E G2 x2) args s mc ms (eF E)) (F0 m pc ls rest) q := by
  subst e1
  subst e2
  exact vx_out (fun z hz => absurd hz (fun q => hout z q)) C.2.2.2.2.2.2.1 hcell hv hcl (fun t ht ha => ⟨G, ⟨hx, rfl⟩, ⟨rfl, by rw [ht]; exact h.1⟩, h.2.F ht⟩) h.2.2.2 hm.1 hm.2
theorem g_xrunV (C : gC p s m args meth c own cc nL ret E) (h : gH E s G H locs) {k : Nat} {o : Int} (ho : gOk k o) (hk9 : k < 9) {CN : String} {T : u_T} {N : Nat} (hc : vwCl[k]? = some (CN, T, N)) {ix n : Nat} {y : MethodName} {b : ByteArray} {nLy f lo mc ms : Nat} {rt : Option FieldType} {As : List Value}
    (hM : gMetX l y b nLy rt f lo mc ms (.ref (eA E k o) :: As) E G Qc XC) (w1 : Cond.methodLink own ix y ∈ gWords) (w2 : Cond.instanceMethod y ∈ gWords) (w3 : Cond.selects CN y y ∈ gWords) (w4 : Cond.initialized CN ∈ gWords) (w5 : Cond.code y b nLy rt ∈ gWords)
    (hyc : y.cls = CN) (hy : gNy y n) (hn : As.length = n) (hR : f + 1 ≤ R.frames ∧ 8 + (nLy + 11) + lo ≤ R.locals) (hls : ls.size = nL) (hst : st = As.reverse ++ .ref (eA E k o) :: rest) (hrest : (rest.map fun v => v.category).sum ≤ 8) (hd : decode cc pc = .ok (.invokevirtual ix, 3)) (hcs : cells + mc ≤ R.cells ∧ slots + ms ≤ R.slots) :
    vx_Run p l e R s m args below meth c H locs cells slots mc ms (F0 m pc ls st) rest (Qc (Value.ref (eA E k o) :: As).toArray) XC (eF E) := by
  obtain ⟨q0, h0, h1⟩ := wl_at E G ho
  rw [gCell_get hk9] at h1
  refine vx_runV (As := As) (rest := rest) ⟨C.1, C.2.1, C.2.2.2.1, C.2.2.2.2.1, C.2.2.2.2.2.1⟩ hM (cwV n C.2.2.2.2.2.1 (gwIn ?_) rfl rfl rfl ⟨hyc, hy⟩ hR) ⟨gW_blind, va_recv C.2.2.2.2.2.2.2.1 h.1 hc h1, fun U hU hW => ⟨rfl, gEnd C h hU hW⟩⟩ rfl hn hls hst (lv_room hrest) hd hcs
  intro w hw
  simp only [wsV, List.cons_append, List.nil_append, List.mem_cons] at hw
  rcases hw with rfl | rfl | rfl | rfl | rfl | hw
  · exact w1
  · exact w2
  · exact w3
  · exact w4
  · exact w5
  · exact hw
theorem g_xrunS (C : gC p s m args meth c own cc nL ret E) (h : gH E s G H locs) {ix n : Nat} {y : MethodName} {b : ByteArray} {nLy f lo mc ms : Nat} {rt : Option FieldType} {As : List Value}
    (hM : gMetX l y b nLy rt f lo mc ms As E G Qc XC) (w1 : Cond.methodLink own ix y ∈ gWords) (w2 : Cond.static y ∈ gWords) (w4 : Cond.initialized own ∈ gWords) (w5 : Cond.code y b nLy rt ∈ gWords)
    (hyc : y.cls = own) (hy : gNy y n) (hn : As.length = n) (hR : f + 1 ≤ R.frames ∧ 8 + (nLy + 11) + lo ≤ R.locals) (hls : ls.size = nL) (hst : st = As.reverse ++ rest) (hrest : (rest.map fun v => v.category).sum ≤ 8) (hd : decode cc pc = .ok (.invokestatic ix, 3)) (hcs : cells + mc ≤ R.cells ∧ slots + ms ≤ R.slots) :
    vx_Run p l e R s m args below meth c H locs cells slots mc ms (F0 m pc ls st) rest (Qc As.toArray) XC (eF E) := by
  refine vx_runS (As := As) (rest := rest) ⟨C.1, C.2.1, C.2.2.2.1, C.2.2.2.2.1, C.2.2.2.2.2.1⟩ hM (cwS n C.2.2.2.2.2.1 (gwIn ?_) rfl rfl rfl ⟨hyc, hy⟩ hR) ⟨gW_blind, fun U hU hW => ⟨rfl, gEnd C h hU hW⟩⟩ rfl hn hls hst (lv_room hrest) hd hcs
  intro w hw
  simp only [wsS, List.cons_append, List.nil_append, List.mem_cons] at hw
  rcases hw with rfl | rfl | rfl | rfl | hw
  · exact w1
  · exact w2
  · exact w4
  · exact w5
  · exact hw
variable {a : Array Value} {x r : Int}
theorem g_xci (h : gH E s G H locs) (hr : vx_Run p l e R s m args below meth c H locs cells slots mc ms (F0 m pc ls st) rest (gQiX E G1 x r a) (gXC E G1 x) (eF E))
    (kx : x ≠ 0 → ∀ (ce : Cell) (q9 : Addr) (H : Heap) (locs : List Loc), gH E s G1 H locs → H[q9]? = some ce → ce.vm = .none → s.vm.findClass (gExc x) = some ce.cls → vx_W p l e R s m args below meth c H locs (cells + mc) (slots + ms) Q (F0 m pc ls rest) q9)
    (kk : x = 0 → ∀ (H : Heap) (locs : List Loc), gH E s G1 H locs → W p l e R s m args below meth c H locs (cells + mc) (slots + ms) Q (F0 m (pc + 3) ls (vI r :: rest))) : W p l e R s m args below meth c H locs cells slots Q (F0 m pc ls st) := by
  refine vx_calli hr h.2 (fun q _ z => z) (fun q z => z) (fun q _ z => z) (fun En ce q9 u t H1 locs1 ht hvm hw hB hz1 hk1 hS hce hcv hcl => ?_) (fun r9 u t H1 locs1 ht hvm hw hB hz1 hk1 hS => ?_)
  · obtain ⟨hx, rfl⟩ := hw
    obtain ⟨rfl, hP⟩ := hB
    exact kx hx ce q9 H1 locs1 ⟨by rw [← ht]; exact hP, hS⟩ hce hcv hcl
  · obtain ⟨hx, rfl, rfl⟩ := hw
    exact kk hx H1 locs1 ⟨by rw [← ht]; exact hB.1, hS⟩
theorem g_xcv (h : gH E s G H locs) (hr : vx_Run p l e R s m args below meth c H locs cells slots mc ms (F0 m pc ls st) rest (gQvX E G1 x a) (gXC E G1 x) (eF E))
    (kx : x ≠ 0 → ∀ (ce : Cell) (q9 : Addr) (H : Heap) (locs : List Loc), gH E s G1 H locs → H[q9]? = some ce → ce.vm = .none → s.vm.findClass (gExc x) = some ce.cls → vx_W p l e R s m args below meth c H locs (cells + mc) (slots + ms) Q (F0 m pc ls rest) q9)
    (kk : x = 0 → ∀ (H : Heap) (locs : List Loc), gH E s G1 H locs → W p l e R s m args below meth c H locs (cells + mc) (slots + ms) Q (F0 m (pc + 3) ls rest)) : W p l e R s m args below meth c H locs cells slots Q (F0 m pc ls st) := by
  refine vx_callv hr h.2 (fun q _ z => z) (fun q z => z) (fun q _ z => z) (fun En ce q9 u t H1 locs1 ht hvm hw hB hz1 hk1 hS hce hcv hcl => ?_) (fun u t H1 locs1 ht hvm hw hB hz1 hk1 hS => ?_)
  · obtain ⟨hx, rfl⟩ := hw
    obtain ⟨rfl, hP⟩ := hB
    exact kx hx ce q9 H1 locs1 ⟨by rw [← ht]; exact hP, hS⟩ hce hcv hcl
  · obtain ⟨hx, rfl⟩ := hw
    exact kk hx H1 locs1 ⟨by rw [← ht]; exact hB.1, hS⟩
theorem g_xiret (C : gC p s m args meth c own cc nL (some .int) E) (h : gH E s G H locs) {r r1 x1 : Int} (he : some (G, ((0 : Int), r)) = some (G1, (x1, r1))) (hm : cells ≤ mc ∧ slots ≤ ms) (hd : decode cc pc = .ok (.ireturn, 1)) : W p l e R s m args below meth c H locs cells slots (vx_MQ below (gQiX E G1 x1 r1) XC args s mc ms (eF E)) (F0 m pc ls [vI r]) := by
  cases he
  refine W.widen hm.1 hm.2 (vx_ret ?_)
  exact W.iret C.1 C.2.1 C.2.2.1 (fun t ht hW => ⟨⟨_, G, rfl, ⟨rfl, rfl, rfl⟩, gEnd C h ht hW⟩, h.2.F ht⟩) h.2.2.2 hd C.2.2.2.2.2.2.1
theorem g_xvret (C : gC p s m args meth c own cc nL none E) (h : gH E s G H locs) {x1 : Int} (he : some (0 : Int) = some x1) (hm : cells ≤ mc ∧ slots ≤ ms) (hd : decode cc pc = .ok (.return_, 1)) : W p l e R s m args below meth c H locs cells slots (vx_MQ below (gQvX E G x1) XC args s mc ms (eF E)) (F0 m pc ls []) := by
  cases he
  refine W.widen hm.1 hm.2 (vx_ret ?_)
  exact W.vret C.1 C.2.1 C.2.2.1 (fun t ht hW => ⟨⟨G, rfl, ⟨rfl, rfl⟩, gEnd C h ht hW⟩, h.2.F ht⟩) h.2.2.2 hd C.2.2.2.2.2.2.1
end GX
end
section
def f_X2_isDelivered (G : GS) (o : Int) : Option (Int) :=
  gd (G 2 o 6) (if (G 2 o 6) = (-1) then some 0 else some 1)
set_option maxHeartbeats 4000000 in
set_option maxRecDepth 100000 in
theorem c_X2_isDelivered (l : Launch) (E : gEnv) (G : GS) (o : Int) (ho : gOk 2 o) (rz : Int) (hf : f_X2_isDelivered G o = some rz) : gMet l yX2_isDelivered cX2_isDelivered 1 (some .boolean) 0 0 0 0 [.ref (eA E 2 o)] E G (gQi E G rz) := by
  refine g_met (by decide +kernel) (Nat.le_of_ble_eq_true rfl) ?_
  intro p e s m below meth c C H locs h ls hl
  have C : gC p s m _ meth c RX2 cX2_isDelivered 1 (some .boolean) E := C
  have hl : lv_has ls 1 [(0, .ref (eA E 2 o))] := hl
  unfold f_X2_isDelivered at hf
  refine g_aload_n C hl 0 rfl rfl (gdec kX2_isDelivered 0 rfl) ?_
  refine gf_X2_31 C h ho (gdec kX2_isDelivered 1 rfl) ?_
  refine g_iconst C (gdec kX2_isDelivered 2 rfl) ?_
  obtain ⟨h1, hf⟩ := gd_s hf
  refine g_icmp_eq C (tgt := 12) h1 (by decide) (by decide) (gdec kX2_isDelivered 3 rfl) (fun c2 => ?_) (fun c2 => ?_)
  · replace hf := ifp c2 hf
    refine g_iconst C (gdec kX2_isDelivered 6 rfl) ?_
    exact g_zret C h (Or.inl rfl) (congrArg (Option.map (Prod.mk _)) hf) (gdec kX2_isDelivered 7 rfl)
  · replace hf := ifn c2 hf
    refine g_iconst C (gdec kX2_isDelivered 4 rfl) ?_
    refine g_goto C (tgt := 13) (by decide) (gdec kX2_isDelivered 5 rfl) ?_
    exact g_zret C h (Or.inr rfl) (congrArg (Option.map (Prod.mk _)) hf) (gdec kX2_isDelivered 7 rfl)
def f_X6_standsAt (G : GS) (o : Int) (p1 : Int) : Option (Int) :=
  gd (G 6 o 3) (if (G 6 o 3) = (-1) then gd (G 6 o 2) (gd p1 (if (G 6 o 2) = p1 then some 1 else some 0)) else some 0)
set_option maxHeartbeats 4000000 in
set_option maxRecDepth 100000 in
theorem c_X6_standsAt (l : Launch) (E : gEnv) (G : GS) (o : Int) (p1 : Int) (ho : gOk 6 o) (rz : Int) (hf : f_X6_standsAt G o p1 = some rz) : gMet l yX6_standsAt cX6_standsAt 2 (some .boolean) 0 0 0 0 [.ref (eA E 6 o), vI p1] E G (gQi E G rz) := by
  refine g_met (by decide +kernel) (Nat.le_of_ble_eq_true rfl) ?_
  intro p e s m below meth c C H locs h ls hl
  have C : gC p s m _ meth c RX6 cX6_standsAt 2 (some .boolean) E := C
  have hl : lv_has ls 2 [(0, .ref (eA E 6 o)), (1, vI p1)] := hl
  unfold f_X6_standsAt at hf
  refine g_aload_n C hl 0 rfl rfl (gdec kX6_standsAt 0 rfl) ?_
  refine gf_X6_41 C h ho (gdec kX6_standsAt 1 rfl) ?_
  refine g_iconst C (gdec kX6_standsAt 2 rfl) ?_
  obtain ⟨h1, hf⟩ := gd_s hf
  refine g_icmp_ne C (tgt := 20) h1 (by decide) (by decide) (gdec kX6_standsAt 3 rfl) (fun c2 => ?_) (fun c2 => ?_)
  · replace hf := ifp c2 hf
    refine g_aload_n C hl 0 rfl rfl (gdec kX6_standsAt 4 rfl) ?_
    refine gf_X6_38 C h ho (gdec kX6_standsAt 5 rfl) ?_
    refine g_iload_n C hl 1 rfl rfl (gdec kX6_standsAt 6 rfl) ?_
    obtain ⟨h3, hf⟩ := gd_s hf
    obtain ⟨h4, hf⟩ := gd_s hf
    refine g_icmp_ne C (tgt := 20) h3 h4 (by decide) (gdec kX6_standsAt 7 rfl) (fun c5 => ?_) (fun c5 => ?_)
    · replace hf := ifp c5 hf
      refine g_iconst C (gdec kX6_standsAt 8 rfl) ?_
      refine g_goto C (tgt := 21) (by decide) (gdec kX6_standsAt 9 rfl) ?_
      exact g_zret C h (Or.inr rfl) (congrArg (Option.map (Prod.mk _)) hf) (gdec kX6_standsAt 11 rfl)
    · replace hf := ifn c5 hf
      refine g_iconst C (gdec kX6_standsAt 10 rfl) ?_
      exact g_zret C h (Or.inl rfl) (congrArg (Option.map (Prod.mk _)) hf) (gdec kX6_standsAt 11 rfl)
  · replace hf := ifn c2 hf
    refine g_iconst C (gdec kX6_standsAt 10 rfl) ?_
    exact g_zret C h (Or.inl rfl) (congrArg (Option.map (Prod.mk _)) hf) (gdec kX6_standsAt 11 rfl)
def f_X6_rest (G : GS) (o : Int) (p1 : Int) : Option (GS) :=
  gd ((G 6 o 1) - p1) (some (gup G 6 o 1 (if 0 < (G 6 o 1) - p1 then (G 6 o 1) - p1 else 0)))
set_option maxHeartbeats 4000000 in
set_option maxRecDepth 100000 in
theorem c_X6_rest (l : Launch) (E : gEnv) (G : GS) (o : Int) (p1 : Int) (ho : gOk 6 o) (Gz : GS) (hf : f_X6_rest G o p1 = some Gz) : gMet l yX6_rest cX6_rest 2 none 1 21 0 0 [.ref (eA E 6 o), vI p1] E G (gQv E Gz) := by
  refine g_met (by decide +kernel) (Nat.le_of_ble_eq_true rfl) ?_
  intro p e s m below meth c C H locs h ls hl
  have C : gC p s m _ meth c RX6 cX6_rest 2 none E := C
  have hl : lv_has ls 2 [(0, .ref (eA E 6 o)), (1, vI p1)] := hl
  unfold f_X6_rest at hf
  refine g_aload_n C hl 0 rfl rfl (gdec kX6_rest 0 rfl) ?_
  refine g_iconst C (gdec kX6_rest 1 rfl) ?_
  refine g_aload_n C hl 0 rfl rfl (gdec kX6_rest 2 rfl) ?_
  refine gf_X6_15 C h ho (gdec kX6_rest 3 rfl) ?_
  refine g_iload_n C hl 1 rfl rfl (gdec kX6_rest 4 rfl) ?_
  refine g_isub C (gdec kX6_rest 5 rfl) ?_
  obtain ⟨h1, hf⟩ := gd_s hf
  refine g_max C (by decide) h1 wM_X6_57 wT_Math_max wN_java_lang_Math wC_Math_max hl.1 (by decide) (Nat.le_of_ble_eq_true rfl) (Nat.zero_le _) (Nat.zero_le _) (gdec kX6_rest 6 rfl) ?_
  refine gp_X6_15 C h ho (gdec kX6_rest 7 rfl) (fun H locs h => ?_)
  exact g_vret C h hf (gdec kX6_rest 8 rfl)
def f_X3_restTeam (G : GS) (o : Int) (p1 : Int) : Option (GS) :=
  ga (G 6 p1 2) 8 (gd (G 6 p1 1) (if 0 < (G 6 p1 1) then gd (G 1 (8 * o + (G 6 p1 2)) 1) (if 0 < (G 1 (8 * o + (G 6 p1 2)) 1) then nm (gup (gup G 1 (8 * o + (G 6 p1 2)) 1 ((G 1 (8 * o + (G 6 p1 2)) 1) - 1)) 6 p1 11 (((gup G 1 (8 * o + (G 6 p1 2)) 1 ((G 1 (8 * o + (G 6 p1 2)) 1) - 1)) 6 p1 11) + 1)) (fun G7 => bn1 (f_X6_rest (gup G7 3 o 12 ((G7 3 o 12) + 1)) p1 6) (fun G9 => some G9)) else bn1 (f_X6_rest G p1 1) (fun G11 => some G11)) else bn1 (f_X6_rest G p1 1) (fun G13 => some G13)))
set_option maxHeartbeats 4000000 in
set_option maxRecDepth 100000 in
theorem c_X3_restTeam (l : Launch) (E : gEnv) (G : GS) (o : Int) (p1 : Int) (ho : gOk 3 o) (hp1 : gOk 6 p1) (Gz : GS) (hf : f_X3_restTeam G o p1 = some Gz) : gMet l yX3_restTeam cX3_restTeam 3 none 2 42 0 0 [.ref (eA E 3 o), .ref (eA E 6 p1)] E G (gQv E Gz) := by
  refine g_met (by decide +kernel) (Nat.le_of_ble_eq_true rfl) ?_
  intro p e s m below meth c C H locs h ls hl
  have C : gC p s m _ meth c RX3 cX3_restTeam 3 none E := C
  have hl : lv_has ls 3 [(0, .ref (eA E 3 o)), (1, .ref (eA E 6 p1))] := hl
  unfold f_X3_restTeam at hf
  refine g_aload_n C hl 0 rfl rfl (gdec kX3_restTeam 0 rfl) ?_
  refine gf_X3_19 C h ho (gdec kX3_restTeam 1 rfl) ?_
  refine g_aload_n C hl 1 rfl rfl (gdec kX3_restTeam 2 rfl) ?_
  refine gf_X3_127 C h hp1 (gdec kX3_restTeam 3 rfl) ?_
  obtain ⟨h1, hf⟩ := ga_s hf
  refine g_ald15 C h (gok15 ho) h1 (gdec kX3_restTeam 4 rfl) ?_
  have k2 : gOk 1 (8 * o + (G 6 p1 2)) := gok1 (gok15 ho) h1
  refine g_astore_n C [(2, .ref (eA E 1 (8 * o + (G 6 p1 2)))), (0, .ref (eA E 3 o)), (1, .ref (eA E 6 p1))] hl rfl (by decide) rfl (gdec kX3_restTeam 5 rfl) (fun ls hl => ?_)
  refine g_aload_n C hl 2 rfl rfl (gdec kX3_restTeam 6 rfl) ?_
  refine gf_X3_130 C h hp1 (gdec kX3_restTeam 7 rfl) ?_
  obtain ⟨h3, hf⟩ := gd_s hf
  refine g_if_le C (tgt := 63) h3 (by decide) (gdec kX3_restTeam 8 rfl) (fun c4 => ?_) (fun c4 => ?_)
  · replace hf := ifp c4 hf
    refine g_aload_n C hl 0 rfl rfl (gdec kX3_restTeam 9 rfl) ?_
    refine gf_X3_133 C h k2 (gdec kX3_restTeam 10 rfl) ?_
    obtain ⟨h5, hf⟩ := gd_s hf
    refine g_if_le C (tgt := 63) h5 (by decide) (gdec kX3_restTeam 11 rfl) (fun c6 => ?_) (fun c6 => ?_)
    · replace hf := ifp c6 hf
      refine g_aload_n C hl 0 rfl rfl (gdec kX3_restTeam 12 rfl) ?_
      refine g_dup C rfl (gdec kX3_restTeam 13 rfl) ?_
      refine gf_X3_133 C h k2 (gdec kX3_restTeam 14 rfl) ?_
      refine g_iconst C (gdec kX3_restTeam 15 rfl) ?_
      refine g_isub C (gdec kX3_restTeam 16 rfl) ?_
      refine gp_X3_133 C h k2 (gdec kX3_restTeam 17 rfl) (fun H locs h => ?_)
      refine g_aload_n C hl 2 rfl rfl (gdec kX3_restTeam 18 rfl) ?_
      refine g_dup C rfl (gdec kX3_restTeam 19 rfl) ?_
      refine gf_X3_136 C h hp1 (gdec kX3_restTeam 20 rfl) ?_
      refine g_iconst C (gdec kX3_restTeam 21 rfl) ?_
      refine g_iadd C (gdec kX3_restTeam 22 rfl) ?_
      refine gp_X3_136 C h hp1 (gdec kX3_restTeam 23 rfl) (fun H locs h => ?_)
      obtain ⟨G7, e8, hf⟩ := nm_s hf
      rw [e8] at h
      refine g_aload_n C hl 1 rfl rfl (gdec kX3_restTeam 24 rfl) ?_
      refine g_dup C rfl (gdec kX3_restTeam 25 rfl) ?_
      refine gf_X3_72 C h ho (gdec kX3_restTeam 26 rfl) ?_
      refine g_iconst C (gdec kX3_restTeam 27 rfl) ?_
      refine g_iadd C (gdec kX3_restTeam 28 rfl) ?_
      refine gp_X3_72 C h ho (gdec kX3_restTeam 29 rfl) (fun H locs h => ?_)
      refine g_aload_n C hl 2 rfl rfl (gdec kX3_restTeam 30 rfl) ?_
      refine g_bipush C (gdec kX3_restTeam 31 rfl) rfl ?_
      obtain ⟨G9, q10, hf⟩ := bn1_s hf
      refine g_cv h (g_runV C h hp1 (by decide) rfl (c_X6_rest l E _ _ _ hp1 _ q10) wM_X3_137 wI_X6_rest wS_X6_rest wN_X6 wC_X6_rest rfl ny_X6_rest rfl ⟨Nat.le_of_ble_eq_true rfl, Nat.le_of_ble_eq_true rfl⟩ hl.1 rfl (Nat.le_of_ble_eq_true rfl) (gdec kX3_restTeam 32 rfl) ⟨Nat.zero_le _, Nat.zero_le _⟩) (fun H locs h => ?_)
      refine g_goto C (tgt := 68) (by decide) (gdec kX3_restTeam 33 rfl) ?_
      exact g_vret C h hf (gdec kX3_restTeam 37 rfl)
    · replace hf := ifn c6 hf
      refine g_aload_n C hl 2 rfl rfl (gdec kX3_restTeam 34 rfl) ?_
      refine g_iconst C (gdec kX3_restTeam 35 rfl) ?_
      obtain ⟨G11, q12, hf⟩ := bn1_s hf
      refine g_cv h (g_runV C h hp1 (by decide) rfl (c_X6_rest l E _ _ _ hp1 _ q12) wM_X3_137 wI_X6_rest wS_X6_rest wN_X6 wC_X6_rest rfl ny_X6_rest rfl ⟨Nat.le_of_ble_eq_true rfl, Nat.le_of_ble_eq_true rfl⟩ hl.1 rfl (Nat.le_of_ble_eq_true rfl) (gdec kX3_restTeam 36 rfl) ⟨Nat.zero_le _, Nat.zero_le _⟩) (fun H locs h => ?_)
      exact g_vret C h hf (gdec kX3_restTeam 37 rfl)
  · replace hf := ifn c4 hf
    refine g_aload_n C hl 2 rfl rfl (gdec kX3_restTeam 34 rfl) ?_
    refine g_iconst C (gdec kX3_restTeam 35 rfl) ?_
    obtain ⟨G13, q14, hf⟩ := bn1_s hf
    refine g_cv h (g_runV C h hp1 (by decide) rfl (c_X6_rest l E _ _ _ hp1 _ q14) wM_X3_137 wI_X6_rest wS_X6_rest wN_X6 wC_X6_rest rfl ny_X6_rest rfl ⟨Nat.le_of_ble_eq_true rfl, Nat.le_of_ble_eq_true rfl⟩ hl.1 rfl (Nat.le_of_ble_eq_true rfl) (gdec kX3_restTeam 36 rfl) ⟨Nat.zero_le _, Nat.zero_le _⟩) (fun H locs h => ?_)
    exact g_vret C h hf (gdec kX3_restTeam 37 rfl)
def f_X3_fittestTeamAt_L8 (G : GS) (o : Int) (p1 : Int) : Nat → Int → Int → Int → (Int → Int → Int → Option (Int)) → Option (Int)
  | 0, _, _, _, _ => none
  | n + 1, x2, x3, x4, k => gd x4 (gd (G 3 o 5) (if x4 < (G 3 o 5) then ga x4 10 (bn1 (f_X6_standsAt G (10 * o + x4) p1) (fun r6 => gd r6 (if r6 = 0 then f_X3_fittestTeamAt_L8 G o p1 n x2 x3 (x4 + 1) k else gd (G 6 (10 * o + x4) 1) (gd x3 (if (G 6 (10 * o + x4) 1) < x3 then f_X3_fittestTeamAt_L8 G o p1 n x4 (G 6 (10 * o + x4) 1) (x4 + 1) k else f_X3_fittestTeamAt_L8 G o p1 n x2 x3 (x4 + 1) k))))) else k x2 x3 x4))
def f_X3_fittestTeamAt (G : GS) (o : Int) (p1 : Int) : Option (Int) :=
  f_X3_fittestTeamAt_L8 G o p1 gFuel (-1) 101 0 (fun y2_15 y3_15 y4_15 => some y2_15)
set_option maxHeartbeats 4000000 in
set_option maxRecDepth 100000 in
theorem c_X3_fittestTeamAt (l : Launch) (E : gEnv) (G : GS) (o : Int) (p1 : Int) (ho : gOk 3 o) (rz : Int) (hf : f_X3_fittestTeamAt G o p1 = some rz) : gMet l yX3_fittestTeamAt cX3_fittestTeamAt 5 (some .int) 1 21 0 0 [.ref (eA E 3 o), vI p1] E G (gQi E G rz) := by
  refine g_met (by decide +kernel) (Nat.le_of_ble_eq_true rfl) ?_
  intro p e s m below meth c C H locs h ls hl
  have C : gC p s m _ meth c RX3 cX3_fittestTeamAt 5 (some .int) E := C
  have hl : lv_has ls 5 [(0, .ref (eA E 3 o)), (1, vI p1)] := hl
  have L8 : ∀ (n : Nat) (x2 : Int) (x3 : Int) (x4 : Int) (k : (Int → Int → Int → Option (Int))) (hK : ∀ (x2 : Int) (x3 : Int) (x4 : Int), k x2 x3 x4 = some rz → ∀ (H : Heap) (locs : List Loc), gH E s G H locs → ∀ ls, lv_has ls 5 [(0, .ref (eA E 3 o)), (1, vI p1), (2, vI x2), (3, vI x3), (4, vI x4)] → W p l e (gRm 1 21 0 0) s m ([.ref (eA E 3 o), vI p1] : List Value).toArray below meth c H locs 0 0 (MQ below (gQi E G rz) ([.ref (eA E 3 o), vI p1] : List Value).toArray s 0 0 (eF E)) (F0 m 65 ls [])), ∀ (H : Heap) (locs : List Loc), gH E s G H locs → ∀ ls, lv_has ls 5 [(0, .ref (eA E 3 o)), (1, vI p1), (2, vI x2), (3, vI x3), (4, vI x4)] → f_X3_fittestTeamAt_L8 G o p1 n x2 x3 x4 k = some rz → W p l e (gRm 1 21 0 0) s m ([.ref (eA E 3 o), vI p1] : List Value).toArray below meth c H locs 0 0 (MQ below (gQi E G rz) ([.ref (eA E 3 o), vI p1] : List Value).toArray s 0 0 (eF E)) (F0 m 8 ls []) := by
    intro n
    induction n with
    | zero =>
      intro x2 x3 x4 k hK H locs h ls hl hf
      exact absurd hf (by simp [f_X3_fittestTeamAt_L8])
    | succ n ih =>
      intro x2 x3 x4 k hK H locs h ls hl hf
      unfold f_X3_fittestTeamAt_L8 at hf
      refine g_iload C hl 4 rfl (gdec kX3_fittestTeamAt 6 rfl) ?_
      refine g_aload_n C hl 0 rfl rfl (gdec kX3_fittestTeamAt 7 rfl) ?_
      refine gf_X3_51 C h ho (gdec kX3_fittestTeamAt 8 rfl) ?_
      obtain ⟨h1, hf⟩ := gd_s hf
      obtain ⟨h2, hf⟩ := gd_s hf
      refine g_icmp_ge C (tgt := 65) h1 h2 (by decide) (gdec kX3_fittestTeamAt 9 rfl) (fun c3 => ?_) (fun c3 => ?_)
      · replace hf := ifp c3 hf
        refine g_aload_n C hl 0 rfl rfl (gdec kX3_fittestTeamAt 10 rfl) ?_
        refine gf_X3_25 C h ho (gdec kX3_fittestTeamAt 11 rfl) ?_
        refine g_iload C hl 4 rfl (gdec kX3_fittestTeamAt 12 rfl) ?_
        obtain ⟨h4, hf⟩ := ga_s hf
        refine g_ald16 C h (gok16 ho) h4 (gdec kX3_fittestTeamAt 13 rfl) ?_
        have k5 : gOk 6 (10 * o + x4) := gok6 (gok16 ho) h4
        refine g_iload_n C hl 1 rfl rfl (gdec kX3_fittestTeamAt 14 rfl) ?_
        obtain ⟨r6, q7, hf⟩ := bn1_s hf
        refine g_ci h (g_runV C h k5 (by decide) rfl (c_X6_standsAt l E _ _ _ k5 _ q7) wM_X3_224 wI_X6_standsAt wS_X6_standsAt wN_X6 wC_X6_standsAt rfl ny_X6_standsAt rfl ⟨Nat.le_of_ble_eq_true rfl, Nat.le_of_ble_eq_true rfl⟩ hl.1 rfl (Nat.le_of_ble_eq_true rfl) (gdec kX3_fittestTeamAt 15 rfl) ⟨Nat.zero_le _, Nat.zero_le _⟩) (fun H locs h => ?_)
        obtain ⟨h8, hf⟩ := gd_s hf
        refine g_if_eq C (tgt := 59) h8 (by decide) (gdec kX3_fittestTeamAt 16 rfl) (fun c9 => ?_) (fun c9 => ?_)
        · replace hf := ifp c9 hf
          refine g_iinc C (k := 4) [(4, vI (x4 + 1)), (0, .ref (eA E 3 o)), (1, vI p1), (2, vI x2), (3, vI x3)] hl rfl (by decide) rfl (gdec kX3_fittestTeamAt 32 rfl) (fun ls hl => ?_)
          refine g_goto C (tgt := 8) (by decide) (gdec kX3_fittestTeamAt 33 rfl) ?_
          exact ih _ _ _ k hK H locs h ls (lv_sub hl [1, 2, 3, 4, 0] rfl) hf
        · replace hf := ifn c9 hf
          refine g_aload_n C hl 0 rfl rfl (gdec kX3_fittestTeamAt 17 rfl) ?_
          refine gf_X3_25 C h ho (gdec kX3_fittestTeamAt 18 rfl) ?_
          refine g_iload C hl 4 rfl (gdec kX3_fittestTeamAt 19 rfl) ?_
          refine g_ald16 C h (gok16 ho) h4 (gdec kX3_fittestTeamAt 20 rfl) ?_
          have k10 : gOk 6 (10 * o + x4) := gok6 (gok16 ho) h4
          refine gf_X3_130 C h k10 (gdec kX3_fittestTeamAt 21 rfl) ?_
          refine g_iload_n C hl 3 rfl rfl (gdec kX3_fittestTeamAt 22 rfl) ?_
          obtain ⟨h11, hf⟩ := gd_s hf
          obtain ⟨h12, hf⟩ := gd_s hf
          refine g_icmp_ge C (tgt := 59) h11 h12 (by decide) (gdec kX3_fittestTeamAt 23 rfl) (fun c13 => ?_) (fun c13 => ?_)
          · replace hf := ifp c13 hf
            refine g_iload C hl 4 rfl (gdec kX3_fittestTeamAt 24 rfl) ?_
            refine g_istore_n C [(2, vI x4), (0, .ref (eA E 3 o)), (1, vI p1), (3, vI x3), (4, vI x4)] hl rfl (by decide) rfl (gdec kX3_fittestTeamAt 25 rfl) (fun ls hl => ?_)
            refine g_aload_n C hl 1 rfl rfl (gdec kX3_fittestTeamAt 26 rfl) ?_
            refine gf_X3_25 C h ho (gdec kX3_fittestTeamAt 27 rfl) ?_
            refine g_iload C hl 4 rfl (gdec kX3_fittestTeamAt 28 rfl) ?_
            refine g_ald16 C h (gok16 ho) h4 (gdec kX3_fittestTeamAt 29 rfl) ?_
            have k14 : gOk 6 (10 * o + x4) := gok6 (gok16 ho) h4
            refine gf_X3_130 C h k14 (gdec kX3_fittestTeamAt 30 rfl) ?_
            refine g_istore_n C [(3, vI (G 6 (10 * o + x4) 1)), (2, vI x4), (0, .ref (eA E 3 o)), (1, vI p1), (4, vI x4)] hl rfl (by decide) rfl (gdec kX3_fittestTeamAt 31 rfl) (fun ls hl => ?_)
            refine g_iinc C (k := 4) [(4, vI (x4 + 1)), (3, vI (G 6 (10 * o + x4) 1)), (2, vI x4), (0, .ref (eA E 3 o)), (1, vI p1)] hl rfl (by decide) rfl (gdec kX3_fittestTeamAt 32 rfl) (fun ls hl => ?_)
            refine g_goto C (tgt := 8) (by decide) (gdec kX3_fittestTeamAt 33 rfl) ?_
            exact ih _ _ _ k hK H locs h ls (lv_sub hl [3, 4, 2, 1, 0] rfl) hf
          · replace hf := ifn c13 hf
            refine g_iinc C (k := 4) [(4, vI (x4 + 1)), (0, .ref (eA E 3 o)), (1, vI p1), (2, vI x2), (3, vI x3)] hl rfl (by decide) rfl (gdec kX3_fittestTeamAt 32 rfl) (fun ls hl => ?_)
            refine g_goto C (tgt := 8) (by decide) (gdec kX3_fittestTeamAt 33 rfl) ?_
            exact ih _ _ _ k hK H locs h ls (lv_sub hl [1, 2, 3, 4, 0] rfl) hf
      · replace hf := ifn c3 hf
        exact hK _ _ _ hf H locs h ls (lv_sub hl [0, 1, 2, 3, 4] rfl)
  unfold f_X3_fittestTeamAt at hf
  refine g_iconst C (gdec kX3_fittestTeamAt 0 rfl) ?_
  refine g_istore_n C [(2, vI (-1)), (0, .ref (eA E 3 o)), (1, vI p1)] hl rfl (by decide) rfl (gdec kX3_fittestTeamAt 1 rfl) (fun ls hl => ?_)
  refine g_bipush C (gdec kX3_fittestTeamAt 2 rfl) rfl ?_
  refine g_istore_n C [(3, vI 101), (2, vI (-1)), (0, .ref (eA E 3 o)), (1, vI p1)] hl rfl (by decide) rfl (gdec kX3_fittestTeamAt 3 rfl) (fun ls hl => ?_)
  refine g_iconst C (gdec kX3_fittestTeamAt 4 rfl) ?_
  refine g_istore C [(4, vI 0), (3, vI 101), (2, vI (-1)), (0, .ref (eA E 3 o)), (1, vI p1)] hl (by decide) rfl (gdec kX3_fittestTeamAt 5 rfl) (fun ls hl => ?_)
  refine L8 gFuel _ _ _ _ (fun y2_15 y3_15 y4_15 hf H locs h ls hl => ?_) H locs h ls (lv_sub hl [3, 4, 2, 1, 0] rfl) hf
  refine g_iload_n C hl 2 rfl rfl (gdec kX3_fittestTeamAt 34 rfl) ?_
  exact g_iret C h (congrArg (Option.map (Prod.mk _)) hf) (gdec kX3_fittestTeamAt 35 rfl)
def f_X0_dropOldest_L9 : Nat → GS → Int → Int → (GS → Int → Int → Option (GS)) → Option (GS)
  | 0, _, _, _, _ => none
  | n + 1, G, x1, x2, k => gd x2 (if x2 < 4 then ga x2 4 (ga (G 12 0 x2) 6 (ga (x2 - 1) 4 (f_X0_dropOldest_L9 n (gup G 12 0 (x2 - 1) (G 12 0 x2)) x1 (x2 + 1) k))) else k G x1 x2)
def f_X0_dropOldest (G : GS) : Option (GS) :=
  ga (G 12 0 0) 6 (f_X0_dropOldest_L9 gFuel G (G 12 0 0) 1 (fun G10 y1_9 y2_9 => some (gup (gup G10 12 0 3 y1_9) 0 0 1 3)))
set_option maxHeartbeats 4000000 in
set_option maxRecDepth 100000 in
theorem c_X0_dropOldest (l : Launch) (E : gEnv) (G : GS) (Gz : GS) (hf : f_X0_dropOldest G = some Gz) : gMet l yX0_dropOldest cX0_dropOldest 3 none 0 0 0 0 [.ref (eA E 0 0)] E G (gQv E Gz) := by
  refine g_met (by decide +kernel) (Nat.le_of_ble_eq_true rfl) ?_
  intro p e s m below meth c C H locs h ls hl
  have C : gC p s m _ meth c RX0 cX0_dropOldest 3 none E := C
  have hl : lv_has ls 3 [(0, .ref (eA E 0 0))] := hl
  have L9 : ∀ (n : Nat) (G : GS) (x1 : Int) (hx1 : gOk 3 x1) (x2 : Int) (k : (GS → Int → Int → Option (GS))) (hK : ∀ (G : GS) (x1 : Int) (hx1 : gOk 3 x1) (x2 : Int), k G x1 x2 = some Gz → ∀ (H : Heap) (locs : List Loc), gH E s G H locs → ∀ ls, lv_has ls 3 [(0, .ref (eA E 0 0)), (1, .ref (eA E 3 x1)), (2, vI x2)] → W p l e (gRm 0 0 0 0) s m ([.ref (eA E 0 0)] : List Value).toArray below meth c H locs 0 0 (MQ below (gQv E Gz) ([.ref (eA E 0 0)] : List Value).toArray s 0 0 (eF E)) (F0 m 34 ls [])), ∀ (H : Heap) (locs : List Loc), gH E s G H locs → ∀ ls, lv_has ls 3 [(0, .ref (eA E 0 0)), (1, .ref (eA E 3 x1)), (2, vI x2)] → f_X0_dropOldest_L9 n G x1 x2 k = some Gz → W p l e (gRm 0 0 0 0) s m ([.ref (eA E 0 0)] : List Value).toArray below meth c H locs 0 0 (MQ below (gQv E Gz) ([.ref (eA E 0 0)] : List Value).toArray s 0 0 (eF E)) (F0 m 9 ls []) := by
    intro n
    induction n with
    | zero =>
      intro G x1 hx1 x2 k hK H locs h ls hl hf
      exact absurd hf (by simp [f_X0_dropOldest_L9])
    | succ n ih =>
      intro G x1 hx1 x2 k hK H locs h ls hl hf
      unfold f_X0_dropOldest_L9 at hf
      refine g_iload_n C hl 2 rfl rfl (gdec kX0_dropOldest 7 rfl) ?_
      refine g_iconst C (gdec kX0_dropOldest 8 rfl) ?_
      obtain ⟨h3, hf⟩ := gd_s hf
      refine g_icmp_ge C (tgt := 34) h3 (by decide) (by decide) (gdec kX0_dropOldest 9 rfl) (fun c4 => ?_) (fun c4 => ?_)
      · replace hf := ifp c4 hf
        refine g_aload_n C hl 0 rfl rfl (gdec kX0_dropOldest 10 rfl) ?_
        refine gf_X0_11 C h ok0_0 (gdec kX0_dropOldest 11 rfl) ?_
        refine g_iload_n C hl 2 rfl rfl (gdec kX0_dropOldest 12 rfl) ?_
        refine g_iconst C (gdec kX0_dropOldest 13 rfl) ?_
        refine g_isub C (gdec kX0_dropOldest 14 rfl) ?_
        refine g_aload_n C hl 0 rfl rfl (gdec kX0_dropOldest 15 rfl) ?_
        refine gf_X0_11 C h ok0_0 (gdec kX0_dropOldest 16 rfl) ?_
        refine g_iload_n C hl 2 rfl rfl (gdec kX0_dropOldest 17 rfl) ?_
        obtain ⟨h5, hf⟩ := ga_s hf
        refine g_ald12 C h ok12_0 h5 (gdec kX0_dropOldest 18 rfl) ?_
        obtain ⟨h6, hf⟩ := ga_s hf
        have k7 : gOk 3 (G 12 0 x2) := gok3 h6
        obtain ⟨h8, hf⟩ := ga_s hf
        refine g_ast12 C h ok12_0 k7 h8 (gdec kX0_dropOldest 19 rfl) (fun H locs h => ?_)
        refine g_iinc C (k := 2) [(2, vI (x2 + 1)), (0, .ref (eA E 0 0)), (1, .ref (eA E 3 x1))] hl rfl (by decide) rfl (gdec kX0_dropOldest 20 rfl) (fun ls hl => ?_)
        refine g_goto C (tgt := 9) (by decide) (gdec kX0_dropOldest 21 rfl) ?_
        exact ih _ _ hx1 _ k hK H locs h ls (lv_sub hl [1, 2, 0] rfl) hf
      · replace hf := ifn c4 hf
        exact hK _ _ hx1 _ hf H locs h ls (lv_sub hl [0, 1, 2] rfl)
  unfold f_X0_dropOldest at hf
  refine g_aload_n C hl 0 rfl rfl (gdec kX0_dropOldest 0 rfl) ?_
  refine gf_X0_11 C h ok0_0 (gdec kX0_dropOldest 1 rfl) ?_
  refine g_iconst C (gdec kX0_dropOldest 2 rfl) ?_
  refine g_ald12 C h ok12_0 (⟨by decide, by decide⟩ : (0 : Int) ≤ 0 ∧ (0 : Int) < 4) (gdec kX0_dropOldest 3 rfl) ?_
  obtain ⟨h1, hf⟩ := ga_s hf
  have k2 : gOk 3 (G 12 0 0) := gok3 h1
  refine g_astore_n C [(1, .ref (eA E 3 (G 12 0 0))), (0, .ref (eA E 0 0))] hl rfl (by decide) rfl (gdec kX0_dropOldest 4 rfl) (fun ls hl => ?_)
  refine g_iconst C (gdec kX0_dropOldest 5 rfl) ?_
  refine g_istore_n C [(2, vI 1), (1, .ref (eA E 3 (G 12 0 0))), (0, .ref (eA E 0 0))] hl rfl (by decide) rfl (gdec kX0_dropOldest 6 rfl) (fun ls hl => ?_)
  refine L9 gFuel _ _ k2 _ _ (fun G10 y1_9 hy1_9 y2_9 hf H locs h ls hl => ?_) H locs h ls (lv_sub hl [2, 1, 0] rfl) hf
  refine g_aload_n C hl 0 rfl rfl (gdec kX0_dropOldest 22 rfl) ?_
  refine gf_X0_11 C h ok0_0 (gdec kX0_dropOldest 23 rfl) ?_
  refine g_iconst C (gdec kX0_dropOldest 24 rfl) ?_
  refine g_aload_n C hl 1 rfl rfl (gdec kX0_dropOldest 25 rfl) ?_
  refine g_ast12 C h ok12_0 hy1_9 (⟨by decide, by decide⟩ : (0 : Int) ≤ 3 ∧ (3 : Int) < 4) (gdec kX0_dropOldest 26 rfl) (fun H locs h => ?_)
  refine g_aload_n C hl 0 rfl rfl (gdec kX0_dropOldest 27 rfl) ?_
  refine g_iconst C (gdec kX0_dropOldest 28 rfl) ?_
  refine gp_X0_18 C h ok0_0 (gdec kX0_dropOldest 29 rfl) (fun H locs h => ?_)
  exact g_vret C h hf (gdec kX0_dropOldest 30 rfl)
def f_X5_effort (G : GS) (o : Int) (p1 : Int) : Option (Int) :=
  gd p1 (if p1 = 0 then gd ((5 * (G 5 o 0)) + ((-4) * (G 5 o 1))) (some (if 5 < (5 * (G 5 o 0)) + ((-4) * (G 5 o 1)) then (5 * (G 5 o 0)) + ((-4) * (G 5 o 1)) else 5)) else gd ((5 * (G 5 o 0)) + (4 * (G 5 o 1))) (some (if 5 < (5 * (G 5 o 0)) + (4 * (G 5 o 1)) then (5 * (G 5 o 0)) + (4 * (G 5 o 1)) else 5)))
set_option maxHeartbeats 4000000 in
set_option maxRecDepth 100000 in
theorem c_X5_effort (l : Launch) (E : gEnv) (G : GS) (o : Int) (p1 : Int) (ho : gOk 5 o) (rz : Int) (hf : f_X5_effort G o p1 = some rz) : gMet l yX5_effort cX5_effort 3 (some .int) 1 21 0 0 [.ref (eA E 5 o), vI p1] E G (gQi E G rz) := by
  refine g_met (by decide +kernel) (Nat.le_of_ble_eq_true rfl) ?_
  intro p e s m below meth c C H locs h ls hl
  have C : gC p s m _ meth c RX5 cX5_effort 3 (some .int) E := C
  have hl : lv_has ls 3 [(0, .ref (eA E 5 o)), (1, vI p1)] := hl
  unfold f_X5_effort at hf
  refine g_iload_n C hl 1 rfl rfl (gdec kX5_effort 0 rfl) ?_
  obtain ⟨h1, hf⟩ := gd_s hf
  refine g_if_eq C (tgt := 13) h1 (by decide) (gdec kX5_effort 1 rfl) (fun c2 => ?_) (fun c2 => ?_)
  · replace hf := ifp c2 hf
    refine g_bipush C (gdec kX5_effort 7 rfl) rfl ?_
    refine g_aload_n C hl 0 rfl rfl (gdec kX5_effort 8 rfl) ?_
    refine gf_X5_13 C h ho (gdec kX5_effort 9 rfl) ?_
    refine g_imul C (gdec kX5_effort 10 rfl) ?_
    refine g_istore_n C [(2, vI ((-4) * (G 5 o 1))), (0, .ref (eA E 5 o)), (1, vI p1)] hl rfl (by decide) rfl (gdec kX5_effort 11 rfl) (fun ls hl => ?_)
    refine g_iconst C (gdec kX5_effort 12 rfl) ?_
    refine g_iconst C (gdec kX5_effort 13 rfl) ?_
    refine g_aload_n C hl 1 rfl rfl (gdec kX5_effort 14 rfl) ?_
    refine gf_X5_7 C h ho (gdec kX5_effort 15 rfl) ?_
    refine g_imul C (gdec kX5_effort 16 rfl) ?_
    refine g_iload_n C hl 0 rfl rfl (gdec kX5_effort 17 rfl) ?_
    refine g_iadd C (gdec kX5_effort 18 rfl) ?_
    obtain ⟨h3, hf⟩ := gd_s hf
    refine g_max C (by decide) h3 wM_X5_24 wT_Math_max wN_java_lang_Math wC_Math_max hl.1 (by decide) (Nat.le_of_ble_eq_true rfl) (Nat.zero_le _) (Nat.zero_le _) (gdec kX5_effort 19 rfl) ?_
    exact g_iret C h (congrArg (Option.map (Prod.mk _)) hf) (gdec kX5_effort 20 rfl)
  · replace hf := ifn c2 hf
    refine g_iconst C (gdec kX5_effort 2 rfl) ?_
    refine g_aload_n C hl 0 rfl rfl (gdec kX5_effort 3 rfl) ?_
    refine gf_X5_13 C h ho (gdec kX5_effort 4 rfl) ?_
    refine g_imul C (gdec kX5_effort 5 rfl) ?_
    refine g_goto C (tgt := 20) (by decide) (gdec kX5_effort 6 rfl) ?_
    refine g_istore_n C [(2, vI (4 * (G 5 o 1))), (0, .ref (eA E 5 o)), (1, vI p1)] hl rfl (by decide) rfl (gdec kX5_effort 11 rfl) (fun ls hl => ?_)
    refine g_iconst C (gdec kX5_effort 12 rfl) ?_
    refine g_iconst C (gdec kX5_effort 13 rfl) ?_
    refine g_aload_n C hl 1 rfl rfl (gdec kX5_effort 14 rfl) ?_
    refine gf_X5_7 C h ho (gdec kX5_effort 15 rfl) ?_
    refine g_imul C (gdec kX5_effort 16 rfl) ?_
    refine g_iload_n C hl 0 rfl rfl (gdec kX5_effort 17 rfl) ?_
    refine g_iadd C (gdec kX5_effort 18 rfl) ?_
    obtain ⟨h4, hf⟩ := gd_s hf
    refine g_max C (by decide) h4 wM_X5_24 wT_Math_max wN_java_lang_Math wC_Math_max hl.1 (by decide) (Nat.le_of_ble_eq_true rfl) (Nat.zero_le _) (Nat.zero_le _) (gdec kX5_effort 19 rfl) ?_
    exact g_iret C h (congrArg (Option.map (Prod.mk _)) hf) (gdec kX5_effort 20 rfl)
end
